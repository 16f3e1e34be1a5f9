/-! join on the two sides; the switch; one turn of the loop; the loop -/
theorem and31 (x : Int32) : ∃ j, j < 32 ∧ x &&& 31 = nI j := by
  refine ⟨(x &&& 31).toBitVec.toNat, ?_, (nI_all _).symm⟩
  rw [Int32.toBitVec_and, BitVec.toNat_and]
  exact Nat.lt_of_le_of_lt Nat.and_le_right (by decide)
theorem l_cmp {i L : Nat} (hi : i < 2 ^ 31) (hL : L ≤ 2560) (h : ¬ Int32.ofNat L - 5 < nI i) : i + 5 ≤ L := by
  by_cases h5 : 5 ≤ L
  · have e : Int32.ofNat L - 5 = nI (L - 5) := by
      have a := nI_add (L - 5) 5
      rw [show L - 5 + 5 = L by omega] at a
      show nI L - nI 5 = nI (L - 5)
      rw [← a, Int32.add_sub_cancel]
    rw [e] at h
    by_cases q : i + 5 ≤ L
    · exact q
    · exact absurd (nI_lt (show L - 5 < i by omega) hi) h
  · exfalso
    apply h
    rw [Int32.lt_iff_toInt_lt, toInt_of (n := nI i) rfl hi]
    have : (Int32.ofNat L - 5).toInt < 0 := by
      rcases (show L = 0 ∨ L = 1 ∨ L = 2 ∨ L = 3 ∨ L = 4 by omega) with rfl | rfl | rfl | rfl | rfl <;> decide
    omega
section LD
variable {p : Program} {l : Launch} {e : Env} {R : Room} {s : State} {m : MethodId} {args : Array Value} {below : List Frame} {meth : Method} {c : Code} {H : Heap} {locs : List Loc} {cells slots pc n b L i : Nat} {ls : Array Slot} {rest : List Value} {cc : ByteArray} {Q : State → Prop} {D : va_G} {ca : Nat → ClassId} {ad am : Nat → Nat} {ct : Nat → va_E} {ar : Nat → Nat → Nat} {xs : Nat → Int32}
theorem l_bool (hx : p.tables.exec = Jvm.exec) (hb : c.code = cc) {x : Int32} (d0 : decode cc pc = .ok (.ifCond .eq 7, 3)) (d1 : decode cc (pc + 3) = .ok (.iconst 1, 1)) (d2 : decode cc (pc + 4) = .ok (.goto 4, 3)) (d3 : decode cc (pc + 7) = .ok (.iconst 0, 1)) (kk : W p l e R s m args below meth c H locs cells slots Q (F0 m (pc + 8) ls (.int (zb (!decide (x = 0))) :: rest))) : W p l e R s m args below meth c H locs cells slots Q (F0 m pc ls (.int x :: rest)) := by
  refine lv_if_eq (tgt := pc + 7) hx hb d0 (by omega) (fun h => ?_) (fun h => ?_)
  · refine lv_iconst (v := 0) hx hb d3 rfl ?_
    rw [decide_eq_true h] at kk
    exact kk
  · refine lv_iconst (v := 1) hx hb d1 rfl ?_
    refine lv_goto (tgt := pc + 8) hx hb d2 (by omega) ?_
    rw [decide_eq_false h] at kk
    exact kk
/-- the switch -/
theorem l_sw (hx : p.tables.exec = Jvm.exec) (hb : c.code = code) {j : Nat} (hj : j < 32) (K : ∀ t, t ∈ [128, 161, 194, 247, 286, 299, 312, 345, 368, 381, 404, 427, 460, 483, 496, 509, 522, 555, 598, 611, 624] → W p l e R s m args below meth c H locs cells slots Q (F0 m t ls rest)) : W p l e R s m args below meth c H locs cells slots Q (F0 m 32 ls (.int (nI j) :: rest)) := by
  rcases (show j = 0 ∨ j = 1 ∨ j = 2 ∨ j = 3 ∨ j = 4 ∨ j = 5 ∨ j = 6 ∨ j = 7 ∨ j = 8 ∨ j = 9 ∨ j = 10 ∨ j = 11 ∨ j = 12 ∨ j = 13 ∨ j = 14 ∨ j = 15 ∨ j = 16 ∨ j = 17 ∨ j = 18 ∨ j = 19 ∨ 20 ≤ j by omega) with rfl | rfl | rfl | rfl | rfl | rfl | rfl | rfl | rfl | rfl | rfl | rfl | rfl | rfl | rfl | rfl | rfl | rfl | rfl | rfl | h
  · exact lv_tableIn (off := 96) (tgt := 128) hx hb d_law_32 (by decide) (by decide) (by decide) rfl (K _ (by decide))
  · exact lv_tableIn (off := 129) (tgt := 161) hx hb d_law_32 (by decide) (by decide) (by decide) rfl (K _ (by decide))
  · exact lv_tableIn (off := 162) (tgt := 194) hx hb d_law_32 (by decide) (by decide) (by decide) rfl (K _ (by decide))
  · exact lv_tableIn (off := 215) (tgt := 247) hx hb d_law_32 (by decide) (by decide) (by decide) rfl (K _ (by decide))
  · exact lv_tableIn (off := 254) (tgt := 286) hx hb d_law_32 (by decide) (by decide) (by decide) rfl (K _ (by decide))
  · exact lv_tableIn (off := 267) (tgt := 299) hx hb d_law_32 (by decide) (by decide) (by decide) rfl (K _ (by decide))
  · exact lv_tableIn (off := 280) (tgt := 312) hx hb d_law_32 (by decide) (by decide) (by decide) rfl (K _ (by decide))
  · exact lv_tableIn (off := 313) (tgt := 345) hx hb d_law_32 (by decide) (by decide) (by decide) rfl (K _ (by decide))
  · exact lv_tableIn (off := 336) (tgt := 368) hx hb d_law_32 (by decide) (by decide) (by decide) rfl (K _ (by decide))
  · exact lv_tableIn (off := 349) (tgt := 381) hx hb d_law_32 (by decide) (by decide) (by decide) rfl (K _ (by decide))
  · exact lv_tableIn (off := 372) (tgt := 404) hx hb d_law_32 (by decide) (by decide) (by decide) rfl (K _ (by decide))
  · exact lv_tableIn (off := 395) (tgt := 427) hx hb d_law_32 (by decide) (by decide) (by decide) rfl (K _ (by decide))
  · exact lv_tableIn (off := 428) (tgt := 460) hx hb d_law_32 (by decide) (by decide) (by decide) rfl (K _ (by decide))
  · exact lv_tableIn (off := 451) (tgt := 483) hx hb d_law_32 (by decide) (by decide) (by decide) rfl (K _ (by decide))
  · exact lv_tableIn (off := 464) (tgt := 496) hx hb d_law_32 (by decide) (by decide) (by decide) rfl (K _ (by decide))
  · exact lv_tableIn (off := 477) (tgt := 509) hx hb d_law_32 (by decide) (by decide) (by decide) rfl (K _ (by decide))
  · exact lv_tableIn (off := 490) (tgt := 522) hx hb d_law_32 (by decide) (by decide) (by decide) rfl (K _ (by decide))
  · exact lv_tableIn (off := 523) (tgt := 555) hx hb d_law_32 (by decide) (by decide) (by decide) rfl (K _ (by decide))
  · exact lv_tableIn (off := 566) (tgt := 598) hx hb d_law_32 (by decide) (by decide) (by decide) rfl (K _ (by decide))
  · exact lv_tableIn (off := 579) (tgt := 611) hx hb d_law_32 (by decide) (by decide) (by decide) rfl (K _ (by decide))
  · exact lv_tableOut (tgt := 624) hx hb d_law_32 (Or.inr (by rw [toInt_of (n := nI j) rfl (by omega)]; omega)) rfl (K _ (by decide))
end LD
section LE
variable {p : Program} {l : Launch} {e : Env} {s : State} {m : MethodId} {below : List Frame} {meth : Method} {c : Code} {H : Heap} {locs : List Loc} {cells slots n b L i : Nat} {ls : Array Slot} {Q : State → Prop} {D : va_G} {ca : Nat → ClassId} {ad am : Nat → Nat} {ct : Nat → va_E} {ar : Nat → Nat → Nat} {xs : Nat → Int32}
set_option maxHeartbeats 4000000 in
set_option maxRecDepth 100000 in
/-- join on the two sides -/
theorem lc_join (X : lX p s m c b L xs D ca) (hJ : lJ D ca s H locs n ad ct am ar) (hC : Cp ca n ad ct ar) (hl : lv_has ls 4 [(3, .int (nI i)), (2, .ref (am 0)), (1, .ref (ad 0)), (0, .ref b)]) (hi : i + 5 ≤ L) (hcc : cells + 3 ≤ room_1.cells) (hss : slots + 11 ≤ room_1.slots) (kk : lK p l e s m b below meth c Q D ca am (ad 0) cells slots ls) : W p l e room_1 s m #[Value.ref b] below meth c H locs cells slots Q (F0 m 247 ls []) := by
  obtain ⟨hx, hb, hml, hown, hts, hN, hK, hXs, hbl, hL⟩ := X
  obtain ⟨tt, bb, ee, N, dd, sc, sk, rw0, fk, ln, lo, st, sb, se, M, slo, hCw, hcX, hsM⟩ := hC
  obtain ⟨g1, g2, g3, g4, g5, g6, g7, g8⟩ := id hCw
  obtain ⟨x1, x2, x3, x4, x5, x6, x7, x8, x9, x10⟩ := id hcX
  have hI := lJ_dI hJ
  have hmI := lJ_mI hJ
  have hs1 := (cT_tT x1).1
  have hl2 := (cT_tT x1).2.1
  have hbs := fun i hi => (x2.1 i hi).1
  have his := fun i hi => (x2.1 i hi).2
  have ht : ar 0 0 ≤ 6 := hsM.1 ▸ hsM.2.1
  have hat : ar 6 (ar 0 0) < 90 := hsM.1 ▸ sM_lt hsM
  have hXN := xN_lt xs (i + 1)
  generalize hall : (!decide (nI (xN xs (i + 1)) = 0)) = all
  refine lv_aload_n hx hb d_law_247 rfl (lv_at hl 2 rfl) ?_
  refine l_rd hx hb hXs hbl hJ hl hL hi 1 rfl (by decide) d_law_248 d_law_249 d_law_250 d_law_251 d_law_252 ?_
  refine l_bool hx hb d_law_253 d_law_256 d_law_257 d_law_260 ?_
  rw [hall]
  refine ld_cx (index := 28) (k := 1) (As := [.int (zb all)]) (rest := []) ⟨hx, hb, hml, hown, hts⟩ (k_joinD l D ca n ad ct hI H.size _ sc g1 g3.1 sk g3.2.1 hsM.2.1 all st sb se (sd dd) M (ar 6 (sc 0 - 1) - 1) (M - 1) g5 (sM_top hCw hsM)) mk_L_28 mo_D_join me_D_D_join_D mi_D mc_D_join (by decide +kernel) ⟨rfl, rfl⟩ ⟨Nat.le_of_ble_eq_true rfl, Nat.le_of_ble_eq_true rfl⟩ hN hK hJ g1 g3.1 rfl hl.1 rfl (Nat.le_of_ble_eq_true rfl) d_law_261 ⟨by omega, by omega⟩ (fun r u hp => by
      rcases hp with ⟨-, -, rfl⟩ | ⟨-, -, h1, -, h3, -⟩
      · exact ⟨hI, fun j hj => Or.inl ⟨j, hj, rfl⟩⟩
      · rw [h1]; exact h3) (fun r u H1 locs1 hp hJ => ?_)
  have hu0 : u.2.1 0 = ad 0 := by
    rcases hp with ⟨-, -, rfl⟩ | ⟨-, -, -, h2, -⟩
    · rfl
    · exact h2 0 (by omega)
  refine lv_aload_n hx hb d_law_264 rfl (lv_at hl 1 rfl) ?_
  refine l_rd hx hb hXs hbl hJ hl hL hi 1 rfl (by decide) d_law_265 d_law_266 d_law_267 d_law_268 d_law_269 ?_
  refine l_bool hx hb d_law_270 d_law_273 d_law_274 d_law_277 ?_
  rw [hall]
  refine lm_ci (index := 32) (k := 1) (As := [.int (zb all)]) (rest := [.int r]) ⟨hx, hb, hml, hown, hts⟩ (k_joinM l D ca am ar hmI all ht (J_m hsM) hsM.2.2.2.2.2.1) mk_L_32 mo_M_join me_M_M_join_M mi_M mc_M_join (by decide +kernel) ⟨rfl, rfl⟩ ⟨Nat.le_of_ble_eq_true rfl, Nat.le_of_ble_eq_true rfl⟩ hK hJ rfl hl.1 rfl (Nat.le_of_ble_eq_true rfl) d_law_278 ⟨by omega, by omega⟩ (fun r2 ar1 H2 locs2 hp2 hJ => ?_)
  have hE := E_join hCw hcX hsM hp hp2
  exact lv_icmp_eq (tgt := 624) hx hb d_law_281 rfl (fun _ => kk _ _ _ _ _ _ 1 5 hJ hE.2 hu0 (by decide) (by decide)) (fun h => absurd hE.1 h)
/-- one turn -/
theorem l_turn (X : lX p s m c b L xs D ca) (hJ : lJ D ca s H locs n ad ct am ar) (hC : Cp ca n ad ct ar) (hl : lv_has ls 4 [(3, .int (nI i)), (2, .ref (am 0)), (1, .ref (ad 0)), (0, .ref b)]) (hi : i + 5 ≤ L) (hcc : cells + 3 ≤ room_1.cells) (hss : slots + 11 ≤ room_1.slots) (kk : lK p l e s m b below meth c Q D ca am (ad 0) cells slots ls) : W p l e room_1 s m #[Value.ref b] below meth c H locs cells slots Q (F0 m 26 ls []) := by
  obtain ⟨hx, hb, hml, hown, hts, hN, hK, hXs, hbl, hL⟩ := id X
  refine lv_aload_n hx hb d_law_26 rfl (lv_at hl 3 rfl) ?_
  refine lv_iload_n hx hb d_law_27 rfl (lv_at hl 0 rfl) ?_
  refine va_sld (A := lA s) hx hb hXs hbl (fun h => Nat.not_le_of_lt hbl h) hJ.2.2.2.2.2 (vp_in_nI (show i < L by omega) (by omega)) d_law_28 ?_
  refine lv_bipush (v := 31) hx hb d_law_29 rfl ?_
  refine lv_iand hx hb d_law_31 ?_
  obtain ⟨j, hj, hv⟩ := and31 (xs (nI i).toNatClampNeg)
  rw [hv]
  refine l_sw hx hb hj (fun t ht => ?_)
  simp only [List.mem_cons, List.not_mem_nil, or_false] at ht
  rcases ht with rfl | rfl | rfl | rfl | rfl | rfl | rfl | rfl | rfl | rfl | rfl | rfl | rfl | rfl | rfl | rfl | rfl | rfl | rfl | rfl | rfl
  · exact lc_power X hJ hC hl hi hcc hss kk
  · exact lc_leaf X hJ hC hl hi hcc hss kk
  · exact lc_equal X hJ hC hl hi hcc hss kk
  · exact lc_join X hJ hC hl hi hcc hss kk
  · exact lc_discard X hJ hC hl hi hcc hss kk
  · exact lc_accept X hJ hC hl hi hcc hss kk
  · exact lc_tell X hJ hC hl hi hcc hss kk
  · exact lc_witness X hJ hC hl hi hcc hss kk
  · exact lc_known X hJ hC hl hi hcc hss kk
  · exact lc_commit X hJ hC hl hi hcc hss kk
  · exact lc_respond X hJ hC hl hi hcc hss kk
  · exact lc_simulate X hJ hC hl hi hcc hss kk
  · exact lc_prove X hJ hC hl hi hcc hss kk
  · exact lc_hash X hJ hC hl hi hcc hss kk
  · exact lc_verify X hJ hC hl hi hcc hss kk
  · exact lc_challenge X hJ hC hl hi hcc hss kk
  · exact lc_part X hJ hC hl hi hcc hss kk
  · exact lc_change X hJ hC hl hi hcc hss kk
  · exact lc_save X hJ hC hl hi hcc hss kk
  · exact lc_extract X hJ hC hl hi hcc hss kk
  · exact kk _ _ _ _ _ _ 0 0 hJ hC rfl (by decide) (by decide)
/-- the loop -/
theorem l_loop (X : lX p s m c b L xs D ca) (hexit : ∀ (H : Heap) (locs : List Loc) (cells slots : Nat) (ls : Array Slot), va_S (lA s) s.heap H locs → cells ≤ room_1.cells → slots ≤ room_1.slots → W p l e room_1 s m #[Value.ref b] below meth c H locs cells slots Q (F0 m 630 ls [])) (am : Nat → Nat) (a0 : Nat) : ∀ (f i n : Nat) (ad : Nat → Nat) (ct : Nat → va_E) (ar : Nat → Nat → Nat) (H : Heap) (locs : List Loc) (cells slots : Nat) (ls : Array Slot), L - i ≤ f → i ≤ L → lJ D ca s H locs n ad ct am ar → Cp ca n ad ct ar → ad 0 = a0 → cells ≤ 36 + i → slots ≤ 900 + 3 * i → lv_has ls 4 [(3, .int (nI i)), (2, .ref (am 0)), (1, .ref a0), (0, .ref b)] → W p l e room_1 s m #[Value.ref b] below meth c H locs cells slots Q (F0 m 18 ls []) := by
  intro f
  induction f with
  | zero =>
    intro i n ad ct ar H locs cells slots ls hf hiL hJ hC h0 hc hs hl
    obtain ⟨hx, hb, hml, hown, hts, hN, hK, hXs, hbl, hL⟩ := id X
    have r1 : room_1.cells = 799991 := rfl
    have r2 : room_1.slots = 6702275 := rfl
    refine lv_iload_n hx hb d_law_18 rfl (lv_at hl 0 rfl) ?_
    refine lv_aload_n hx hb d_law_19 rfl (lv_at hl 3 rfl) ?_
    refine va_slen (A := lA s) hx hb hXs hbl (fun h => Nat.not_le_of_lt hbl h) hJ.2.2.2.2.2 d_law_20 ?_
    refine lv_iconst (v := 5) hx hb d_law_21 rfl ?_
    refine lv_isub hx hb d_law_22 ?_
    refine lv_icmp_gt (tgt := 630) hx hb d_law_23 rfl (fun _ => hexit _ _ _ _ _ hJ.2.2.2.2.2 (by omega) (by omega)) (fun h => ?_)
    have := l_cmp (by omega) hL h
    omega
  | succ f ih =>
    intro i n ad ct ar H locs cells slots ls hf hiL hJ hC h0 hc hs hl
    obtain ⟨hx, hb, hml, hown, hts, hN, hK, hXs, hbl, hL⟩ := id X
    have r1 : room_1.cells = 799991 := rfl
    have r2 : room_1.slots = 6702275 := rfl
    refine lv_iload_n hx hb d_law_18 rfl (lv_at hl 0 rfl) ?_
    refine lv_aload_n hx hb d_law_19 rfl (lv_at hl 3 rfl) ?_
    refine va_slen (A := lA s) hx hb hXs hbl (fun h => Nat.not_le_of_lt hbl h) hJ.2.2.2.2.2 d_law_20 ?_
    refine lv_iconst (v := 5) hx hb d_law_21 rfl ?_
    refine lv_isub hx hb d_law_22 ?_
    refine lv_icmp_gt (tgt := 630) hx hb d_law_23 rfl (fun _ => hexit _ _ _ _ _ hJ.2.2.2.2.2 (by omega) (by omega)) (fun h => ?_)
    have hi := l_cmp (by omega) hL h
    subst h0
    refine l_turn X hJ hC hl hi (by omega) (by omega) ?_
    intro n1 ad1 ct1 ar1 H1 locs1 dc ds hJ1 hC1 h01 hdc hds
    refine lv_iinc (k := 0) (v := nI (i + 5)) (lv' := [(3, .int (nI (i + 5))), (2, .ref (am 0)), (1, .ref (ad 0)), (0, .ref b)]) hx hb d_law_624 hl rfl (nI_add i 5) (by decide) rfl (fun ls hl => ?_)
    refine lv_goto (tgt := 18) hx hb d_law_627 rfl ?_
    exact ih (i + 5) n1 ad1 ct1 ar1 H1 locs1 _ _ ls (by omega) hi hJ1 hC1 h01 (by omega) (by omega) hl
end LE
