/-! the desk: extract, prove, accept -/
section DSo
variable {ca : Nat → ClassId} {ad : Nat → Nat} {ct c1 : Nat → va_E} {n : Nat} {tt bb ee dd d1 : Nat → Nat → Nat} {N : Nat} {sc : Nat → Nat} {sk rw : Nat → Option Nat} {fk ln : Nat → Nat}
theorem dS_of (h8 : ∀ k, k < N → 8 ≤ tt 3 k) (hd : dS ca ad tt bb ee N dd sc sk rw fk ln ct) (hT : tW ca ad tt bb ee 4 5 3 N d1 c1) (hf : fr tt 5 3 N ct c1) (h0 : d1 0 = dd 0) : dS ca ad tt bb ee N d1 sc sk rw fk ln c1 := by
  obtain ⟨c0, c1, c2, c6, c7, -, hln, hl2⟩ := hd
  have h : ∀ q, q < 8 → q ≠ 5 → q ≠ 3 → _ := fun q a b c => hf q b c (fun k hk => by have := h8 k hk; omega)
  exact ⟨(h 0 (by decide) (by decide) (by decide)).trans c0, (h 1 (by decide) (by decide) (by decide)).trans c1, (h 2 (by decide) (by decide) (by decide)).trans c2, (h 6 (by decide) (by decide) (by decide)).trans c6, (h 7 (by decide) (by decide) (by decide)).trans c7, hT, fun i hi => by rw [h0]; exact hln i hi, hl2⟩
theorem tW_out {jt kt jd q : Nat} {e : va_E} (h : tW ca ad tt bb ee jt kt jd N dd ct) (a : q ≠ jt) (b : q ≠ kt) (c : q ≠ jd) (d : ∀ k, k < N → q ≠ tt 3 k) (f : ∀ k, k < N → tt 0 k = 0 → q ≠ tt 4 k ∧ q ≠ tt 5 k) : tW ca ad tt bb ee jt kt jd N dd (va_up ct q e) := by
  obtain ⟨h1, h2, h3, h4⟩ := h
  refine ⟨(va_up_ne _ _ a.symm).trans h1, (va_up_ne _ _ b.symm).trans h2, (va_up_ne _ _ c.symm).trans h3, fun k hk => ⟨(va_up_ne _ _ (d k hk).symm).trans (h4 k hk).1, fun h0 => ⟨(va_up_ne _ _ (f k hk h0).1.symm).trans ((h4 k hk).2 h0).1, (va_up_ne _ _ (f k hk h0).2.symm).trans ((h4 k hk).2 h0).2⟩⟩⟩
/-- a cell that holds an object (no node) is written -/
theorem tW_obj {jt kt jd q : Nat} {e : va_E} {o : Nat × List Value} (h : tW ca ad tt bb ee jt kt jd N dd ct) (hq : ct q = .inr o) (a : q ≠ jt) (c : q ≠ jd) (d : ∀ k, k < N → q ≠ tt 3 k) : tW ca ad tt bb ee jt kt jd N dd (va_up ct q e) := by
  refine tW_out h a (fun z => ?_) c d (fun k hk h0 => ⟨fun z => ?_, fun z => ?_⟩)
  · rw [z, h.2.1] at hq; cases hq
  · rw [z, ((h.2.2.2 k hk).2 h0).1] at hq; cases hq
  · rw [z, ((h.2.2.2 k hk).2 h0).2] at hq; cases hq
theorem dS_0 (h8 : ∀ k, k < N → 8 ≤ tt 3 k) (hd : dS ca ad tt bb ee N dd sc sk rw fk ln ct) (s1 : Nat → Nat) (hs : s1 1 = sc 1) : dS ca ad tt bb ee N dd s1 sk rw fk ln (va_up ct 0 (dkC ad (trV ad tt N) s1)) := by
  obtain ⟨c0, c1, c2, c6, c7, hT, hln, hl2⟩ := hd
  refine ⟨va_up_self _ _ _, (va_up_ne _ _ (by decide)).trans c1, (va_up_ne _ _ (by decide)).trans c2, (va_up_ne _ _ (by decide)).trans c6, (va_up_ne _ _ (by decide)).trans c7, tW_obj hT c0 (by decide) (by decide) (fun k hk => by have := h8 k hk; omega), by rw [hs]; exact hln, by rw [hs]; exact hl2⟩
theorem tS_kept (h : tS n tt bb ee 4 5 3 N) (hn : 8 ≤ n) : tS n tt bb ee 6 7 3 N := ⟨by omega, by omega, h.2.2⟩
theorem tW_kept (hd : dS ca ad tt bb ee N dd sc sk rw fk ln ct) : tW ca ad tt bb ee 6 7 3 N (va_up dd 6 fk) ct := by
  obtain ⟨c0, c1, c2, c6, c7, hT, hln, hl2⟩ := hd
  refine ⟨c6, by rw [va_up_self]; exact c7, hT.2.2.1, fun k hk => ⟨((hT.2.2.2 k hk).1).trans rfl, (hT.2.2.2 k hk).2⟩⟩
end DSo

theorem d_D_extract_0 : decode c_D_extract 0 = .ok (.aload_n 0, 1) := by decide +kernel
theorem d_D_extract_1 : decode c_D_extract 1 = .ok (.getfield 19, 3) := by decide +kernel
theorem d_D_extract_4 : decode c_D_extract 4 = .ok (.ifnonnull 6, 3) := by decide +kernel
theorem d_D_extract_7 : decode c_D_extract 7 = .ok (.bipush (-2), 2) := by decide +kernel
theorem d_D_extract_9 : decode c_D_extract 9 = .ok (.ireturn, 1) := by decide +kernel
theorem d_D_extract_10 : decode c_D_extract 10 = .ok (.aload_n 0, 1) := by decide +kernel
theorem d_D_extract_11 : decode c_D_extract 11 = .ok (.getfield 49, 3) := by decide +kernel
theorem d_D_extract_14 : decode c_D_extract 14 = .ok (.ifCond .eq 32, 3) := by decide +kernel
theorem d_D_extract_17 : decode c_D_extract 17 = .ok (.aload_n 0, 1) := by decide +kernel
theorem d_D_extract_18 : decode c_D_extract 18 = .ok (.aload_n 0, 1) := by decide +kernel
theorem d_D_extract_19 : decode c_D_extract 19 = .ok (.getfield 46, 3) := by decide +kernel
theorem d_D_extract_22 : decode c_D_extract 22 = .ok (.invokevirtual 153, 3) := by decide +kernel
theorem d_D_extract_25 : decode c_D_extract 25 = .ok (.ifCond .eq 21, 3) := by decide +kernel
theorem d_D_extract_28 : decode c_D_extract 28 = .ok (.aload_n 0, 1) := by decide +kernel
theorem d_D_extract_29 : decode c_D_extract 29 = .ok (.aload_n 0, 1) := by decide +kernel
theorem d_D_extract_30 : decode c_D_extract 30 = .ok (.getfield 42, 3) := by decide +kernel
theorem d_D_extract_33 : decode c_D_extract 33 = .ok (.invokevirtual 153, 3) := by decide +kernel
theorem d_D_extract_36 : decode c_D_extract 36 = .ok (.ifCond .eq 10, 3) := by decide +kernel
theorem d_D_extract_39 : decode c_D_extract 39 = .ok (.aload_n 0, 1) := by decide +kernel
theorem d_D_extract_40 : decode c_D_extract 40 = .ok (.invokevirtual 176, 3) := by decide +kernel
theorem d_D_extract_43 : decode c_D_extract 43 = .ok (.ifCond .ne 6, 3) := by decide +kernel
theorem d_D_extract_46 : decode c_D_extract 46 = .ok (.bipush (-4), 2) := by decide +kernel
theorem d_D_extract_48 : decode c_D_extract 48 = .ok (.ireturn, 1) := by decide +kernel
theorem d_D_extract_49 : decode c_D_extract 49 = .ok (.iconst 0, 1) := by decide +kernel
theorem d_D_extract_50 : decode c_D_extract 50 = .ok (.istore_n 1, 1) := by decide +kernel
theorem d_D_extract_51 : decode c_D_extract 51 = .ok (.iconst 0, 1) := by decide +kernel
theorem d_D_extract_52 : decode c_D_extract 52 = .ok (.istore_n 2, 1) := by decide +kernel
theorem d_D_extract_53 : decode c_D_extract 53 = .ok (.iload_n 2, 1) := by decide +kernel
theorem d_D_extract_54 : decode c_D_extract 54 = .ok (.aload_n 0, 1) := by decide +kernel
theorem d_D_extract_55 : decode c_D_extract 55 = .ok (.getfield 29, 3) := by decide +kernel
theorem d_D_extract_58 : decode c_D_extract 58 = .ok (.if_icmp .ge 47, 3) := by decide +kernel
theorem d_D_extract_61 : decode c_D_extract 61 = .ok (.aload_n 0, 1) := by decide +kernel
theorem d_D_extract_62 : decode c_D_extract 62 = .ok (.getfield 42, 3) := by decide +kernel
theorem d_D_extract_65 : decode c_D_extract 65 = .ok (.iload_n 2, 1) := by decide +kernel
theorem d_D_extract_66 : decode c_D_extract 66 = .ok (.iconst 2, 1) := by decide +kernel
theorem d_D_extract_67 : decode c_D_extract 67 = .ok (.invokevirtual 164, 3) := by decide +kernel
theorem d_D_extract_70 : decode c_D_extract 70 = .ok (.aload_n 0, 1) := by decide +kernel
theorem d_D_extract_71 : decode c_D_extract 71 = .ok (.getfield 46, 3) := by decide +kernel
theorem d_D_extract_74 : decode c_D_extract 74 = .ok (.iload_n 2, 1) := by decide +kernel
theorem d_D_extract_75 : decode c_D_extract 75 = .ok (.iconst 2, 1) := by decide +kernel
theorem d_D_extract_76 : decode c_D_extract 76 = .ok (.invokevirtual 164, 3) := by decide +kernel
theorem d_D_extract_79 : decode c_D_extract 79 = .ok (.if_icmp .eq 20, 3) := by decide +kernel
theorem d_D_extract_82 : decode c_D_extract 82 = .ok (.aload_n 0, 1) := by decide +kernel
theorem d_D_extract_83 : decode c_D_extract 83 = .ok (.getfield 25, 3) := by decide +kernel
theorem d_D_extract_86 : decode c_D_extract 86 = .ok (.iload_n 2, 1) := by decide +kernel
theorem d_D_extract_87 : decode c_D_extract 87 = .ok (.aaload, 1) := by decide +kernel
theorem d_D_extract_88 : decode c_D_extract 88 = .ok (.aload_n 0, 1) := by decide +kernel
theorem d_D_extract_89 : decode c_D_extract 89 = .ok (.iload_n 2, 1) := by decide +kernel
theorem d_D_extract_90 : decode c_D_extract 90 = .ok (.invokevirtual 179, 3) := by decide +kernel
theorem d_D_extract_93 : decode c_D_extract 93 = .ok (.invokevirtual 109, 3) := by decide +kernel
theorem d_D_extract_96 : decode c_D_extract 96 = .ok (.iinc 1 1, 3) := by decide +kernel
theorem d_D_extract_99 : decode c_D_extract 99 = .ok (.iinc 2 1, 3) := by decide +kernel
theorem d_D_extract_102 : decode c_D_extract 102 = .ok (.goto (-49), 3) := by decide +kernel
theorem d_D_extract_105 : decode c_D_extract 105 = .ok (.iload_n 1, 1) := by decide +kernel
theorem d_D_extract_106 : decode c_D_extract 106 = .ok (.ireturn, 1) := by decide +kernel

section DEx
variable {p : Program} {l : Launch} {e : Env} {R : Room} {s : State} {m : MethodId} {args : Array Value} {below : List Frame} {meth : Method} {c : Code} {H0 : Heap} {cells slots : Nat} {Q : State → Prop} {A : Nat → Prop} {D : va_G} {ca : Nat → ClassId} {n : Nat} {ad : Nat → Nat}
set_option maxHeartbeats 4000000 in
set_option maxRecDepth 100000 in
theorem extractD_loop (hx : p.tables.exec = Jvm.exec) (hb : c.code = c_D_extract) (hml : c.maxLocals = 3) (hown : s.vm.findClass R_D = some m.cls) (hts : ∀ w ∈ zT, w.before args s = true) (hN : zN s) (hK : va_K D zC (zty ca) s) (hD : zD A n ad) (hAA : ∀ q, dA n ad q → A q) (hI : dI n ad) (hRf : 5 ≤ R.frames) (hRl : 200 ≤ R.locals) (hc : cells ≤ R.cells) (hsl : slots ≤ R.slots) {tt bb ee : Nat → Nat → Nat} {N : Nat} {d0 : Nat → Nat → Nat} {sc : Nat → Nat} {sk rw : Nat → Option Nat} {fk ln : Nat → Nat} {ct0 : Nat → va_E} (hn0 : 8 ≤ n) (hTS : tS n tt bb ee 4 5 3 N) (hd0 : dS ca ad tt bb ee N d0 sc sk rw fk ln ct0) (h8 : ∀ k, k < N → 8 ≤ tt 3 k) (hf1 : ftN (d0 6)) (hf2 : ftN fk) (kk : ∀ (ct : Nat → va_E) (H : Heap) (locs : List Loc) (ls : Array Slot), tW ca ad tt bb ee 4 5 3 N (exD d0 ln fk (sc 1)) ct → fr tt 5 3 N ct0 ct → va_P D zC (zl n ad ct) H → va_S A H0 H locs → lv_has ls 3 [(1, .int (nI (exC d0 fk (sc 1))))] → W p l e R s m args below meth c H locs cells slots Q (F0 m 105 ls [])) : ∀ (j i : Nat), i + j = sc 1 → ∀ (dd : Nat → Nat → Nat) (ct : Nat → va_E) (H : Heap) (locs : List Loc), dd = exD d0 ln fk i → tW ca ad tt bb ee 4 5 3 N dd ct → fr tt 5 3 N ct0 ct → va_P D zC (zl n ad ct) H → va_S A H0 H locs → ∀ (ls : Array Slot), lv_has ls 3 [(2, .int (nI i)), (1, .int (nI (exC d0 fk i))), (0, .ref (ad 0))] → W p l e R s m args below meth c H locs cells slots Q (F0 m 53 ls []) := by
  intro j
  induction j with
  | zero =>
    intro i hi dd ct H locs hde hT hfr hP hS ls hl
    obtain rfl : i = sc 1 := by omega
    have r0 : dd 0 = d0 0 := by rw [hde]; exact exD_row (by decide) (by decide) _
    have hd := dS_of h8 hd0 hT hfr r0
    obtain ⟨c0, c1, c2, c6, c7, hTW, hln, hl2⟩ := id hd
    have c4 := hTW.1
    have c5 := hTW.2.1
    have c3 := hTW.2.2.1
    refine lv_iload_n hx hb d_D_extract_53 rfl (lv_at hl 0 rfl) ?_
    refine lv_aload_n hx hb d_D_extract_54 rfl (lv_at hl 2 rfl) ?_
    refine zz_get (j := 0) (ci := 0) (C := R_D) (T := T_D) (N := 10) hx hb hts in_D hown hK hP (by omega) c0 rfl 4 (by decide) (hts _ mf_D_29) (fun _ h => h) (v := .int (nI (sc 1))) rfl d_D_extract_55 ?_
    refine lv_icmp_ge (tgt := 105) hx hb d_D_extract_58 rfl (fun h58 => ?_) (fun h58 => absurd (Int32.le_refl _) h58)
    have hl := lv_sub (l' := [(1, .int (nI (exC d0 fk (sc 1))))]) hl [1] rfl
    exact kk ct H locs ls (by rw [← hde]; exact hT) hfr hP hS hl
  | succ j ih =>
    intro i hi dd ct H locs hde hT hfr hP hS ls hl
    have hA : i < sc 1 := by omega
    have r0 : dd 0 = d0 0 := by rw [hde]; exact exD_row (by decide) (by decide) _
    have r6 : dd 6 = d0 6 := by rw [hde]; exact exD_row (by decide) (by decide) _
    have hd := dS_of h8 hd0 hT hfr r0
    obtain ⟨c0, c1, c2, c6, c7, hTW, hln, hl2⟩ := id hd
    have c4 := hTW.1
    have c5 := hTW.2.1
    have c3 := hTW.2.2.1
    have x2 := (hf1 (i * 4 + 2) (by omega)).2 (by omega)
    rw [← r6] at x2
    have y2 := (hf2 (i * 4 + 2) (by omega)).2 (by omega)
    obtain ⟨n1, n2, n3, n4⟩ := hln i hA
    obtain ⟨t1, -, -, t4⟩ := hTS.2.2.2.2 (ln i) n1
    obtain ⟨u1, u2, u3, u4, u5⟩ := t4 n2
    obtain ⟨hcn, hcl⟩ := hTW.2.2.2 (ln i) n1
    have cn := hcn.trans (ndC_0 n2)
    obtain ⟨cb, ce⟩ := hcl n2
    refine lv_iload_n hx hb d_D_extract_53 rfl (lv_at hl 0 rfl) ?_
    refine lv_aload_n hx hb d_D_extract_54 rfl (lv_at hl 2 rfl) ?_
    refine zz_get (j := 0) (ci := 0) (C := R_D) (T := T_D) (N := 10) hx hb hts in_D hown hK hP (by omega) c0 rfl 4 (by decide) (hts _ mf_D_29) (fun _ h => h) (v := .int (nI (sc 1))) rfl d_D_extract_55 ?_
    refine lv_icmp_ge (tgt := 105) hx hb d_D_extract_58 rfl (fun h58 => absurd h58 (nI_ge hA (by omega))) (fun h58 => ?_)
    refine lv_aload_n hx hb d_D_extract_61 rfl (lv_at hl 2 rfl) ?_
    refine zz_get (j := 0) (ci := 0) (C := R_D) (T := T_D) (N := 10) hx hb hts in_D hown hK hP (by omega) c0 rfl 6 (by decide) (hts _ mf_D_42) (fun _ h => h) (v := .ref (ad 4)) rfl d_D_extract_62 ?_
    refine lv_iload_n hx hb d_D_extract_65 rfl (lv_at hl 0 rfl) ?_
    refine lv_iconst (v := 2) hx hb d_D_extract_66 rfl ?_
    refine zz_cV (index := 164) (n := 2) (As := [.int (nI i), .int 2]) (rest := []) ⟨hx, hb, hml, hown, hts⟩ (k_get l D ca n ad ct 4 5 (dd 6) (by omega) (by omega) c4 c5 i 2 (by omega)) mk_D_164 mo_T_get me_T_T_get_T mi_T mc_T_get (by decide +kernel) ⟨rfl, rfl⟩ ⟨Nat.le_trans (by decide) hRf, Nat.le_trans (by decide) hRl⟩ (dd_pre hN hK hP (j := 4) (by omega) c4 (r := (R_T, T_T, 1)) rfl) rfl hl.1 rfl (Nat.le_of_ble_eq_true rfl) d_D_extract_67 ⟨hc, hsl⟩ ?_
    refine lv_aload_n hx hb d_D_extract_70 rfl (lv_at hl 2 rfl) ?_
    refine zz_get (j := 0) (ci := 0) (C := R_D) (T := T_D) (N := 10) hx hb hts in_D hown hK hP (by omega) c0 rfl 7 (by decide) (hts _ mf_D_46) (fun _ h => h) (v := .ref (ad 6)) rfl d_D_extract_71 ?_
    refine lv_iload_n hx hb d_D_extract_74 rfl (lv_at hl 0 rfl) ?_
    refine lv_iconst (v := 2) hx hb d_D_extract_75 rfl ?_
    refine zz_cV (index := 164) (n := 2) (As := [.int (nI i), .int 2]) (rest := [.int (nI (dd 6 (i * 4 + 2)))]) ⟨hx, hb, hml, hown, hts⟩ (k_get l D ca n ad ct 6 7 fk (by omega) (by omega) c6 c7 i 2 (by omega)) mk_D_164 mo_T_get me_T_T_get_T mi_T mc_T_get (by decide +kernel) ⟨rfl, rfl⟩ ⟨Nat.le_trans (by decide) hRf, Nat.le_trans (by decide) hRl⟩ (dd_pre hN hK hP (j := 6) (by omega) c6 (r := (R_T, T_T, 1)) rfl) rfl hl.1 rfl (Nat.le_of_ble_eq_true rfl) d_D_extract_76 ⟨hc, hsl⟩ ?_
    refine lv_icmp_eq (tgt := 99) hx hb d_D_extract_79 rfl (fun h79 => ?_) (fun h79 => ?_)
    · skip
      have eq : dd 6 (i * 4 + 2) = fk (i * 4 + 2) := (zn_inj (by omega) (by omega)).mp h79
      rw [r6] at eq
      have xC : exC d0 fk (i + 1) = exC d0 fk i := if_pos eq
      have xD : exD d0 ln fk (i + 1) = dd := by rw [hde]; exact if_pos eq
      refine lv_iinc (k := 0) (v := nI (i + 1)) (lv' := [(2, .int (nI (i + 1))), (1, .int (nI (exC d0 fk i))), (0, .ref (ad 0))]) hx hb d_D_extract_99 hl rfl (nI_1 _) (by decide) rfl (fun ls hl => ?_)
      refine lv_goto (tgt := 53) hx hb d_D_extract_102 rfl ?_
      have hl := lv_sub (l' := [(2, .int (nI (i + 1))), (1, .int (nI (exC d0 fk i))), (0, .ref (ad 0))]) hl [0, 1, 2] rfl
      rw [← xC] at hl
      exact ih (i + 1) (by omega) dd ct H locs xD.symm hT hfr hP hS ls hl
    · skip
      have eq : ¬ d0 6 (i * 4 + 2) = fk (i * 4 + 2) := fun q => h79 (by rw [r6, q])
      have xC : exC d0 fk (i + 1) = exC d0 fk i + 1 := if_neg eq
      have xD : exD d0 ln fk (i + 1) = zs (zs dd 1 (ln i) 1) 2 (ln i) (gvD (dd 6) fk i) := by rw [r6, hde]; exact if_neg eq
      refine lv_aload_n hx hb d_D_extract_82 rfl (lv_at hl 2 rfl) ?_
      refine zz_get (j := 0) (ci := 0) (C := R_D) (T := T_D) (N := 10) hx hb hts in_D hown hK hP (by omega) c0 rfl 3 (by decide) (hts _ mf_D_25) (fun _ h => h) (v := .ref (ad 2)) rfl d_D_extract_83 ?_
      refine lv_iload_n hx hb d_D_extract_86 rfl (lv_at hl 0 rfl) ?_
      refine dd_aald hx hb hK hP (j := 2) (by omega) (t0 := 3) (Or.inr rfl) c2 (i) rfl (by omega) (by decide) (v := .ref (ad (tt 3 (ln i)))) (by rw [n4]; rfl) d_D_extract_87 ?_
      refine lv_aload_n hx hb d_D_extract_88 rfl (lv_at hl 2 rfl) ?_
      refine lv_iload_n hx hb d_D_extract_89 rfl (lv_at hl 0 rfl) ?_
      refine zz_cV (index := 179) (n := 1) (As := [.int (nI i)]) (rest := [.ref (ad (tt 3 (ln i)))]) ⟨hx, hb, hml, hown, hts⟩ (k_givenAway l D ca n ad ct tt bb ee N dd sc sk rw fk ln hn0 hTS hd i (by omega) (by rw [r6]; exact hf1) hf2) mk_D_179 mo_D_givenAway me_D_D_givenAway_D mi_D mc_D_givenAway (by decide +kernel) ⟨rfl, rfl⟩ ⟨Nat.le_trans (by decide) hRf, Nat.le_trans (by decide) hRl⟩ (dd_pre hN hK hP (j := 0) (by omega) c0 (r := (R_D, T_D, 10)) rfl) rfl hl.1 rfl (Nat.le_of_ble_eq_true rfl) d_D_extract_90 ⟨hc, hsl⟩ ?_
      refine dd_cv (index := 109) (k := 1) (As := [.int (nI (gvD (dd 6) fk i))]) (rest := []) ⟨hx, hb, hml, hown, hts⟩ (k_learn l D ca n ad ct hI (tt 3 (ln i)) (tt 4 (ln i)) (tt 5 (ln i)) (tt 6 (ln i)) (bb (ln i)) (ee (ln i)) (dd 0 (ln i)) (dd 1 (ln i)) (dd 2 (ln i)) (dd 3 (ln i)) t1 u1 u2 u3 cn cb ce (gvD (dd 6) fk i)) mk_D_109 mo_F_learn me_F_F_learn_F mi_F mc_F_learn (by decide +kernel) ⟨rfl, rfl⟩ ⟨Nat.le_trans (by decide) hRf, Nat.le_trans (by decide) hRl⟩ (dd_pre hN hK hP (j := tt 3 (ln i)) t1 cn (r := (R_F, T_F, 7)) rfl) hS hAA rfl hl.1 rfl (Nat.le_of_ble_eq_true rfl) d_D_extract_93 ⟨hc, hsl⟩ (fun ct1 H locs hct1 hP hS => ?_)
      have hTF := tW_nd hTS hTW n1 (d1 := zs (zs dd 1 (ln i) 1) 2 (ln i) (gvD (dd 6) fk i)) (fun j q hq => by rw [zs_at, if_neg (by omega), zs_at, if_neg (by omega)]) (e := .inr (4, [.int 1, .ref (ad (tt 4 (ln i))), .ref (ad (tt 5 (ln i))), .int (nI (dd 0 (ln i))), .int (nI 1), .int (nI (gvD (dd 6) fk i)), .int (nI (dd 3 (ln i)))])) (by rw [ndC_0 n2]; simp [zs_at])
      rw [← hct1] at hTF
      obtain ⟨hT2, hfr2⟩ := hTF
      refine lv_iinc (k := 1) (v := nI ((exC d0 fk i) + 1)) (lv' := [(1, .int (nI ((exC d0 fk i) + 1))), (2, .int (nI i)), (0, .ref (ad 0))]) hx hb d_D_extract_96 hl rfl (nI_1 _) (by decide) rfl (fun ls hl => ?_)
      refine lv_iinc (k := 1) (v := nI (i + 1)) (lv' := [(2, .int (nI (i + 1))), (1, .int (nI ((exC d0 fk i) + 1))), (0, .ref (ad 0))]) hx hb d_D_extract_99 hl rfl (nI_1 _) (by decide) rfl (fun ls hl => ?_)
      refine lv_goto (tgt := 53) hx hb d_D_extract_102 rfl ?_
      have hl := lv_sub (l' := [(2, .int (nI (i + 1))), (1, .int (nI ((exC d0 fk i) + 1))), (0, .ref (ad 0))]) hl [0, 1, 2] rfl
      rw [← xC] at hl
      exact ih (i + 1) (by omega) _ ct1 H locs xD.symm hT2 (fr_tr hfr hfr2) hP hS ls hl
end DEx

set_option maxHeartbeats 4000000 in
set_option maxRecDepth 100000 in
/-- extract() -/
theorem k_extractD (l : Launch) (D : va_G) (ca : Nat → ClassId) (n : Nat) (ad : Nat → Nat) (ct : Nat → va_E) (hI : dI n ad) (tt bb ee : Nat → Nat → Nat) (N : Nat) (dd : Nat → Nat → Nat) (sc : Nat → Nat) (sk rw : Nat → Option Nat) (fk ln : Nat → Nat) (hn0 : 8 ≤ n) (hTS : tS n tt bb ee 4 5 3 N) (hd : dS ca ad tt bb ee N dd sc sk rw fk ln ct) (h8 : ∀ k, k < N → 8 ≤ tt 3 k) (hN15 : N ≤ 15) (hnm : ∀ k, k < N → tt 0 k = 0 → dd 0 k < 8) (hkp : sc 2 < 2) (hf1 : ftN (dd 6)) (hf2 : ftN fk) (V1 V2 : Nat → Nat) (hV1 : ∀ k, k < N → V1 k = dV tt (va_up dd 6 fk) V1 k) (hV1b : vB V1 N) (hV2 : ∀ k, k < N → V2 k = dV tt dd V2 k) (hV2b : vB V2 N) : Met l y_D_extract (Cond.code y_D_extract c_D_extract 3 (some .int) :: zT) ({ frames := 21, cells := 0, slots := 0, locals := 840 }) (va_Pc [.ref (ad 0)] (dw D ca n ad ct)) (va_Qi (fun r ct1 => (N = 0 ∧ r = -2 ∧ ct1 = ct) ∨ (0 < N ∧ (((decide (sc 2 = 1) && ((hoAll tt bb ee dd ln fk (sc 1) && !decide (V1 (N - 1) = 4294967295)) && ((hoAll tt bb ee dd ln (dd 6) (sc 1) && !decide (V2 (N - 1) = 4294967295)) && smAllD tt dd ln fk (sc 1)))) = false ∧ r = -4 ∧ ct1 = ct) ∨ ((decide (sc 2 = 1) && ((hoAll tt bb ee dd ln fk (sc 1) && !decide (V1 (N - 1) = 4294967295)) && ((hoAll tt bb ee dd ln (dd 6) (sc 1) && !decide (V2 (N - 1) = 4294967295)) && smAllD tt dd ln fk (sc 1)))) = true ∧ r = nI (exC dd fk (sc 1)) ∧ tW ca ad tt bb ee 4 5 3 N (exD dd ln fk (sc 1)) ct1 ∧ fr tt 5 3 N ct ct1)))) (dw D ca n ad) (dA n ad)) 0 0 (dA n ad) := by
  refine Met.ofW (cc := c_D_extract) (maxL := 3) (ret := (some .int)) (by decide) rfl ?_
  intro p e s m args below meth c s₁ B hml hv
  obtain ⟨rfl, hN, hK, hP⟩ := hv
  have hx := B.exec
  have hb := B.bytes
  have hr := B.returns
  have hts0 := atoms_spec (ws := Cond.code y_D_extract c_D_extract 3 (some .int) :: zT) B.pre
  have hts := fun w h => hts0 w (List.mem_cons_of_mem _ h)
  have hown : s.vm.findClass R_D = some m.cls := findClass_of_methodNamed B.named
  have hlocks := B.notSynchronized
  have hD := dI_D hI
  have hS : va_S (dA n ad) s.heap s.heap [] := va_S.rf
  have hAA : ∀ q, dA n ad q → dA n ad q := fun _ h => h
  obtain ⟨c0, c1, c2, c6, c7, hTW, hln, hl2⟩ := id hd
  have c4 := hTW.1
  have c5 := hTW.2.1
  have c3 := hTW.2.2.1
  have hl := lv_entry ([.ref (ad 0)]) (n := 3) (Nat.le_of_ble_eq_true rfl)
  rw [lg_entry_eq]
  generalize (lg_sl ([.ref (ad 0)]) ++ List.replicate (3 - (lg_sl ([.ref (ad 0)])).length) Slot.unset).toArray = ls at hl ⊢
  have hl : lv_has ls 3 [(0, .ref (ad 0))] := hl
  rcases Nat.eq_zero_or_pos N with hN0 | hN0
  · rw [trV_0 hN0] at c0
    refine lv_aload_n hx hb d_D_extract_0 rfl (lv_at hl 0 rfl) ?_
    refine zz_get (j := 0) (ci := 0) (C := R_D) (T := T_D) (N := 10) hx hb hts in_D hown hK hP (by omega) c0 rfl 2 (by decide) (hts _ mf_D_19) (fun _ h => h) (v := .null) rfl d_D_extract_1 ?_
    refine lv_ifnonnullN hx hb d_D_extract_4 ?_
    refine lv_bipush (v := (-2)) hx hb d_D_extract_7 rfl ?_
    exact W.iret hx hb hr (fun t ht hW => ⟨⟨_, ct, rfl, Or.inl ⟨hN0, rfl, rfl⟩, zN_warm hW hN, va_K.moved hW.alike hK, by rw [ht]; exact hP⟩, hS.F ht⟩) hS.2.2 d_D_extract_9
  · have hNs : ¬ N = 0 := by omega
    rw [trV_s hNs] at c0
    have hd : dS ca ad tt bb ee N dd sc sk rw fk ln ct := hd
    refine lv_aload_n hx hb d_D_extract_0 rfl (lv_at hl 0 rfl) ?_
    refine zz_get (j := 0) (ci := 0) (C := R_D) (T := T_D) (N := 10) hx hb hts in_D hown hK hP (by omega) c0 rfl 2 (by decide) (hts _ mf_D_19) (fun _ h => h) (v := .ref (ad (tt 3 (N - 1)))) rfl d_D_extract_1 ?_
    refine lv_ifnonnull (tgt := 10) hx hb d_D_extract_4 rfl ?_
    refine lv_aload_n hx hb d_D_extract_10 rfl (lv_at hl 0 rfl) ?_
    refine zz_get (j := 0) (ci := 0) (C := R_D) (T := T_D) (N := 10) hx hb hts in_D hown hK hP (by omega) c0 rfl 8 (by decide) (hts _ mf_D_49) (fun _ h => h) (v := .int (nI (sc 2))) rfl d_D_extract_11 ?_
    refine lv_if_eq (tgt := 46) hx hb d_D_extract_14 rfl (fun h14 => ?_) (fun h14 => ?_)
    · skip
      have v := b_z hkp h14
      have hq : (decide (sc 2 = 1) && ((hoAll tt bb ee dd ln fk (sc 1) && !decide (V1 (N - 1) = 4294967295)) && ((hoAll tt bb ee dd ln (dd 6) (sc 1) && !decide (V2 (N - 1) = 4294967295)) && smAllD tt dd ln fk (sc 1)))) = false := by rw [v]; rfl
      refine lv_bipush (v := (-4)) hx hb d_D_extract_46 rfl ?_
      exact W.iret hx hb hr (fun t ht hW => ⟨⟨_, ct, rfl, Or.inr ⟨hN0, Or.inl ⟨hq, rfl, rfl⟩⟩, zN_warm hW hN, va_K.moved hW.alike hK, by rw [ht]; exact hP⟩, hS.F ht⟩) hS.2.2 d_D_extract_48
    · skip
      have v := b_o hkp h14
      refine lv_aload_n hx hb d_D_extract_17 rfl (lv_at hl 0 rfl) ?_
      refine lv_aload_n hx hb d_D_extract_18 rfl (lv_at hl 0 rfl) ?_
      refine zz_get (j := 0) (ci := 0) (C := R_D) (T := T_D) (N := 10) hx hb hts in_D hown hK hP (by omega) c0 rfl 7 (by decide) (hts _ mf_D_46) (fun _ h => h) (v := .ref (ad 6)) rfl d_D_extract_19 ?_
      refine zz_cV (index := 153) (n := 1) (As := [.ref (ad 6)]) (rest := []) ⟨hx, hb, hml, hown, hts⟩ (k_isAcceptedD l D ca n ad ct tt bb ee N dd sc sk rw fk ln hn0 hTS hd h8 hN15 6 7 fk (by omega) (by omega) c6 c7 hf2 (tS_kept hTS hn0) (tW_kept hd) hnm V1 hV1 hV1b hNs) mk_D_153 mo_D_isAccepted me_D_D_isAccepted_D mi_D mc_D_isAccepted (by decide +kernel) ⟨rfl, rfl⟩ ⟨by decide, by decide⟩ (dd_pre hN hK hP (j := 0) (by omega) c0 (r := (R_D, T_D, 10)) rfl) rfl hl.1 rfl (Nat.le_of_ble_eq_true rfl) d_D_extract_22 ⟨Nat.zero_le _, Nat.zero_le _⟩ ?_
      refine lv_if_eq (tgt := 46) hx hb d_D_extract_25 rfl (fun h25 => ?_) (fun h25 => ?_)
      · skip
        have hq : (decide (sc 2 = 1) && ((hoAll tt bb ee dd ln fk (sc 1) && !decide (V1 (N - 1) = 4294967295)) && ((hoAll tt bb ee dd ln (dd 6) (sc 1) && !decide (V2 (N - 1) = 4294967295)) && smAllD tt dd ln fk (sc 1)))) = false := by rw [zb_eq h25, Bool.false_and, Bool.and_false]
        refine lv_bipush (v := (-4)) hx hb d_D_extract_46 rfl ?_
        exact W.iret hx hb hr (fun t ht hW => ⟨⟨_, ct, rfl, Or.inr ⟨hN0, Or.inl ⟨hq, rfl, rfl⟩⟩, zN_warm hW hN, va_K.moved hW.alike hK, by rw [ht]; exact hP⟩, hS.F ht⟩) hS.2.2 d_D_extract_48
      · skip
        have v2 := zb_ne h25
        refine lv_aload_n hx hb d_D_extract_28 rfl (lv_at hl 0 rfl) ?_
        refine lv_aload_n hx hb d_D_extract_29 rfl (lv_at hl 0 rfl) ?_
        refine zz_get (j := 0) (ci := 0) (C := R_D) (T := T_D) (N := 10) hx hb hts in_D hown hK hP (by omega) c0 rfl 6 (by decide) (hts _ mf_D_42) (fun _ h => h) (v := .ref (ad 4)) rfl d_D_extract_30 ?_
        refine zz_cV (index := 153) (n := 1) (As := [.ref (ad 4)]) (rest := []) ⟨hx, hb, hml, hown, hts⟩ (k_isAcceptedD l D ca n ad ct tt bb ee N dd sc sk rw fk ln hn0 hTS hd h8 hN15 4 5 (dd 6) (by omega) (by omega) c4 c5 hf1 hTS (by rw [va_up_d6]; exact hTW) hnm V2 (by rw [va_up_d6]; exact hV2) hV2b hNs) mk_D_153 mo_D_isAccepted me_D_D_isAccepted_D mi_D mc_D_isAccepted (by decide +kernel) ⟨rfl, rfl⟩ ⟨by decide, by decide⟩ (dd_pre hN hK hP (j := 0) (by omega) c0 (r := (R_D, T_D, 10)) rfl) rfl hl.1 rfl (Nat.le_of_ble_eq_true rfl) d_D_extract_33 ⟨Nat.zero_le _, Nat.zero_le _⟩ ?_
        refine lv_if_eq (tgt := 46) hx hb d_D_extract_36 rfl (fun h36 => ?_) (fun h36 => ?_)
        · skip
          have hq : (decide (sc 2 = 1) && ((hoAll tt bb ee dd ln fk (sc 1) && !decide (V1 (N - 1) = 4294967295)) && ((hoAll tt bb ee dd ln (dd 6) (sc 1) && !decide (V2 (N - 1) = 4294967295)) && smAllD tt dd ln fk (sc 1)))) = false := by rw [zb_eq h36, Bool.false_and, Bool.and_false, Bool.and_false]
          refine lv_bipush (v := (-4)) hx hb d_D_extract_46 rfl ?_
          exact W.iret hx hb hr (fun t ht hW => ⟨⟨_, ct, rfl, Or.inr ⟨hN0, Or.inl ⟨hq, rfl, rfl⟩⟩, zN_warm hW hN, va_K.moved hW.alike hK, by rw [ht]; exact hP⟩, hS.F ht⟩) hS.2.2 d_D_extract_48
        · skip
          have v3 := zb_ne h36
          refine lv_aload_n hx hb d_D_extract_39 rfl (lv_at hl 0 rfl) ?_
          refine zz_cV (index := 176) (n := 0) (As := []) (rest := []) ⟨hx, hb, hml, hown, hts⟩ (k_sameD l D ca n ad ct tt bb ee N dd sc sk rw fk ln hn0 hTS hd hf1 hf2) mk_D_176 mo_D_sameCommitments me_D_D_sameCommitments_D mi_D mc_D_sameCommitments (by decide +kernel) ⟨rfl, rfl⟩ ⟨by decide, by decide⟩ (dd_pre hN hK hP (j := 0) (by omega) c0 (r := (R_D, T_D, 10)) rfl) rfl hl.1 rfl (Nat.le_of_ble_eq_true rfl) d_D_extract_40 ⟨Nat.zero_le _, Nat.zero_le _⟩ ?_
          refine lv_if_ne (tgt := 49) hx hb d_D_extract_43 rfl (fun h43 => ?_) (fun h43 => ?_)
          · skip
            have hq : (decide (sc 2 = 1) && ((hoAll tt bb ee dd ln fk (sc 1) && !decide (V1 (N - 1) = 4294967295)) && ((hoAll tt bb ee dd ln (dd 6) (sc 1) && !decide (V2 (N - 1) = 4294967295)) && smAllD tt dd ln fk (sc 1)))) = true := by rw [v, v2, v3, zb_ne h43]; rfl
            refine lv_iconst (v := 0) hx hb d_D_extract_49 rfl ?_
            refine lv_istore_n (lv' := [(1, .int 0), (0, .ref (ad 0))]) hx hb d_D_extract_50 rfl hl (by decide) rfl (fun ls hl => ?_)
            refine lv_iconst (v := 0) hx hb d_D_extract_51 rfl ?_
            refine lv_istore_n (lv' := [(2, .int 0), (1, .int 0), (0, .ref (ad 0))]) hx hb d_D_extract_52 rfl hl (by decide) rfl (fun ls hl => ?_)
            have hl : lv_has ls 3 [(2, .int (nI 0)), (1, .int (nI (exC dd fk 0))), (0, .ref (ad 0))] := hl
            refine extractD_loop hx hb hml hown hts hN hK hD hAA hI (by decide) (by decide) (Nat.zero_le _) (Nat.zero_le _) hn0 hTS hd h8 hf1 hf2 (fun ct1 H locs ls hTW2 hfr2 hP hS hl => ?_) (sc 1) 0 (Nat.zero_add _) dd ct _ _ rfl hTW fr_rf hP hS ls hl
            refine lv_iload_n hx hb d_D_extract_105 rfl (lv_at hl 0 rfl) ?_
            exact W.iret hx hb hr (fun t ht hW => ⟨⟨_, ct1, rfl, Or.inr ⟨hN0, Or.inr ⟨hq, rfl, hTW2, hfr2⟩⟩, zN_warm hW hN, va_K.moved hW.alike hK, by rw [ht]; exact hP⟩, hS.F ht⟩) hS.2.2 d_D_extract_106
          · skip
            have hq : (decide (sc 2 = 1) && ((hoAll tt bb ee dd ln fk (sc 1) && !decide (V1 (N - 1) = 4294967295)) && ((hoAll tt bb ee dd ln (dd 6) (sc 1) && !decide (V2 (N - 1) = 4294967295)) && smAllD tt dd ln fk (sc 1)))) = false := by rw [zb_eq h43, Bool.and_false, Bool.and_false, Bool.and_false]
            refine lv_bipush (v := (-4)) hx hb d_D_extract_46 rfl ?_
            exact W.iret hx hb hr (fun t ht hW => ⟨⟨_, ct, rfl, Or.inr ⟨hN0, Or.inl ⟨hq, rfl, rfl⟩⟩, zN_warm hW hN, va_K.moved hW.alike hK, by rw [ht]; exact hP⟩, hS.F ht⟩) hS.2.2 d_D_extract_48
