/-! the desk: prove, accept -/
def fr8 (tt : Nat → Nat → Nat) (N : Nat) (ct c1 : Nat → va_E) : Prop := ∀ q, 8 ≤ q → (∀ k, k < N → q ≠ tt 3 k) → c1 q = ct q
theorem tW_arr {ca : Nat → ClassId} {ad : Nat → Nat} {ct : Nat → va_E} {tt bb ee dd : Nat → Nat → Nat} {jt kt jd N q : Nat} {e : va_E} {cA : ClassId} {m : Nat} {x : (Nat → Int64) ⊕ (Nat → UInt32) ⊕ (Nat → UInt64) ⊕ (Nat → Option Nat)} (h : tW ca ad tt bb ee jt kt jd N dd ct) (hq : ct q = .inl (cA, m, .inr x)) : tW ca ad tt bb ee jt kt jd N dd (va_up ct q e) := by
  refine tW_out h (fun z => ?_) (fun z => ?_) (fun z => ?_) (fun k hk z => ?_) (fun k hk h0 => ⟨fun z => ?_, fun z => ?_⟩)
  · rw [z, h.1] at hq; cases hq
  · rw [z, h.2.1] at hq; cases hq
  · rw [z, h.2.2.1] at hq; cases hq
  · rw [z, (h.2.2.2 k hk).1] at hq
    obtain ⟨o, ho⟩ := ndC_obj ad tt dd k
    rw [ho] at hq; cases hq
  · rw [z, ((h.2.2.2 k hk).2 h0).1] at hq; cases hq
  · rw [z, ((h.2.2.2 k hk).2 h0).2] at hq; cases hq

theorem d_D_prove_0 : decode c_D_prove 0 = .ok (.aload_n 0, 1) := by decide +kernel
theorem d_D_prove_1 : decode c_D_prove 1 = .ok (.iload_n 1, 1) := by decide +kernel
theorem d_D_prove_2 : decode c_D_prove 2 = .ok (.invokevirtual 135, 3) := by decide +kernel
theorem d_D_prove_5 : decode c_D_prove 5 = .ok (.istore_n 2, 1) := by decide +kernel
theorem d_D_prove_6 : decode c_D_prove 6 = .ok (.iload_n 2, 1) := by decide +kernel
theorem d_D_prove_7 : decode c_D_prove 7 = .ok (.ifCond .ge 5, 3) := by decide +kernel
theorem d_D_prove_10 : decode c_D_prove 10 = .ok (.iload_n 2, 1) := by decide +kernel
theorem d_D_prove_11 : decode c_D_prove 11 = .ok (.ireturn, 1) := by decide +kernel
theorem d_D_prove_12 : decode c_D_prove 12 = .ok (.aload_n 0, 1) := by decide +kernel
theorem d_D_prove_13 : decode c_D_prove 13 = .ok (.invokevirtual 139, 3) := by decide +kernel
theorem d_D_prove_16 : decode c_D_prove 16 = .ok (.istore_n 3, 1) := by decide +kernel
theorem d_D_prove_17 : decode c_D_prove 17 = .ok (.aload_n 0, 1) := by decide +kernel
theorem d_D_prove_18 : decode c_D_prove 18 = .ok (.iload_n 3, 1) := by decide +kernel
theorem d_D_prove_19 : decode c_D_prove 19 = .ok (.invokevirtual 143, 3) := by decide +kernel
theorem d_D_prove_22 : decode c_D_prove 22 = .ok (.pop, 1) := by decide +kernel
theorem d_D_prove_23 : decode c_D_prove 23 = .ok (.iload_n 3, 1) := by decide +kernel
theorem d_D_prove_24 : decode c_D_prove 24 = .ok (.ireturn, 1) := by decide +kernel

set_option maxHeartbeats 4000000 in
set_option maxRecDepth 100000 in
/-- prove(seed) -/
theorem k_proveD (l : Launch) (D : va_G) (ca : Nat → ClassId) (n : Nat) (ad : Nat → Nat) (ct : Nat → va_E) (hI : dI n ad) (tt bb ee : Nat → Nat → Nat) (N : Nat) (dd : Nat → Nat → Nat) (sc : Nat → Nat) (sk rw : Nat → Option Nat) (fk ln : Nat → Nat) (hn0 : 8 ≤ n) (hTS : tS n tt bb ee 4 5 3 N) (hd : dS ca ad tt bb ee N dd sc sk rw fk ln ct) (h8 : ∀ k, k < N → 8 ≤ tt 3 k) (hN15 : N ≤ 15) (K : Nat → Nat) (hKe : ∀ k, k < N → K k = dK tt dd K k) (hK2 : ∀ k, k < N → K k < 2) (hnm : ∀ k, k < N → tt 0 k = 0 → dd 0 k < 8) (sd : Nat) (hGG : 0 < N → K (N - 1) = 1 → ∃ G : Nat → Prop, gD tt (dc tt bb ee K (N - 1) true 0 (zs dd 7 0 sd)) N G ∧ G (N - 1)) : Met l y_D_prove (Cond.code y_D_prove c_D_prove 4 (some .int) :: zT) ({ frames := 21, cells := 0, slots := 0, locals := 840 }) (va_Pc [.ref (ad 0), .int (nI sd)] (dw D ca n ad ct)) (va_Qi (fun r ct1 => (N = 0 ∧ r = -2 ∧ ct1 = ct) ∨ (0 < N ∧ ((¬ K (N - 1) = 1 ∧ r = -3 ∧ ct1 = ct) ∨ (K (N - 1) = 1 ∧ r = nI (hsD tt bb ee (dc tt bb ee K (N - 1) true 0 (zs dd 7 0 sd)) ln (sc 1) % 2147483648 % 5003) ∧ dS ca ad tt bb ee N (dq tt (N - 1) (hsD tt bb ee (dc tt bb ee K (N - 1) true 0 (zs dd 7 0 sd)) ln (sc 1) % 2147483648 % 5003) (dc tt bb ee K (N - 1) true 0 (zs dd 7 0 sd))) (va_up sc 3 1) sk rw fk ln ct1 ∧ fr8 tt N ct ct1)))) (dw D ca n ad) (dA n ad)) 0 0 (dA n ad) := by
  refine Met.ofW (cc := c_D_prove) (maxL := 4) (ret := (some .int)) (by decide) rfl ?_
  intro p e s m args below meth c s₁ B hml hv
  obtain ⟨rfl, hN, hK, hP⟩ := hv
  have hx := B.exec
  have hb := B.bytes
  have hr := B.returns
  have hts0 := atoms_spec (ws := Cond.code y_D_prove c_D_prove 4 (some .int) :: zT) B.pre
  have hts := fun w h => hts0 w (List.mem_cons_of_mem _ h)
  have hown : s.vm.findClass R_D = some m.cls := findClass_of_methodNamed B.named
  have hlocks := B.notSynchronized
  have hD := dI_D hI
  have hS : va_S (dA n ad) s.heap s.heap [] := va_S.rf
  have hAA : ∀ q, dA n ad q → dA n ad q := fun _ h => h
  obtain ⟨c0, c1, c2, c6, c7, hTW, hln, hl2⟩ := id hd
  have c4 := hTW.1
  have c5 := hTW.2.1
  have c3 := hTW.2.2.1
  have hl := lv_entry ([.ref (ad 0), .int (nI sd)]) (n := 4) (Nat.le_of_ble_eq_true rfl)
  rw [lg_entry_eq]
  generalize (lg_sl ([.ref (ad 0), .int (nI sd)]) ++ List.replicate (4 - (lg_sl ([.ref (ad 0), .int (nI sd)])).length) Slot.unset).toArray = ls at hl ⊢
  have hl : lv_has ls 4 [(0, .ref (ad 0)), (1, .int (nI sd))] := hl
  refine lv_aload_n hx hb d_D_prove_0 rfl (lv_at hl 0 rfl) ?_
  refine lv_iload_n hx hb d_D_prove_1 rfl (lv_at hl 1 rfl) ?_
  refine dd_ci (index := 135) (k := 1) (As := [.int (nI sd)]) (rest := []) ⟨hx, hb, hml, hown, hts⟩ (k_commitD l D ca n ad ct hI tt bb ee N dd sc sk rw fk ln hn0 hTS hd h8 hN15 K hKe hK2 hnm sd) mk_D_135 mo_D_commit me_D_D_commit_D mi_D mc_D_commit (by decide +kernel) ⟨rfl, rfl⟩ ⟨by decide, by decide⟩ (dd_pre hN hK hP (j := 0) (by omega) c0 (r := (R_D, T_D, 10)) rfl) hS hAA rfl hl.1 rfl (Nat.le_of_ble_eq_true rfl) d_D_prove_2 ⟨Nat.zero_le _, Nat.zero_le _⟩ (fun r ct1 H locs hct1 hP hS => ?_)
  rcases hct1 with ⟨p1, rfl, e1⟩ | ⟨p1, ⟨p2, rfl, e1⟩ | ⟨p2, rfl, ct2, hT2, hfr2, hct1⟩⟩
  · skip
    refine lv_istore_n (lv' := [(2, .int ((-2))), (0, .ref (ad 0)), (1, .int (nI sd))]) hx hb d_D_prove_5 rfl hl (by decide) rfl (fun ls hl => ?_)
    refine lv_iload_n hx hb d_D_prove_6 rfl (lv_at hl 0 rfl) ?_
    refine lv_if_ge (tgt := 12) hx hb d_D_prove_7 rfl (fun h7 => absurd h7 (by decide)) (fun h7 => ?_)
    refine lv_iload_n hx hb d_D_prove_10 rfl (lv_at hl 0 rfl) ?_
    exact W.iret hx hb hr (fun t ht hW => ⟨⟨_, ct1, rfl, Or.inl ⟨p1, rfl, e1⟩, zN_warm hW hN, va_K.moved hW.alike hK, by rw [ht]; exact hP⟩, hS.F ht⟩) hS.2.2 d_D_prove_11
  · skip
    refine lv_istore_n (lv' := [(2, .int ((-3))), (0, .ref (ad 0)), (1, .int (nI sd))]) hx hb d_D_prove_5 rfl hl (by decide) rfl (fun ls hl => ?_)
    refine lv_iload_n hx hb d_D_prove_6 rfl (lv_at hl 0 rfl) ?_
    refine lv_if_ge (tgt := 12) hx hb d_D_prove_7 rfl (fun h7 => absurd h7 (by decide)) (fun h7 => ?_)
    refine lv_iload_n hx hb d_D_prove_10 rfl (lv_at hl 0 rfl) ?_
    exact W.iret hx hb hr (fun t ht hW => ⟨⟨_, ct1, rfl, Or.inr ⟨p1, Or.inl ⟨p2, rfl, e1⟩⟩, zN_warm hW hN, va_K.moved hW.alike hK, by rw [ht]; exact hP⟩, hS.F ht⟩) hS.2.2 d_D_prove_11
  · skip
    have hNs : ¬ N = 0 := by omega
    obtain ⟨d2, hd2⟩ : ∃ d, d = dc tt bb ee K (N - 1) true 0 (zs dd 7 0 sd) := ⟨_, rfl⟩
    rw [← hd2] at hT2
    have r0 : d2 0 = dd 0 := by funext i; rw [hd2]; exact (dc_keep _ _ _ _ _ _ (Or.inl (by decide))).trans (zs_nj _ _ _ _ (by decide))
    have hds2 := dS_0 h8 (dS_of h8 hd hT2 hfr2 r0) (va_up sc 3 1) (va_up_ne _ _ (by decide))
    have hE : va_up ct2 0 (dkC ad (trV ad tt N) (va_up sc 3 1)) = ct1 := by rw [hct1, trV_s hNs]; rfl
    rw [hE] at hds2
    obtain ⟨G, hG, hGr⟩ := hGG p1 p2
    rw [← hd2] at hG
    obtain ⟨hh, hhe⟩ : ∃ z, z = hsD tt bb ee d2 ln (sc 1) % 2147483648 % 5003 := ⟨_, rfl⟩
    have hh5 : hh < 5003 := by rw [hhe]; exact Nat.mod_lt _ (by decide)
    have c0 := hds2.1
    rw [trV_s hNs] at c0
    refine lv_istore_n (lv' := [(2, .int 0), (0, .ref (ad 0)), (1, .int (nI sd))]) hx hb d_D_prove_5 rfl hl (by decide) rfl (fun ls hl => ?_)
    refine lv_iload_n hx hb d_D_prove_6 rfl (lv_at hl 0 rfl) ?_
    refine lv_if_ge (tgt := 12) hx hb d_D_prove_7 rfl (fun h7 => ?_) (fun h7 => absurd (by decide) h7)
    refine lv_aload_n hx hb d_D_prove_12 rfl (lv_at hl 1 rfl) ?_
    refine zz_cV (index := 139) (n := 0) (As := []) (rest := []) ⟨hx, hb, hml, hown, hts⟩ (k_hashD l D ca n ad ct1 tt bb ee N d2 (va_up sc 3 1) sk rw fk ln hn0 hTS hds2) mk_D_139 mo_D_hash me_D_D_hash_D mi_D mc_D_hash (by decide +kernel) ⟨rfl, rfl⟩ ⟨by decide, by decide⟩ (dd_pre hN hK hP (j := 0) (by omega) c0 (r := (R_D, T_D, 10)) rfl) rfl hl.1 rfl (Nat.le_of_ble_eq_true rfl) d_D_prove_13 ⟨Nat.zero_le _, Nat.zero_le _⟩ ?_
    refine zz_as (y := nI hh) (by rw [if_neg hNs, hhe, va_up_ne _ _ (by decide)]) ?_
    refine lv_istore_n (lv' := [(3, .int (nI hh)), (2, .int 0), (0, .ref (ad 0)), (1, .int (nI sd))]) hx hb d_D_prove_16 rfl hl (by decide) rfl (fun ls hl => ?_)
    refine lv_aload_n hx hb d_D_prove_17 rfl (lv_at hl 2 rfl) ?_
    refine lv_iload_n hx hb d_D_prove_18 rfl (lv_at hl 0 rfl) ?_
    refine dd_ci (index := 143) (k := 1) (As := [.int (nI hh)]) (rest := []) ⟨hx, hb, hml, hown, hts⟩ (k_respondD l D ca n ad ct1 hI tt bb ee N d2 (va_up sc 3 1) sk rw fk ln hn0 hTS hds2 h8 hN15 (by rw [va_up_self]; decide) (fun _ _ => ⟨G, hG, hGr⟩) hh (by omega)) mk_D_143 mo_D_respond me_D_D_respond_D mi_D mc_D_respond (by decide +kernel) ⟨rfl, rfl⟩ ⟨by decide, by decide⟩ (dd_pre hN hK hP (j := 0) (by omega) c0 (r := (R_D, T_D, 10)) rfl) hS hAA rfl hl.1 rfl (Nat.le_of_ble_eq_true rfl) d_D_prove_19 ⟨Nat.zero_le _, Nat.zero_le _⟩ (fun r ct2 H locs hct2 hP hS => ?_)
    have hex : ex hh = true := decide_eq_true hh5
    obtain ⟨rfl, hT3, hfr3⟩ : r = 0 ∧ tW ca ad tt bb ee 4 5 3 N (dq tt (N - 1) hh d2) ct2 ∧ fr tt 5 3 N ct1 ct2 := by
      rcases hct2 with ⟨z, -⟩ | ⟨-, ⟨z, -⟩ | ⟨-, ⟨z, -⟩ | ⟨-, z1, z2, z3⟩⟩⟩
      · exact absurd z hNs
      · rw [hex] at z; exact absurd z (by decide)
      · rw [va_up_self] at z; exact absurd z (by decide)
      · exact ⟨z1, z2, z3⟩
    refine lv_pop hx hb d_D_prove_22 rfl ?_
    refine lv_iload_n hx hb d_D_prove_23 rfl (lv_at hl 0 rfl) ?_
    exact W.iret hx hb hr (fun t ht hW => ⟨⟨_, ct2, rfl, Or.inr ⟨p1, Or.inr ⟨p2, by rw [hhe, hd2], by rw [← hd2, ← hhe]; exact dS_of h8 hds2 hT3 hfr3 (dq_row (by decide) _ _ _), fun q a b => (hfr3 q (by omega) (by omega) b).trans (by rw [hct1, va_up_ne _ _ (by omega)]; exact hfr2 q (by omega) (by omega) b)⟩⟩, zN_warm hW hN, va_K.moved hW.alike hK, by rw [ht]; exact hP⟩, hS.F ht⟩) hS.2.2 d_D_prove_24

theorem d_D_accept_0 : decode c_D_accept 0 = .ok (.aload_n 0, 1) := by decide +kernel
theorem d_D_accept_1 : decode c_D_accept 1 = .ok (.getfield 15, 3) := by decide +kernel
theorem d_D_accept_4 : decode c_D_accept 4 = .ok (.iconst 1, 1) := by decide +kernel
theorem d_D_accept_5 : decode c_D_accept 5 = .ok (.if_icmp .eq 5, 3) := by decide +kernel
theorem d_D_accept_8 : decode c_D_accept 8 = .ok (.iconst (-1), 1) := by decide +kernel
theorem d_D_accept_9 : decode c_D_accept 9 = .ok (.ireturn, 1) := by decide +kernel
theorem d_D_accept_10 : decode c_D_accept 10 = .ok (.aload_n 0, 1) := by decide +kernel
theorem d_D_accept_11 : decode c_D_accept 11 = .ok (.aload_n 0, 1) := by decide +kernel
theorem d_D_accept_12 : decode c_D_accept 12 = .ok (.getfield 11, 3) := by decide +kernel
theorem d_D_accept_15 : decode c_D_accept 15 = .ok (.iconst 0, 1) := by decide +kernel
theorem d_D_accept_16 : decode c_D_accept 16 = .ok (.aaload, 1) := by decide +kernel
theorem d_D_accept_17 : decode c_D_accept 17 = .ok (.putfield 19, 3) := by decide +kernel
theorem d_D_accept_20 : decode c_D_accept 20 = .ok (.aload_n 0, 1) := by decide +kernel
theorem d_D_accept_21 : decode c_D_accept 21 = .ok (.invokevirtual 85, 3) := by decide +kernel
theorem d_D_accept_24 : decode c_D_accept 24 = .ok (.aload_n 0, 1) := by decide +kernel
theorem d_D_accept_25 : decode c_D_accept 25 = .ok (.aload_n 0, 1) := by decide +kernel
theorem d_D_accept_26 : decode c_D_accept 26 = .ok (.getfield 19, 3) := by decide +kernel
theorem d_D_accept_29 : decode c_D_accept 29 = .ok (.aload_n 0, 1) := by decide +kernel
theorem d_D_accept_30 : decode c_D_accept 30 = .ok (.getfield 25, 3) := by decide +kernel
theorem d_D_accept_33 : decode c_D_accept 33 = .ok (.iconst 0, 1) := by decide +kernel
theorem d_D_accept_34 : decode c_D_accept 34 = .ok (.invokevirtual 96, 3) := by decide +kernel
theorem d_D_accept_37 : decode c_D_accept 37 = .ok (.putfield 29, 3) := by decide +kernel
theorem d_D_accept_40 : decode c_D_accept 40 = .ok (.aload_n 0, 1) := by decide +kernel
theorem d_D_accept_41 : decode c_D_accept 41 = .ok (.getfield 42, 3) := by decide +kernel
theorem d_D_accept_44 : decode c_D_accept 44 = .ok (.invokevirtual 100, 3) := by decide +kernel
theorem d_D_accept_47 : decode c_D_accept 47 = .ok (.aload_n 0, 1) := by decide +kernel
theorem d_D_accept_48 : decode c_D_accept 48 = .ok (.iconst 0, 1) := by decide +kernel
theorem d_D_accept_49 : decode c_D_accept 49 = .ok (.putfield 49, 3) := by decide +kernel
theorem d_D_accept_52 : decode c_D_accept 52 = .ok (.aload_n 0, 1) := by decide +kernel
theorem d_D_accept_53 : decode c_D_accept 53 = .ok (.iconst 0, 1) := by decide +kernel
theorem d_D_accept_54 : decode c_D_accept 54 = .ok (.putfield 53, 3) := by decide +kernel
theorem d_D_accept_57 : decode c_D_accept 57 = .ok (.aload_n 0, 1) := by decide +kernel
theorem d_D_accept_58 : decode c_D_accept 58 = .ok (.getfield 29, 3) := by decide +kernel
theorem d_D_accept_61 : decode c_D_accept 61 = .ok (.ireturn, 1) := by decide +kernel

set_option maxHeartbeats 4000000 in
set_option maxRecDepth 100000 in
/-- accept() -/
theorem k_acceptD (l : Launch) (D : va_G) (ca : Nat → ClassId) (n : Nat) (ad : Nat → Nat) (ct : Nat → va_E) (hI : dI n ad) (tv : Value) (sc : Nat → Nat) (sk rw : Nat → Option Nat) (fk : Nat → Nat) (hn0 : 8 ≤ n) (c0 : ct 0 = dkC ad tv sc) (c1 : ct 1 = skC ca sk) (c2 : ct 2 = rwC ca rw) (c6 : ct 6 = .inr (5, [.ref (ad 7)])) (c7 : ct 7 = .inl (ca 0, 32, .inl (zf fk))) (hsc : sc 0 ≤ 6) (tt bb ee : Nat → Nat → Nat) (N : Nat) (dd : Nat → Nat → Nat) (lo ln1 : Nat → Nat) (hF : sc 0 = 1 → tS n tt bb ee 4 5 3 N ∧ tW ca ad tt bb ee 4 5 3 N dd ct ∧ (∀ k, k < N → 8 ≤ tt 3 k) ∧ 0 < N ∧ N ≤ 15 ∧ sk 0 = some (ad (tt 3 (N - 1))) ∧ tOK (tt 0) lo N ∧ (∀ k, k < N → tt 0 k ≠ 0 → tt 1 k = lo (k - 1) - 1 ∧ tt 2 k = k - 1) ∧ cl (tt 0) N ≤ 8 ∧ lo (N - 1) = 0) (hln1 : ∀ i, i < cl (tt 0) N → ln1 i < N ∧ tt 0 (ln1 i) = 0 ∧ cl (tt 0) (ln1 i) = i) : Met l y_D_accept (Cond.code y_D_accept c_D_accept 1 (some .int) :: zT) ({ frames := 20, cells := 0, slots := 0, locals := 800 }) (va_Pc [.ref (ad 0)] (dw D ca n ad ct)) (va_Qi (fun r ct1 => (¬ sc 0 = 1 ∧ r = -1 ∧ ct1 = ct) ∨ (sc 0 = 1 ∧ r = nI (cl (tt 0) N) ∧ ∃ (d1 : Nat → Nat → Nat) (rw1 : Nat → Option Nat) (f1 : Nat → Nat), (∀ i, i < 32 → f1 i = 0) ∧ nlR lo tt ad (N - 1) dd d1 rw rw1 ∧ dS ca ad tt bb ee N (va_up d1 6 f1) (fun i => if i = 1 then cl (tt 0) N else 0) (va_up sk 0 none) rw1 fk ln1 ct1 ∧ fr8 tt N ct ct1)) (dw D ca n ad) (dA n ad)) 0 0 (dA n ad) := by
  refine Met.ofW (cc := c_D_accept) (maxL := 1) (ret := (some .int)) (by decide) rfl ?_
  intro p e s m args below meth c s₁ B hml hv
  obtain ⟨rfl, hN, hK, hP⟩ := hv
  have hx := B.exec
  have hb := B.bytes
  have hr := B.returns
  have hts0 := atoms_spec (ws := Cond.code y_D_accept c_D_accept 1 (some .int) :: zT) B.pre
  have hts := fun w h => hts0 w (List.mem_cons_of_mem _ h)
  have hown : s.vm.findClass R_D = some m.cls := findClass_of_methodNamed B.named
  have hlocks := B.notSynchronized
  have hD := dI_D hI
  have hS : va_S (dA n ad) s.heap s.heap [] := va_S.rf
  have hAA : ∀ q, dA n ad q → dA n ad q := fun _ h => h
  have hl := lv_entry ([.ref (ad 0)]) (n := 1) (Nat.le_of_ble_eq_true rfl)
  rw [lg_entry_eq]
  generalize (lg_sl ([.ref (ad 0)]) ++ List.replicate (1 - (lg_sl ([.ref (ad 0)])).length) Slot.unset).toArray = ls at hl ⊢
  have hl : lv_has ls 1 [(0, .ref (ad 0))] := hl
  have c0x := c0
  refine lv_aload_n hx hb d_D_accept_0 rfl (lv_at hl 0 rfl) ?_
  refine zz_get (j := 0) (ci := 0) (C := R_D) (T := T_D) (N := 10) hx hb hts in_D hown hK hP (by omega) c0 rfl 1 (by decide) (hts _ mf_D_15) (fun _ h => h) (v := .int (nI (sc 0))) rfl d_D_accept_1 ?_
  refine lv_iconst (v := 1) hx hb d_D_accept_4 rfl ?_
  refine lv_icmp_eq (tgt := 10) hx hb d_D_accept_5 rfl (fun h5 => ?_) (fun h5 => ?_)
  · skip
    have z : sc 0 = 1 := (zn_inj (by omega) (by decide)).mp h5
    obtain ⟨hTS, hTW, h8, hN1, hN15, hsk, hO, hch, hcl, hlo0⟩ := hF z
    have c4 := hTW.1
    have c5 := hTW.2.1
    have c3 := hTW.2.2.1
    refine lv_aload_n hx hb d_D_accept_10 rfl (lv_at hl 0 rfl) ?_
    refine lv_aload_n hx hb d_D_accept_11 rfl (lv_at hl 0 rfl) ?_
    refine zz_get (j := 0) (ci := 0) (C := R_D) (T := T_D) (N := 10) hx hb hts in_D hown hK hP (by omega) c0 rfl 0 (by decide) (hts _ mf_D_11) (fun _ h => h) (v := .ref (ad 1)) rfl d_D_accept_12 ?_
    refine lv_iconst (v := 0) hx hb d_D_accept_15 rfl ?_
    refine dd_aald hx hb hK hP (j := 1) (by omega) (t0 := 2) (Or.inl rfl) c1 0 rfl (by omega) (by decide) (v := .ref (ad (tt 3 (N - 1)))) (by rw [hsk]; rfl) d_D_accept_16 ?_
    refine zz_put (j := 0) (ci := 0) (C := R_D) (T := T_D) (N := 10) (v := .ref (ad (tt 3 (N - 1)))) (ty := ft_D 2) hx hb hts in_D ft_D ft_D_ok fn_D hown hK hP hD hS (by omega) c0 rfl 2 (by decide) (hts _ mf_D_19) (fun _ h => h) rfl (ft_D_ok 2 (by decide)) rfl rfl (Nat.le_of_ble_eq_true rfl) d_D_accept_17 (fun H locs hP hS => ?_)
    have hP : va_P D zC (zl n ad (va_up ct 0 (.inr (0, [.ref (ad 1), .int (nI (sc 0)), .ref (ad (tt 3 (N - 1))), .ref (ad 2), .int (nI (sc 1)), .ref (ad 3), .ref (ad 4), .ref (ad 6), .int (nI (sc 2)), .int (nI (sc 3))])))) H := hP
    obtain ⟨ct1, hct1⟩ : ∃ c, c = va_up ct 0 (.inr (0, [.ref (ad 1), .int (nI (sc 0)), .ref (ad (tt 3 (N - 1))), .ref (ad 2), .int (nI (sc 1)), .ref (ad 3), .ref (ad 4), .ref (ad 6), .int (nI (sc 2)), .int (nI (sc 3))])) := ⟨_, rfl⟩
    rw [← hct1] at hP
    have c1 : ct1 1 = .inl (ca 2, 6, .inr (.inr (.inr (.inr sk)))) := by rw [hct1]; exact (va_up_ne _ _ (by omega)).trans c1
    have c2 : ct1 2 = .inl (ca 3, 8, .inr (.inr (.inr (.inr rw)))) := by rw [hct1]; exact (va_up_ne _ _ (by omega)).trans c2
    have c4 : ct1 4 = .inr (5, [.ref (ad 5)]) := by rw [hct1]; exact (va_up_ne _ _ (by omega)).trans c4
    have c5 : ct1 5 = .inl (ca 0, 32, .inl (zf (dd 6))) := by rw [hct1]; exact (va_up_ne _ _ (by omega)).trans c5
    have c6 : ct1 6 = .inr (5, [.ref (ad 7)]) := by rw [hct1]; exact (va_up_ne _ _ (by omega)).trans c6
    have c7 : ct1 7 = .inl (ca 0, 32, .inl (zf fk)) := by rw [hct1]; exact (va_up_ne _ _ (by omega)).trans c7
    have c3 : ct1 3 = .inr (6, [.int (nI (dd 7 0))]) := by rw [hct1]; exact (va_up_ne _ _ (by omega)).trans c3
    have c0 : ct1 0 = .inr (0, [.ref (ad 1), .int (nI (sc 0)), .ref (ad (tt 3 (N - 1))), .ref (ad 2), .int (nI (sc 1)), .ref (ad 3), .ref (ad 4), .ref (ad 6), .int (nI (sc 2)), .int (nI (sc 3))]) := by rw [hct1]; exact va_up_self _ _ _
    have hTW : tW ca ad tt bb ee 4 5 3 N dd ct1 := by rw [hct1]; exact tW_obj hTW c0x (by decide) (by decide) (fun k hk => by have := h8 k hk; omega)
    have c0x := c0
    refine lv_aload_n hx hb d_D_accept_20 rfl (lv_at hl 0 rfl) ?_
    refine dd_cv (index := 85) (k := 0) (As := []) (rest := []) ⟨hx, hb, hml, hown, hts⟩ (k_drop l D ca n ad ct1 hI (.ref (ad (tt 3 (N - 1)))) sc hn0 c0 sk c1 (by omega) hsc) mk_D_85 mo_D_drop me_D_D_drop_D mi_D mc_D_drop (by decide +kernel) ⟨rfl, rfl⟩ ⟨by decide, by decide⟩ (dd_pre hN hK hP (j := 0) (by omega) c0 (r := (R_D, T_D, 10)) rfl) hS hAA rfl hl.1 rfl (Nat.le_of_ble_eq_true rfl) d_D_accept_21 ⟨Nat.zero_le _, Nat.zero_le _⟩ (fun ct2 H locs hct2 hP hS => ?_)
    have hTW : tW ca ad tt bb ee 4 5 3 N dd ct2 := by
      rw [hct2]
      refine tW_arr (tW_obj hTW c0 (by decide) (by decide) (fun k hk => by have := h8 k hk; omega)) (x := .inr (.inr (.inr sk))) ((va_up_ne _ _ (by decide)).trans c1)
    have c0 : ct2 0 = .inr (0, [.ref (ad 1), .int (nI (sc 0 - 1)), .ref (ad (tt 3 (N - 1))), .ref (ad 2), .int (nI (sc 1)), .ref (ad 3), .ref (ad 4), .ref (ad 6), .int (nI (sc 2)), .int (nI (sc 3))]) := by rw [hct2]; exact (va_up_ne _ _ (by decide)).trans (va_up_self _ _ _)
    have c1 : ct2 1 = .inl (ca 2, 6, .inr (.inr (.inr (.inr (va_up sk (sc 0 - 1) none))))) := by rw [hct2]; exact va_up_self _ _ _
    have c2 : ct2 2 = .inl (ca 3, 8, .inr (.inr (.inr (.inr rw)))) := by rw [hct2]; exact (va_up_ne _ _ (by decide)).trans ((va_up_ne _ _ (by decide)).trans c2)
    have c3 : ct2 3 = .inr (6, [.int (nI (dd 7 0))]) := by rw [hct2]; exact (va_up_ne _ _ (by decide)).trans ((va_up_ne _ _ (by decide)).trans c3)
    have c4 : ct2 4 = .inr (5, [.ref (ad 5)]) := by rw [hct2]; exact (va_up_ne _ _ (by decide)).trans ((va_up_ne _ _ (by decide)).trans c4)
    have c5 : ct2 5 = .inl (ca 0, 32, .inl (zf (dd 6))) := by rw [hct2]; exact (va_up_ne _ _ (by decide)).trans ((va_up_ne _ _ (by decide)).trans c5)
    have c6 : ct2 6 = .inr (5, [.ref (ad 7)]) := by rw [hct2]; exact (va_up_ne _ _ (by decide)).trans ((va_up_ne _ _ (by decide)).trans c6)
    have c7 : ct2 7 = .inl (ca 0, 32, .inl (zf fk)) := by rw [hct2]; exact (va_up_ne _ _ (by decide)).trans ((va_up_ne _ _ (by decide)).trans c7)
    refine lv_aload_n hx hb d_D_accept_24 rfl (lv_at hl 0 rfl) ?_
    refine lv_aload_n hx hb d_D_accept_25 rfl (lv_at hl 0 rfl) ?_
    refine zz_get (j := 0) (ci := 0) (C := R_D) (T := T_D) (N := 10) hx hb hts in_D hown hK hP (by omega) c0 rfl 2 (by decide) (hts _ mf_D_19) (fun _ h => h) (v := .ref (ad (tt 3 (N - 1)))) rfl d_D_accept_26 ?_
    refine lv_aload_n hx hb d_D_accept_29 rfl (lv_at hl 0 rfl) ?_
    refine zz_get (j := 0) (ci := 0) (C := R_D) (T := T_D) (N := 10) hx hb hts in_D hown hK hP (by omega) c0 rfl 3 (by decide) (hts _ mf_D_25) (fun _ h => h) (v := .ref (ad 2)) rfl d_D_accept_30 ?_
    refine lv_iconst (v := 0) hx hb d_D_accept_33 rfl ?_
    refine zz_as (y := nI (cl (tt 0) (lo (N - 1)))) (by rw [hlo0]; rfl) ?_
    refine dsp_numberLeaves (k := N - 1) (index := 96) (rest := [.ref (ad 0)]) ⟨hx, hb, hml, hown, hts⟩ hN hK hP hS hAA hTS hTW (by omega) (number_all l lo 2 hI hTS (by omega) hO hch hcl (N - 1) (by omega) ct2 dd rw hTW c2) mk_D_96 (show 4 + (N - 1) ≤ 20 by omega) (show 40 * (4 + (N - 1)) ≤ 800 by omega) hl.1 (Nat.le_of_ble_eq_true rfl) d_D_accept_34 ⟨Nat.zero_le _, Nat.zero_le _⟩ (fun r ct3 H locs hct3 hP hS => ?_)
    obtain ⟨rfl, d1, rw1, hTW, c2, hnl, hfr3⟩ := hct3
    have c0 : ct3 0 = .inr (0, [.ref (ad 1), .int (nI (sc 0 - 1)), .ref (ad (tt 3 (N - 1))), .ref (ad 2), .int (nI (sc 1)), .ref (ad 3), .ref (ad 4), .ref (ad 6), .int (nI (sc 2)), .int (nI (sc 3))]) := (hfr3 0 (by decide) (fun k hk => by have := h8 k hk; omega)).trans c0
    have c1 : ct3 1 = .inl (ca 2, 6, .inr (.inr (.inr (.inr (va_up sk (sc 0 - 1) none))))) := (hfr3 1 (by decide) (fun k hk => by have := h8 k hk; omega)).trans c1
    have c4 : ct3 4 = .inr (5, [.ref (ad 5)]) := (hfr3 4 (by decide) (fun k hk => by have := h8 k hk; omega)).trans c4
    have c6 : ct3 6 = .inr (5, [.ref (ad 7)]) := (hfr3 6 (by decide) (fun k hk => by have := h8 k hk; omega)).trans c6
    have c7 : ct3 7 = .inl (ca 0, 32, .inl (zf fk)) := (hfr3 7 (by decide) (fun k hk => by have := h8 k hk; omega)).trans c7
    have c5 := hTW.2.1
    have c3 := hTW.2.2.1
    have e1 : N - 1 + 1 = N := by omega
    rw [e1]
    have c0x := c0
    refine zz_put (j := 0) (ci := 0) (C := R_D) (T := T_D) (N := 10) (v := .int (nI (cl (tt 0) N))) (ty := ft_D 4) hx hb hts in_D ft_D ft_D_ok fn_D hown hK hP hD hS (by omega) c0 rfl 4 (by decide) (hts _ mf_D_29) (fun _ h => h) rfl (ft_D_ok 4 (by decide)) rfl rfl (Nat.le_of_ble_eq_true rfl) d_D_accept_37 (fun H locs hP hS => ?_)
    have hP : va_P D zC (zl n ad (va_up ct3 0 (.inr (0, [.ref (ad 1), .int (nI (sc 0 - 1)), .ref (ad (tt 3 (N - 1))), .ref (ad 2), .int (nI (cl (tt 0) N)), .ref (ad 3), .ref (ad 4), .ref (ad 6), .int (nI (sc 2)), .int (nI (sc 3))])))) H := hP
    obtain ⟨ct4, hct4⟩ : ∃ c, c = va_up ct3 0 (.inr (0, [.ref (ad 1), .int (nI (sc 0 - 1)), .ref (ad (tt 3 (N - 1))), .ref (ad 2), .int (nI (cl (tt 0) N)), .ref (ad 3), .ref (ad 4), .ref (ad 6), .int (nI (sc 2)), .int (nI (sc 3))])) := ⟨_, rfl⟩
    rw [← hct4] at hP
    have c1 : ct4 1 = .inl (ca 2, 6, .inr (.inr (.inr (.inr (va_up sk (sc 0 - 1) none))))) := by rw [hct4]; exact (va_up_ne _ _ (by omega)).trans c1
    have c2 : ct4 2 = .inl (ca 3, 8, .inr (.inr (.inr (.inr rw1)))) := by rw [hct4]; exact (va_up_ne _ _ (by omega)).trans c2
    have c4 : ct4 4 = .inr (5, [.ref (ad 5)]) := by rw [hct4]; exact (va_up_ne _ _ (by omega)).trans c4
    have c5 : ct4 5 = .inl (ca 0, 32, .inl (zf (d1 6))) := by rw [hct4]; exact (va_up_ne _ _ (by omega)).trans c5
    have c6 : ct4 6 = .inr (5, [.ref (ad 7)]) := by rw [hct4]; exact (va_up_ne _ _ (by omega)).trans c6
    have c7 : ct4 7 = .inl (ca 0, 32, .inl (zf fk)) := by rw [hct4]; exact (va_up_ne _ _ (by omega)).trans c7
    have c3 : ct4 3 = .inr (6, [.int (nI (d1 7 0))]) := by rw [hct4]; exact (va_up_ne _ _ (by omega)).trans c3
    have c0 : ct4 0 = .inr (0, [.ref (ad 1), .int (nI (sc 0 - 1)), .ref (ad (tt 3 (N - 1))), .ref (ad 2), .int (nI (cl (tt 0) N)), .ref (ad 3), .ref (ad 4), .ref (ad 6), .int (nI (sc 2)), .int (nI (sc 3))]) := by rw [hct4]; exact va_up_self _ _ _
    have hTW : tW ca ad tt bb ee 4 5 3 N d1 ct4 := by rw [hct4]; exact tW_obj hTW c0x (by decide) (by decide) (fun k hk => by have := h8 k hk; omega)
    have c0x := c0
    refine lv_aload_n hx hb d_D_accept_40 rfl (lv_at hl 0 rfl) ?_
    refine zz_get (j := 0) (ci := 0) (C := R_D) (T := T_D) (N := 10) hx hb hts in_D hown hK hP (by omega) c0 rfl 6 (by decide) (hts _ mf_D_42) (fun _ h => h) (v := .ref (ad 4)) rfl d_D_accept_41 ?_
    refine dd_cv (index := 100) (k := 0) (As := []) (rest := []) ⟨hx, hb, hml, hown, hts⟩ (k_clear l D ca n ad ct4 hI 4 5 (d1 6) (by omega) (by omega) c4 c5) mk_D_100 mo_T_clear me_T_T_clear_T mi_T mc_T_clear (by decide +kernel) ⟨rfl, rfl⟩ ⟨by decide, by decide⟩ (dd_pre hN hK hP (j := 4) (by omega) c4 (r := (R_T, T_T, 1)) rfl) hS hAA rfl hl.1 rfl (Nat.le_of_ble_eq_true rfl) d_D_accept_44 ⟨Nat.zero_le _, Nat.zero_le _⟩ (fun ct5 H locs hct5 hP hS => ?_)
    obtain ⟨f1, hf1, hct5⟩ := hct5
    have hTW := (tW_kt hTS hTW f1).1
    rw [← hct5] at hTW
    have c0 : ct5 0 = .inr (0, [.ref (ad 1), .int (nI (sc 0 - 1)), .ref (ad (tt 3 (N - 1))), .ref (ad 2), .int (nI (cl (tt 0) N)), .ref (ad 3), .ref (ad 4), .ref (ad 6), .int (nI (sc 2)), .int (nI (sc 3))]) := by rw [hct5]; exact (va_up_ne _ _ (by omega)).trans c0
    have c1 : ct5 1 = .inl (ca 2, 6, .inr (.inr (.inr (.inr (va_up sk (sc 0 - 1) none))))) := by rw [hct5]; exact (va_up_ne _ _ (by omega)).trans c1
    have c2 : ct5 2 = .inl (ca 3, 8, .inr (.inr (.inr (.inr rw1)))) := by rw [hct5]; exact (va_up_ne _ _ (by omega)).trans c2
    have c4 : ct5 4 = .inr (5, [.ref (ad 5)]) := by rw [hct5]; exact (va_up_ne _ _ (by omega)).trans c4
    have c6 : ct5 6 = .inr (5, [.ref (ad 7)]) := by rw [hct5]; exact (va_up_ne _ _ (by omega)).trans c6
    have c7 : ct5 7 = .inl (ca 0, 32, .inl (zf fk)) := by rw [hct5]; exact (va_up_ne _ _ (by omega)).trans c7
    have c3 : ct5 3 = .inr (6, [.int (nI (d1 7 0))]) := by rw [hct5]; exact (va_up_ne _ _ (by omega)).trans c3
    have c5 : ct5 5 = .inl (ca 0, 32, .inl (zf f1)) := by rw [hct5]; exact va_up_self _ _ _
    have c0x := c0
    refine lv_aload_n hx hb d_D_accept_47 rfl (lv_at hl 0 rfl) ?_
    refine lv_iconst (v := 0) hx hb d_D_accept_48 rfl ?_
    refine zz_put (j := 0) (ci := 0) (C := R_D) (T := T_D) (N := 10) (v := .int 0) (ty := ft_D 8) hx hb hts in_D ft_D ft_D_ok fn_D hown hK hP hD hS (by omega) c0 rfl 8 (by decide) (hts _ mf_D_49) (fun _ h => h) rfl (ft_D_ok 8 (by decide)) rfl rfl (Nat.le_of_ble_eq_true rfl) d_D_accept_49 (fun H locs hP hS => ?_)
    have hP : va_P D zC (zl n ad (va_up ct5 0 (.inr (0, [.ref (ad 1), .int (nI (sc 0 - 1)), .ref (ad (tt 3 (N - 1))), .ref (ad 2), .int (nI (cl (tt 0) N)), .ref (ad 3), .ref (ad 4), .ref (ad 6), .int 0, .int (nI (sc 3))])))) H := hP
    obtain ⟨ct6, hct6⟩ : ∃ c, c = va_up ct5 0 (.inr (0, [.ref (ad 1), .int (nI (sc 0 - 1)), .ref (ad (tt 3 (N - 1))), .ref (ad 2), .int (nI (cl (tt 0) N)), .ref (ad 3), .ref (ad 4), .ref (ad 6), .int 0, .int (nI (sc 3))])) := ⟨_, rfl⟩
    rw [← hct6] at hP
    have c1 : ct6 1 = .inl (ca 2, 6, .inr (.inr (.inr (.inr (va_up sk (sc 0 - 1) none))))) := by rw [hct6]; exact (va_up_ne _ _ (by omega)).trans c1
    have c2 : ct6 2 = .inl (ca 3, 8, .inr (.inr (.inr (.inr rw1)))) := by rw [hct6]; exact (va_up_ne _ _ (by omega)).trans c2
    have c4 : ct6 4 = .inr (5, [.ref (ad 5)]) := by rw [hct6]; exact (va_up_ne _ _ (by omega)).trans c4
    have c5 : ct6 5 = .inl (ca 0, 32, .inl (zf f1)) := by rw [hct6]; exact (va_up_ne _ _ (by omega)).trans c5
    have c6 : ct6 6 = .inr (5, [.ref (ad 7)]) := by rw [hct6]; exact (va_up_ne _ _ (by omega)).trans c6
    have c7 : ct6 7 = .inl (ca 0, 32, .inl (zf fk)) := by rw [hct6]; exact (va_up_ne _ _ (by omega)).trans c7
    have c3 : ct6 3 = .inr (6, [.int (nI (d1 7 0))]) := by rw [hct6]; exact (va_up_ne _ _ (by omega)).trans c3
    have c0 : ct6 0 = .inr (0, [.ref (ad 1), .int (nI (sc 0 - 1)), .ref (ad (tt 3 (N - 1))), .ref (ad 2), .int (nI (cl (tt 0) N)), .ref (ad 3), .ref (ad 4), .ref (ad 6), .int 0, .int (nI (sc 3))]) := by rw [hct6]; exact va_up_self _ _ _
    have hTW : tW ca ad tt bb ee 4 5 3 N (va_up d1 6 f1) ct6 := by rw [hct6]; exact tW_obj hTW c0x (by decide) (by decide) (fun k hk => by have := h8 k hk; omega)
    have c0x := c0
    refine lv_aload_n hx hb d_D_accept_52 rfl (lv_at hl 0 rfl) ?_
    refine lv_iconst (v := 0) hx hb d_D_accept_53 rfl ?_
    refine zz_put (j := 0) (ci := 0) (C := R_D) (T := T_D) (N := 10) (v := .int 0) (ty := ft_D 9) hx hb hts in_D ft_D ft_D_ok fn_D hown hK hP hD hS (by omega) c0 rfl 9 (by decide) (hts _ mf_D_53) (fun _ h => h) rfl (ft_D_ok 9 (by decide)) rfl rfl (Nat.le_of_ble_eq_true rfl) d_D_accept_54 (fun H locs hP hS => ?_)
    have hP : va_P D zC (zl n ad (va_up ct6 0 (.inr (0, [.ref (ad 1), .int (nI (sc 0 - 1)), .ref (ad (tt 3 (N - 1))), .ref (ad 2), .int (nI (cl (tt 0) N)), .ref (ad 3), .ref (ad 4), .ref (ad 6), .int 0, .int 0])))) H := hP
    obtain ⟨ct7, hct7⟩ : ∃ c, c = va_up ct6 0 (.inr (0, [.ref (ad 1), .int (nI (sc 0 - 1)), .ref (ad (tt 3 (N - 1))), .ref (ad 2), .int (nI (cl (tt 0) N)), .ref (ad 3), .ref (ad 4), .ref (ad 6), .int 0, .int 0])) := ⟨_, rfl⟩
    rw [← hct7] at hP
    have c1 : ct7 1 = .inl (ca 2, 6, .inr (.inr (.inr (.inr (va_up sk (sc 0 - 1) none))))) := by rw [hct7]; exact (va_up_ne _ _ (by omega)).trans c1
    have c2 : ct7 2 = .inl (ca 3, 8, .inr (.inr (.inr (.inr rw1)))) := by rw [hct7]; exact (va_up_ne _ _ (by omega)).trans c2
    have c4 : ct7 4 = .inr (5, [.ref (ad 5)]) := by rw [hct7]; exact (va_up_ne _ _ (by omega)).trans c4
    have c5 : ct7 5 = .inl (ca 0, 32, .inl (zf f1)) := by rw [hct7]; exact (va_up_ne _ _ (by omega)).trans c5
    have c6 : ct7 6 = .inr (5, [.ref (ad 7)]) := by rw [hct7]; exact (va_up_ne _ _ (by omega)).trans c6
    have c7 : ct7 7 = .inl (ca 0, 32, .inl (zf fk)) := by rw [hct7]; exact (va_up_ne _ _ (by omega)).trans c7
    have c3 : ct7 3 = .inr (6, [.int (nI (d1 7 0))]) := by rw [hct7]; exact (va_up_ne _ _ (by omega)).trans c3
    have c0 : ct7 0 = .inr (0, [.ref (ad 1), .int (nI (sc 0 - 1)), .ref (ad (tt 3 (N - 1))), .ref (ad 2), .int (nI (cl (tt 0) N)), .ref (ad 3), .ref (ad 4), .ref (ad 6), .int 0, .int 0]) := by rw [hct7]; exact va_up_self _ _ _
    have hTW : tW ca ad tt bb ee 4 5 3 N (va_up d1 6 f1) ct7 := by rw [hct7]; exact tW_obj hTW c0x (by decide) (by decide) (fun k hk => by have := h8 k hk; omega)
    have c0x := c0
    refine lv_aload_n hx hb d_D_accept_57 rfl (lv_at hl 0 rfl) ?_
    refine zz_get (j := 0) (ci := 0) (C := R_D) (T := T_D) (N := 10) hx hb hts in_D hown hK hP (by omega) c0 rfl 4 (by decide) (hts _ mf_D_29) (fun _ h => h) (v := .int (nI (cl (tt 0) N))) rfl d_D_accept_58 ?_
    have hfin : fr8 tt N ct ct7 := fun q h1 h2 => by
      rw [hct7, va_up_ne _ _ (by omega), hct6, va_up_ne _ _ (by omega), hct5, va_up_ne _ _ (by omega), hct4, va_up_ne _ _ (by omega), hfr3 q (by omega) h2, hct2, va_up_ne _ _ (by omega), va_up_ne _ _ (by omega), hct1, va_up_ne _ _ (by omega)]
    have hfd : dS ca ad tt bb ee N (va_up d1 6 f1) (fun i => if i = 1 then cl (tt 0) N else 0) (va_up sk 0 none) rw1 fk ln1 ct7 := by
      refine ⟨by rw [c0, trV_s (by omega), z]; rfl, by rw [c1, z], c2, c6, c7, hTW, fun i hi => ?_, hcl⟩
      obtain ⟨a1, a2, a3⟩ := hln1 i hi
      have b := hnl.2.1 (ln1 i) (by rw [hlo0]; exact Nat.zero_le _) (by omega) a2
      rw [a3] at b
      exact ⟨a1, a2, b.1, b.2⟩
    exact W.iret hx hb hr (fun t ht hW => ⟨⟨_, ct7, rfl, Or.inr ⟨z, rfl, d1, rw1, f1, hf1, hnl, hfd, hfin⟩, zN_warm hW hN, va_K.moved hW.alike hK, by rw [ht]; exact hP⟩, hS.F ht⟩) hS.2.2 d_D_accept_61
  · skip
    refine lv_iconst (v := (-1)) hx hb d_D_accept_8 rfl ?_
    exact W.iret hx hb hr (fun t ht hW => ⟨⟨_, ct, rfl, Or.inl ⟨fun q => h5 (by rw [q]; rfl), rfl, rfl⟩, zN_warm hW hN, va_K.moved hW.alike hK, by rw [ht]; exact hP⟩, hS.F ht⟩) hS.2.2 d_D_accept_9
