/-! the desk: change, save, known, challenge, commit, respond, simulate -/

theorem d_D_change_0 : decode c_D_change 0 = .ok (.aload_n 0, 1) := by decide +kernel
theorem d_D_change_1 : decode c_D_change 1 = .ok (.iload_n 1, 1) := by decide +kernel
theorem d_D_change_2 : decode c_D_change 2 = .ok (.iload_n 2, 1) := by decide +kernel
theorem d_D_change_3 : decode c_D_change 3 = .ok (.invokevirtual 161, 3) := by decide +kernel
theorem d_D_change_6 : decode c_D_change 6 = .ok (.ifCond .ne 5, 3) := by decide +kernel
theorem d_D_change_9 : decode c_D_change 9 = .ok (.iconst 0, 1) := by decide +kernel
theorem d_D_change_10 : decode c_D_change 10 = .ok (.ireturn, 1) := by decide +kernel
theorem d_D_change_11 : decode c_D_change 11 = .ok (.iload_n 2, 1) := by decide +kernel
theorem d_D_change_12 : decode c_D_change 12 = .ok (.iconst 1, 1) := by decide +kernel
theorem d_D_change_13 : decode c_D_change 13 = .ok (.if_icmp .gt 9, 3) := by decide +kernel
theorem d_D_change_16 : decode c_D_change 16 = .ok (.sipush 10007, 3) := by decide +kernel
theorem d_D_change_19 : decode c_D_change 19 = .ok (.goto 6, 3) := by decide +kernel
theorem d_D_change_22 : decode c_D_change 22 = .ok (.sipush 5003, 3) := by decide +kernel
theorem d_D_change_25 : decode c_D_change 25 = .ok (.istore 4, 2) := by decide +kernel
theorem d_D_change_27 : decode c_D_change 27 = .ok (.iload_n 3, 1) := by decide +kernel
theorem d_D_change_28 : decode c_D_change 28 = .ok (.ifCond .lt 9, 3) := by decide +kernel
theorem d_D_change_31 : decode c_D_change 31 = .ok (.iload_n 3, 1) := by decide +kernel
theorem d_D_change_32 : decode c_D_change 32 = .ok (.iload 4, 2) := by decide +kernel
theorem d_D_change_34 : decode c_D_change 34 = .ok (.if_icmp .lt 5, 3) := by decide +kernel
theorem d_D_change_37 : decode c_D_change 37 = .ok (.iconst 0, 1) := by decide +kernel
theorem d_D_change_38 : decode c_D_change 38 = .ok (.ireturn, 1) := by decide +kernel
theorem d_D_change_39 : decode c_D_change 39 = .ok (.aload_n 0, 1) := by decide +kernel
theorem d_D_change_40 : decode c_D_change 40 = .ok (.getfield 42, 3) := by decide +kernel
theorem d_D_change_43 : decode c_D_change 43 = .ok (.iload_n 1, 1) := by decide +kernel
theorem d_D_change_44 : decode c_D_change 44 = .ok (.iload_n 2, 1) := by decide +kernel
theorem d_D_change_45 : decode c_D_change 45 = .ok (.iload_n 3, 1) := by decide +kernel
theorem d_D_change_46 : decode c_D_change 46 = .ok (.invokevirtual 168, 3) := by decide +kernel
theorem d_D_change_49 : decode c_D_change 49 = .ok (.iconst 1, 1) := by decide +kernel
theorem d_D_change_50 : decode c_D_change 50 = .ok (.ireturn, 1) := by decide +kernel

set_option maxHeartbeats 4000000 in
set_option maxRecDepth 100000 in
/-- change(w, q, v) -/
theorem k_changeD (l : Launch) (D : va_G) (ca : Nat → ClassId) (n : Nat) (ad : Nat → Nat) (ct : Nat → va_E) (hI : dI n ad) (tt bb ee : Nat → Nat → Nat) (N : Nat) (dd : Nat → Nat → Nat) (sc : Nat → Nat) (sk rw : Nat → Option Nat) (fk ln : Nat → Nat) (hn0 : 8 ≤ n) (hTS : tS n tt bb ee 4 5 3 N) (hd : dS ca ad tt bb ee N dd sc sk rw fk ln ct) (w q v : Nat) (hw : w < 2 ^ 32) (hq0 : q < 2 ^ 32) (hv : v < 2 ^ 32) : Met l y_D_change (Cond.code y_D_change c_D_change 5 (some .boolean) :: zT) ({ frames := 4, cells := 0, slots := 0, locals := 160 }) (va_Pc [.ref (ad 0), .int (nI w), .int (nI q), .int (nI v)] (dw D ca n ad ct)) (va_Qi (fun r ct1 => r = zb ((decide (w < sc 1) && (decide (q < 4) && (!decide (q = 1) || decide (tt 6 (ln w) = 2)))) && decide (v < if q < 2 then 10007 else 5003)) ∧ ct1 = if (decide (w < sc 1) && (decide (q < 4) && (!decide (q = 1) || decide (tt 6 (ln w) = 2)))) && decide (v < if q < 2 then 10007 else 5003) then va_up ct 5 (.inl (ca 0, 32, .inl (zf (va_up (dd 6) (w * 4 + q) v)))) else ct) (dw D ca n ad) (dA n ad)) 0 0 (dA n ad) := by
  refine Met.ofW (cc := c_D_change) (maxL := 5) (ret := (some .boolean)) (by decide) rfl ?_
  intro p e s m args below meth c s₁ B hml hv
  obtain ⟨rfl, hN, hK, hP⟩ := hv
  have hx := B.exec
  have hb := B.bytes
  have hr := B.returns
  have hts0 := atoms_spec (ws := Cond.code y_D_change c_D_change 5 (some .boolean) :: zT) B.pre
  have hts := fun w h => hts0 w (List.mem_cons_of_mem _ h)
  have hown : s.vm.findClass R_D = some m.cls := findClass_of_methodNamed B.named
  have hlocks := B.notSynchronized
  have hD := dI_D hI
  have hS : va_S (dA n ad) s.heap s.heap [] := va_S.rf
  have hAA : ∀ q, dA n ad q → dA n ad q := fun _ h => h
  obtain ⟨c0, c1, c2, c6, c7, hTW, hln, hl2⟩ := id hd
  have c4 := hTW.1
  have c5 := hTW.2.1
  have c3 := hTW.2.2.1
  have hl := lv_entry ([.ref (ad 0), .int (nI w), .int (nI q), .int (nI v)]) (n := 5) (Nat.le_of_ble_eq_true rfl)
  rw [lg_entry_eq]
  generalize (lg_sl ([.ref (ad 0), .int (nI w), .int (nI q), .int (nI v)]) ++ List.replicate (5 - (lg_sl ([.ref (ad 0), .int (nI w), .int (nI q), .int (nI v)])).length) Slot.unset).toArray = ls at hl ⊢
  have hl : lv_has ls 5 [(0, .ref (ad 0)), (1, .int (nI w)), (2, .int (nI q)), (3, .int (nI v))] := hl
  refine lv_aload_n hx hb d_D_change_0 rfl (lv_at hl 0 rfl) ?_
  refine lv_iload_n hx hb d_D_change_1 rfl (lv_at hl 1 rfl) ?_
  refine lv_iload_n hx hb d_D_change_2 rfl (lv_at hl 2 rfl) ?_
  refine zz_cV (index := 161) (n := 2) (As := [.int (nI w), .int (nI q)]) (rest := []) ⟨hx, hb, hml, hown, hts⟩ (k_isPartD l D ca n ad ct tt bb ee N dd sc sk rw fk ln hn0 hTS hd w q hw hq0) mk_D_161 mo_D_isPart me_D_D_isPart_D mi_D mc_D_isPart (by decide +kernel) ⟨rfl, rfl⟩ ⟨by decide, by decide⟩ (dd_pre hN hK hP (j := 0) (by omega) c0 (r := (R_D, T_D, 10)) rfl) rfl hl.1 rfl (Nat.le_of_ble_eq_true rfl) d_D_change_3 ⟨Nat.zero_le _, Nat.zero_le _⟩ ?_
  refine lv_if_ne (tgt := 11) hx hb d_D_change_6 rfl (fun h6 => ?_) (fun h6 => ?_)
  · skip
    have y0 := zb_ne h6
    have y := y0
    simp only [Bool.and_eq_true, decide_eq_true_eq] at y
    have y1 := y.1
    have y2 := y.2.1
    refine lv_iload_n hx hb d_D_change_11 rfl (lv_at hl 2 rfl) ?_
    refine lv_iconst (v := 1) hx hb d_D_change_12 rfl ?_
    refine lv_icmp_gt (tgt := 22) hx hb d_D_change_13 rfl (fun h13 => ?_) (fun h13 => ?_)
    · skip
      have w2 : ¬ q < 2 := by have := (zn_gt (b := 1) hq0 (by decide)).mp h13; omega
      refine lv_sipush (v := 5003) hx hb d_D_change_22 rfl ?_
      refine lv_istore (lv' := [(4, .int 5003), (0, .ref (ad 0)), (1, .int (nI w)), (2, .int (nI q)), (3, .int (nI v))]) hx hb d_D_change_25 hl (by decide) rfl (fun ls hl => ?_)
      refine lv_iload_n hx hb d_D_change_27 rfl (lv_at hl 4 rfl) ?_
      refine lv_if_lt (tgt := 37) hx hb d_D_change_28 rfl (fun h28 => ?_) (fun h28 => ?_)
      · skip
        have hq : ((decide (w < sc 1) && (decide (q < 4) && (!decide (q = 1) || decide (tt 6 (ln w) = 2)))) && decide (v < if q < 2 then 10007 else 5003)) = false := by rw [decide_eq_false (show ¬ v < (if q < 2 then 10007 else 5003) by have := (zn_lt0 hv).mp h28; split <;> omega), Bool.and_false]
        refine lv_iconst (v := 0) hx hb d_D_change_37 rfl ?_
        exact W.zret hx hb hr (rfl) (fun t ht hW => ⟨⟨_, ct, rfl, ⟨by rw [hq]; rfl, by rw [hq]; rfl⟩, zN_warm hW hN, va_K.moved hW.alike hK, by rw [ht]; exact hP⟩, hS.F ht⟩) hS.2.2 d_D_change_38
      · skip
        refine lv_iload_n hx hb d_D_change_31 rfl (lv_at hl 4 rfl) ?_
        refine lv_iload hx hb d_D_change_32 (lv_at hl 0 rfl) ?_
        refine lv_icmp_lt (tgt := 39) hx hb d_D_change_34 rfl (fun h34 => ?_) (fun h34 => ?_)
        · skip
          have v2 : v < 5003 := by have a := (zn_lt (b := 5003) hv (by decide)).mp h34; have b := mt (zn_lt0 hv).mpr h28; omega
          have hq : ((decide (w < sc 1) && (decide (q < 4) && (!decide (q = 1) || decide (tt 6 (ln w) = 2)))) && decide (v < if q < 2 then 10007 else 5003)) = true := by rw [y0, if_neg w2, decide_eq_true v2]; rfl
          refine lv_aload_n hx hb d_D_change_39 rfl (lv_at hl 1 rfl) ?_
          refine zz_get (j := 0) (ci := 0) (C := R_D) (T := T_D) (N := 10) hx hb hts in_D hown hK hP (by omega) c0 rfl 6 (by decide) (hts _ mf_D_42) (fun _ h => h) (v := .ref (ad 4)) rfl d_D_change_40 ?_
          refine lv_iload_n hx hb d_D_change_43 rfl (lv_at hl 2 rfl) ?_
          refine lv_iload_n hx hb d_D_change_44 rfl (lv_at hl 3 rfl) ?_
          refine lv_iload_n hx hb d_D_change_45 rfl (lv_at hl 4 rfl) ?_
          refine dd_cv (index := 168) (k := 3) (As := [.int (nI w), .int (nI q), .int (nI v)]) (rest := []) ⟨hx, hb, hml, hown, hts⟩ (k_set l D ca n ad ct hI 4 5 (dd 6) (by omega) (by omega) c4 c5 w q v (by omega)) mk_D_168 mo_T_set me_T_T_set_T mi_T mc_T_set (by decide +kernel) ⟨rfl, rfl⟩ ⟨by decide, by decide⟩ (dd_pre hN hK hP (j := 4) (by omega) c4 (r := (R_T, T_T, 1)) rfl) hS hAA rfl hl.1 rfl (Nat.le_of_ble_eq_true rfl) d_D_change_46 ⟨Nat.zero_le _, Nat.zero_le _⟩ (fun ct1 H locs hct1 hP hS => ?_)
          refine lv_iconst (v := 1) hx hb d_D_change_49 rfl ?_
          exact W.zret hx hb hr (rfl) (fun t ht hW => ⟨⟨_, ct1, rfl, ⟨by rw [hq]; rfl, by rw [hq, if_pos rfl]; exact hct1⟩, zN_warm hW hN, va_K.moved hW.alike hK, by rw [ht]; exact hP⟩, hS.F ht⟩) hS.2.2 d_D_change_50
        · skip
          have v2 : ¬ v < 5003 := by have a := mt (zn_lt (b := 5003) hv (by decide)).mpr h34; omega
          have hq : ((decide (w < sc 1) && (decide (q < 4) && (!decide (q = 1) || decide (tt 6 (ln w) = 2)))) && decide (v < if q < 2 then 10007 else 5003)) = false := by rw [if_neg w2, decide_eq_false v2, Bool.and_false]
          refine lv_iconst (v := 0) hx hb d_D_change_37 rfl ?_
          exact W.zret hx hb hr (rfl) (fun t ht hW => ⟨⟨_, ct, rfl, ⟨by rw [hq]; rfl, by rw [hq]; rfl⟩, zN_warm hW hN, va_K.moved hW.alike hK, by rw [ht]; exact hP⟩, hS.F ht⟩) hS.2.2 d_D_change_38
    · skip
      have w2 : q < 2 := by have := mt (zn_gt (b := 1) hq0 (by decide)).mpr h13; omega
      refine lv_sipush (v := 10007) hx hb d_D_change_16 rfl ?_
      refine lv_goto (tgt := 25) hx hb d_D_change_19 rfl ?_
      refine lv_istore (lv' := [(4, .int 10007), (0, .ref (ad 0)), (1, .int (nI w)), (2, .int (nI q)), (3, .int (nI v))]) hx hb d_D_change_25 hl (by decide) rfl (fun ls hl => ?_)
      refine lv_iload_n hx hb d_D_change_27 rfl (lv_at hl 4 rfl) ?_
      refine lv_if_lt (tgt := 37) hx hb d_D_change_28 rfl (fun h28 => ?_) (fun h28 => ?_)
      · skip
        have hq : ((decide (w < sc 1) && (decide (q < 4) && (!decide (q = 1) || decide (tt 6 (ln w) = 2)))) && decide (v < if q < 2 then 10007 else 5003)) = false := by rw [decide_eq_false (show ¬ v < (if q < 2 then 10007 else 5003) by have := (zn_lt0 hv).mp h28; split <;> omega), Bool.and_false]
        refine lv_iconst (v := 0) hx hb d_D_change_37 rfl ?_
        exact W.zret hx hb hr (rfl) (fun t ht hW => ⟨⟨_, ct, rfl, ⟨by rw [hq]; rfl, by rw [hq]; rfl⟩, zN_warm hW hN, va_K.moved hW.alike hK, by rw [ht]; exact hP⟩, hS.F ht⟩) hS.2.2 d_D_change_38
      · skip
        refine lv_iload_n hx hb d_D_change_31 rfl (lv_at hl 4 rfl) ?_
        refine lv_iload hx hb d_D_change_32 (lv_at hl 0 rfl) ?_
        refine lv_icmp_lt (tgt := 39) hx hb d_D_change_34 rfl (fun h34 => ?_) (fun h34 => ?_)
        · skip
          have v2 : v < 10007 := by have a := (zn_lt (b := 10007) hv (by decide)).mp h34; have b := mt (zn_lt0 hv).mpr h28; omega
          have hq : ((decide (w < sc 1) && (decide (q < 4) && (!decide (q = 1) || decide (tt 6 (ln w) = 2)))) && decide (v < if q < 2 then 10007 else 5003)) = true := by rw [y0, if_pos w2, decide_eq_true v2]; rfl
          refine lv_aload_n hx hb d_D_change_39 rfl (lv_at hl 1 rfl) ?_
          refine zz_get (j := 0) (ci := 0) (C := R_D) (T := T_D) (N := 10) hx hb hts in_D hown hK hP (by omega) c0 rfl 6 (by decide) (hts _ mf_D_42) (fun _ h => h) (v := .ref (ad 4)) rfl d_D_change_40 ?_
          refine lv_iload_n hx hb d_D_change_43 rfl (lv_at hl 2 rfl) ?_
          refine lv_iload_n hx hb d_D_change_44 rfl (lv_at hl 3 rfl) ?_
          refine lv_iload_n hx hb d_D_change_45 rfl (lv_at hl 4 rfl) ?_
          refine dd_cv (index := 168) (k := 3) (As := [.int (nI w), .int (nI q), .int (nI v)]) (rest := []) ⟨hx, hb, hml, hown, hts⟩ (k_set l D ca n ad ct hI 4 5 (dd 6) (by omega) (by omega) c4 c5 w q v (by omega)) mk_D_168 mo_T_set me_T_T_set_T mi_T mc_T_set (by decide +kernel) ⟨rfl, rfl⟩ ⟨by decide, by decide⟩ (dd_pre hN hK hP (j := 4) (by omega) c4 (r := (R_T, T_T, 1)) rfl) hS hAA rfl hl.1 rfl (Nat.le_of_ble_eq_true rfl) d_D_change_46 ⟨Nat.zero_le _, Nat.zero_le _⟩ (fun ct1 H locs hct1 hP hS => ?_)
          refine lv_iconst (v := 1) hx hb d_D_change_49 rfl ?_
          exact W.zret hx hb hr (rfl) (fun t ht hW => ⟨⟨_, ct1, rfl, ⟨by rw [hq]; rfl, by rw [hq, if_pos rfl]; exact hct1⟩, zN_warm hW hN, va_K.moved hW.alike hK, by rw [ht]; exact hP⟩, hS.F ht⟩) hS.2.2 d_D_change_50
        · skip
          have v2 : ¬ v < 10007 := by have a := mt (zn_lt (b := 10007) hv (by decide)).mpr h34; omega
          have hq : ((decide (w < sc 1) && (decide (q < 4) && (!decide (q = 1) || decide (tt 6 (ln w) = 2)))) && decide (v < if q < 2 then 10007 else 5003)) = false := by rw [if_pos w2, decide_eq_false v2, Bool.and_false]
          refine lv_iconst (v := 0) hx hb d_D_change_37 rfl ?_
          exact W.zret hx hb hr (rfl) (fun t ht hW => ⟨⟨_, ct, rfl, ⟨by rw [hq]; rfl, by rw [hq]; rfl⟩, zN_warm hW hN, va_K.moved hW.alike hK, by rw [ht]; exact hP⟩, hS.F ht⟩) hS.2.2 d_D_change_38
  · skip
    have hq : ((decide (w < sc 1) && (decide (q < 4) && (!decide (q = 1) || decide (tt 6 (ln w) = 2)))) && decide (v < if q < 2 then 10007 else 5003)) = false := by rw [zb_eq h6, Bool.false_and]
    refine lv_iconst (v := 0) hx hb d_D_change_9 rfl ?_
    exact W.zret hx hb hr (rfl) (fun t ht hW => ⟨⟨_, ct, rfl, ⟨by rw [hq]; rfl, by rw [hq]; rfl⟩, zN_warm hW hN, va_K.moved hW.alike hK, by rw [ht]; exact hP⟩, hS.F ht⟩) hS.2.2 d_D_change_10

theorem d_D_save_0 : decode c_D_save 0 = .ok (.aload_n 0, 1) := by decide +kernel
theorem d_D_save_1 : decode c_D_save 1 = .ok (.getfield 19, 3) := by decide +kernel
theorem d_D_save_4 : decode c_D_save 4 = .ok (.ifnonnull 5, 3) := by decide +kernel
theorem d_D_save_7 : decode c_D_save 7 = .ok (.iconst 0, 1) := by decide +kernel
theorem d_D_save_8 : decode c_D_save 8 = .ok (.ireturn, 1) := by decide +kernel
theorem d_D_save_9 : decode c_D_save 9 = .ok (.aload_n 0, 1) := by decide +kernel
theorem d_D_save_10 : decode c_D_save 10 = .ok (.getfield 46, 3) := by decide +kernel
theorem d_D_save_13 : decode c_D_save 13 = .ok (.aload_n 0, 1) := by decide +kernel
theorem d_D_save_14 : decode c_D_save 14 = .ok (.getfield 42, 3) := by decide +kernel
theorem d_D_save_17 : decode c_D_save 17 = .ok (.invokevirtual 172, 3) := by decide +kernel
theorem d_D_save_20 : decode c_D_save 20 = .ok (.aload_n 0, 1) := by decide +kernel
theorem d_D_save_21 : decode c_D_save 21 = .ok (.iconst 1, 1) := by decide +kernel
theorem d_D_save_22 : decode c_D_save 22 = .ok (.putfield 49, 3) := by decide +kernel
theorem d_D_save_25 : decode c_D_save 25 = .ok (.iconst 1, 1) := by decide +kernel
theorem d_D_save_26 : decode c_D_save 26 = .ok (.ireturn, 1) := by decide +kernel

set_option maxHeartbeats 4000000 in
set_option maxRecDepth 100000 in
/-- save() -/
theorem k_saveD (l : Launch) (D : va_G) (ca : Nat → ClassId) (n : Nat) (ad : Nat → Nat) (ct : Nat → va_E) (hI : dI n ad) (tt bb ee : Nat → Nat → Nat) (N : Nat) (dd : Nat → Nat → Nat) (sc : Nat → Nat) (sk rw : Nat → Option Nat) (fk ln : Nat → Nat) (hn0 : 8 ≤ n) (hTS : tS n tt bb ee 4 5 3 N) (hd : dS ca ad tt bb ee N dd sc sk rw fk ln ct) : Met l y_D_save (Cond.code y_D_save c_D_save 1 (some .boolean) :: zT) ({ frames := 3, cells := 0, slots := 0, locals := 120 }) (va_Pc [.ref (ad 0)] (dw D ca n ad ct)) (va_Qi (fun r ct1 => (N = 0 ∧ r = 0 ∧ ct1 = ct) ∨ (0 < N ∧ r = 1 ∧ ct1 = va_up (va_up ct 7 (.inl (ca 0, 32, .inl (zf (va_cpy (dd 6) fk 0 0 32))))) 0 (.inr (0, [.ref (ad 1), .int (nI (sc 0)), .ref (ad (tt 3 (N - 1))), .ref (ad 2), .int (nI (sc 1)), .ref (ad 3), .ref (ad 4), .ref (ad 6), .int 1, .int (nI (sc 3))])))) (dw D ca n ad) (dA n ad)) 0 0 (dA n ad) := by
  refine Met.ofW (cc := c_D_save) (maxL := 1) (ret := (some .boolean)) (by decide) rfl ?_
  intro p e s m args below meth c s₁ B hml hv
  obtain ⟨rfl, hN, hK, hP⟩ := hv
  have hx := B.exec
  have hb := B.bytes
  have hr := B.returns
  have hts0 := atoms_spec (ws := Cond.code y_D_save c_D_save 1 (some .boolean) :: zT) B.pre
  have hts := fun w h => hts0 w (List.mem_cons_of_mem _ h)
  have hown : s.vm.findClass R_D = some m.cls := findClass_of_methodNamed B.named
  have hlocks := B.notSynchronized
  have hD := dI_D hI
  have hS : va_S (dA n ad) s.heap s.heap [] := va_S.rf
  have hAA : ∀ q, dA n ad q → dA n ad q := fun _ h => h
  obtain ⟨c0, c1, c2, c6, c7, hTW, hln, hl2⟩ := id hd
  have c4 := hTW.1
  have c5 := hTW.2.1
  have c3 := hTW.2.2.1
  have hl := lv_entry ([.ref (ad 0)]) (n := 1) (Nat.le_of_ble_eq_true rfl)
  rw [lg_entry_eq]
  generalize (lg_sl ([.ref (ad 0)]) ++ List.replicate (1 - (lg_sl ([.ref (ad 0)])).length) Slot.unset).toArray = ls at hl ⊢
  have hl : lv_has ls 1 [(0, .ref (ad 0))] := hl
  rcases Nat.eq_zero_or_pos N with hN0 | hN0
  · rw [trV_0 hN0] at c0
    refine lv_aload_n hx hb d_D_save_0 rfl (lv_at hl 0 rfl) ?_
    refine zz_get (j := 0) (ci := 0) (C := R_D) (T := T_D) (N := 10) hx hb hts in_D hown hK hP (by omega) c0 rfl 2 (by decide) (hts _ mf_D_19) (fun _ h => h) (v := .null) rfl d_D_save_1 ?_
    refine lv_ifnonnullN hx hb d_D_save_4 ?_
    refine lv_iconst (v := 0) hx hb d_D_save_7 rfl ?_
    exact W.zret hx hb hr (rfl) (fun t ht hW => ⟨⟨_, ct, rfl, Or.inl ⟨hN0, rfl, rfl⟩, zN_warm hW hN, va_K.moved hW.alike hK, by rw [ht]; exact hP⟩, hS.F ht⟩) hS.2.2 d_D_save_8
  · have hNs : ¬ N = 0 := by omega
    rw [trV_s hNs] at c0
    refine lv_aload_n hx hb d_D_save_0 rfl (lv_at hl 0 rfl) ?_
    refine zz_get (j := 0) (ci := 0) (C := R_D) (T := T_D) (N := 10) hx hb hts in_D hown hK hP (by omega) c0 rfl 2 (by decide) (hts _ mf_D_19) (fun _ h => h) (v := .ref (ad (tt 3 (N - 1)))) rfl d_D_save_1 ?_
    refine lv_ifnonnull (tgt := 9) hx hb d_D_save_4 rfl ?_
    refine lv_aload_n hx hb d_D_save_9 rfl (lv_at hl 0 rfl) ?_
    refine zz_get (j := 0) (ci := 0) (C := R_D) (T := T_D) (N := 10) hx hb hts in_D hown hK hP (by omega) c0 rfl 7 (by decide) (hts _ mf_D_46) (fun _ h => h) (v := .ref (ad 6)) rfl d_D_save_10 ?_
    refine lv_aload_n hx hb d_D_save_13 rfl (lv_at hl 0 rfl) ?_
    refine zz_get (j := 0) (ci := 0) (C := R_D) (T := T_D) (N := 10) hx hb hts in_D hown hK hP (by omega) c0 rfl 6 (by decide) (hts _ mf_D_42) (fun _ h => h) (v := .ref (ad 4)) rfl d_D_save_14 ?_
    refine dd_cv (index := 172) (k := 1) (As := [.ref (ad 4)]) (rest := []) ⟨hx, hb, hml, hown, hts⟩ (k_copy l D ca n ad ct hI 6 7 fk (by omega) (by omega) c6 c7 4 5 (dd 6) (by omega) (by omega) c4 c5) mk_D_172 mo_T_copy me_T_T_copy_T mi_T mc_T_copy (by decide +kernel) ⟨rfl, rfl⟩ ⟨by decide, by decide⟩ (dd_pre hN hK hP (j := 6) (by omega) c6 (r := (R_T, T_T, 1)) rfl) hS hAA rfl hl.1 rfl (Nat.le_of_ble_eq_true rfl) d_D_save_17 ⟨Nat.zero_le _, Nat.zero_le _⟩ (fun ct1 H locs hct1 hP hS => ?_)
    have c0 : ct1 0 = .inr (0, [.ref (ad 1), .int (nI (sc 0)), .ref (ad (tt 3 (N - 1))), .ref (ad 2), .int (nI (sc 1)), .ref (ad 3), .ref (ad 4), .ref (ad 6), .int (nI (sc 2)), .int (nI (sc 3))]) := by rw [hct1]; exact (va_up_ne _ _ (by omega)).trans c0
    have c1 : ct1 1 = .inl (ca 2, 6, .inr (.inr (.inr (.inr sk)))) := by rw [hct1]; exact (va_up_ne _ _ (by omega)).trans c1
    have c2 : ct1 2 = .inl (ca 3, 8, .inr (.inr (.inr (.inr rw)))) := by rw [hct1]; exact (va_up_ne _ _ (by omega)).trans c2
    have c3 : ct1 3 = .inr (6, [.int (nI (dd 7 0))]) := by rw [hct1]; exact (va_up_ne _ _ (by omega)).trans c3
    have c4 : ct1 4 = .inr (5, [.ref (ad 5)]) := by rw [hct1]; exact (va_up_ne _ _ (by omega)).trans c4
    have c5 : ct1 5 = .inl (ca 0, 32, .inl (zf (dd 6))) := by rw [hct1]; exact (va_up_ne _ _ (by omega)).trans c5
    have c6 : ct1 6 = .inr (5, [.ref (ad 7)]) := by rw [hct1]; exact (va_up_ne _ _ (by omega)).trans c6
    have c7 : ct1 7 = .inl (ca 0, 32, .inl (zf (va_cpy (dd 6) fk 0 0 32))) := by rw [hct1]; exact va_up_self _ _ _
    refine lv_aload_n hx hb d_D_save_20 rfl (lv_at hl 0 rfl) ?_
    refine lv_iconst (v := 1) hx hb d_D_save_21 rfl ?_
    refine zz_put (j := 0) (ci := 0) (C := R_D) (T := T_D) (N := 10) (v := .int 1) (ty := ft_D 8) hx hb hts in_D ft_D ft_D_ok fn_D hown hK hP hD hS (by omega) c0 rfl 8 (by decide) (hts _ mf_D_49) (fun _ h => h) rfl (ft_D_ok 8 (by decide)) rfl rfl (Nat.le_of_ble_eq_true rfl) d_D_save_22 (fun H locs hP hS => ?_)
    have hP : va_P D zC (zl n ad (va_up ct1 0 (.inr (0, [.ref (ad 1), .int (nI (sc 0)), .ref (ad (tt 3 (N - 1))), .ref (ad 2), .int (nI (sc 1)), .ref (ad 3), .ref (ad 4), .ref (ad 6), .int 1, .int (nI (sc 3))])))) H := hP
    obtain ⟨ct2, hct2⟩ : ∃ c, c = va_up ct1 0 (.inr (0, [.ref (ad 1), .int (nI (sc 0)), .ref (ad (tt 3 (N - 1))), .ref (ad 2), .int (nI (sc 1)), .ref (ad 3), .ref (ad 4), .ref (ad 6), .int 1, .int (nI (sc 3))])) := ⟨_, rfl⟩
    rw [← hct2] at hP
    have c1 : ct2 1 = .inl (ca 2, 6, .inr (.inr (.inr (.inr sk)))) := by rw [hct2]; exact (va_up_ne _ _ (by omega)).trans c1
    have c2 : ct2 2 = .inl (ca 3, 8, .inr (.inr (.inr (.inr rw)))) := by rw [hct2]; exact (va_up_ne _ _ (by omega)).trans c2
    have c3 : ct2 3 = .inr (6, [.int (nI (dd 7 0))]) := by rw [hct2]; exact (va_up_ne _ _ (by omega)).trans c3
    have c4 : ct2 4 = .inr (5, [.ref (ad 5)]) := by rw [hct2]; exact (va_up_ne _ _ (by omega)).trans c4
    have c5 : ct2 5 = .inl (ca 0, 32, .inl (zf (dd 6))) := by rw [hct2]; exact (va_up_ne _ _ (by omega)).trans c5
    have c6 : ct2 6 = .inr (5, [.ref (ad 7)]) := by rw [hct2]; exact (va_up_ne _ _ (by omega)).trans c6
    have c7 : ct2 7 = .inl (ca 0, 32, .inl (zf (va_cpy (dd 6) fk 0 0 32))) := by rw [hct2]; exact (va_up_ne _ _ (by omega)).trans c7
    have c0 : ct2 0 = .inr (0, [.ref (ad 1), .int (nI (sc 0)), .ref (ad (tt 3 (N - 1))), .ref (ad 2), .int (nI (sc 1)), .ref (ad 3), .ref (ad 4), .ref (ad 6), .int 1, .int (nI (sc 3))]) := by rw [hct2]; exact va_up_self _ _ _
    refine lv_iconst (v := 1) hx hb d_D_save_25 rfl ?_
    exact W.zret hx hb hr (rfl) (fun t ht hW => ⟨⟨_, ct2, rfl, Or.inr ⟨hN0, rfl, by rw [hct2, hct1]⟩, zN_warm hW hN, va_K.moved hW.alike hK, by rw [ht]; exact hP⟩, hS.F ht⟩) hS.2.2 d_D_save_26

theorem d_D_known_0 : decode c_D_known 0 = .ok (.aload_n 0, 1) := by decide +kernel
theorem d_D_known_1 : decode c_D_known 1 = .ok (.getfield 19, 3) := by decide +kernel
theorem d_D_known_4 : decode c_D_known 4 = .ok (.ifnull 17, 3) := by decide +kernel
theorem d_D_known_7 : decode c_D_known 7 = .ok (.aload_n 0, 1) := by decide +kernel
theorem d_D_known_8 : decode c_D_known 8 = .ok (.getfield 19, 3) := by decide +kernel
theorem d_D_known_11 : decode c_D_known 11 = .ok (.invokevirtual 119, 3) := by decide +kernel
theorem d_D_known_14 : decode c_D_known 14 = .ok (.ifCond .eq 7, 3) := by decide +kernel
theorem d_D_known_17 : decode c_D_known 17 = .ok (.iconst 1, 1) := by decide +kernel
theorem d_D_known_18 : decode c_D_known 18 = .ok (.goto 4, 3) := by decide +kernel
theorem d_D_known_21 : decode c_D_known 21 = .ok (.iconst 0, 1) := by decide +kernel
theorem d_D_known_22 : decode c_D_known 22 = .ok (.ireturn, 1) := by decide +kernel

set_option maxHeartbeats 4000000 in
set_option maxRecDepth 100000 in
/-- known() -/
theorem k_knownD (l : Launch) (D : va_G) (ca : Nat → ClassId) (n : Nat) (ad : Nat → Nat) (ct : Nat → va_E) (tt bb ee : Nat → Nat → Nat) (N : Nat) (dd : Nat → Nat → Nat) (sc : Nat → Nat) (sk rw : Nat → Option Nat) (fk ln : Nat → Nat) (hn0 : 8 ≤ n) (hTS : tS n tt bb ee 4 5 3 N) (hd : dS ca ad tt bb ee N dd sc sk rw fk ln ct) (h8 : ∀ k, k < N → 8 ≤ tt 3 k) (hN15 : N ≤ 15) (K : Nat → Nat) (hKe : ∀ k, k < N → K k = dK tt dd K k) (hK2 : ∀ k, k < N → K k < 2) : Met l y_D_known (Cond.code y_D_known c_D_known 1 (some .boolean) :: zT) ({ frames := 20, cells := 0, slots := 0, locals := 800 }) (va_Pc [.ref (ad 0)] (dw D ca n ad ct)) (QcRead (zb (decide (0 < N) && decide (K (N - 1) = 1)))) 0 0 (fun _ => False) := by
  refine Met.ofW (cc := c_D_known) (maxL := 1) (ret := (some .boolean)) (by decide) rfl ?_
  intro p e s m args below meth c s₁ B hml hv
  obtain ⟨rfl, hN, hK, hP⟩ := hv
  have hx := B.exec
  have hb := B.bytes
  have hr := B.returns
  have hts0 := atoms_spec (ws := Cond.code y_D_known c_D_known 1 (some .boolean) :: zT) B.pre
  have hts := fun w h => hts0 w (List.mem_cons_of_mem _ h)
  have hown : s.vm.findClass R_D = some m.cls := findClass_of_methodNamed B.named
  have hlocks := B.notSynchronized
  obtain ⟨c0, c1, c2, c6, c7, hTW, hln, hl2⟩ := id hd
  have c4 := hTW.1
  have c5 := hTW.2.1
  have c3 := hTW.2.2.1
  have hl := lv_entry ([.ref (ad 0)]) (n := 1) (Nat.le_of_ble_eq_true rfl)
  rw [lg_entry_eq]
  generalize (lg_sl ([.ref (ad 0)]) ++ List.replicate (1 - (lg_sl ([.ref (ad 0)])).length) Slot.unset).toArray = ls at hl ⊢
  have hl : lv_has ls 1 [(0, .ref (ad 0))] := hl
  rcases Nat.eq_zero_or_pos N with hN0 | hN0
  · rw [trV_0 hN0] at c0
    have hq : (decide (0 < N) && decide (K (N - 1) = 1)) = false := by rw [decide_eq_false (by omega), Bool.false_and]
    refine lv_aload_n hx hb d_D_known_0 rfl (lv_at hl 0 rfl) ?_
    refine zz_get (j := 0) (ci := 0) (C := R_D) (T := T_D) (N := 10) hx hb hts in_D hown hK hP (by omega) c0 rfl 2 (by decide) (hts _ mf_D_19) (fun _ h => h) (v := .null) rfl d_D_known_1 ?_
    refine lv_ifnullN (tgt := 21) hx hb d_D_known_4 rfl ?_
    refine lv_iconst (v := 0) hx hb d_D_known_21 rfl ?_
    refine zz_as (y := zb (decide (0 < N) && decide (K (N - 1) = 1))) (by rw [hq]; rfl) ?_
    exact W.zret hx hb hr (zb_nar _) (fun t ht hW => ⟨rfl, ht⟩) (fun q h => absurd h List.not_mem_nil) d_D_known_22
  · have hNs : ¬ N = 0 := by omega
    rw [trV_s hNs] at c0
    have kb := hK2 (N - 1) (by omega)
    refine lv_aload_n hx hb d_D_known_0 rfl (lv_at hl 0 rfl) ?_
    refine zz_get (j := 0) (ci := 0) (C := R_D) (T := T_D) (N := 10) hx hb hts in_D hown hK hP (by omega) c0 rfl 2 (by decide) (hts _ mf_D_19) (fun _ h => h) (v := .ref (ad (tt 3 (N - 1)))) rfl d_D_known_1 ?_
    refine lv_ifnull hx hb d_D_known_4 ?_
    refine lv_aload_n hx hb d_D_known_7 rfl (lv_at hl 0 rfl) ?_
    refine zz_get (j := 0) (ci := 0) (C := R_D) (T := T_D) (N := 10) hx hb hts in_D hown hK hP (by omega) c0 rfl 2 (by decide) (hts _ mf_D_19) (fun _ h => h) (v := .ref (ad (tt 3 (N - 1)))) rfl d_D_known_8 ?_
    refine dsp_isKnown (k := N - 1) (index := 119) (rest := []) ⟨hx, hb, hml, hown, hts⟩ hN hK hP hTS hTW (by omega) (known_all l hTS hTW K hKe hK2 (N - 1) (by omega)) mk_D_119 (show 4 + (N - 1) ≤ 20 by omega) (show 40 * (4 + (N - 1)) ≤ 800 by omega) hl.1 (Nat.le_of_ble_eq_true rfl) d_D_known_11 ⟨Nat.zero_le _, Nat.zero_le _⟩ ?_
    refine lv_if_eq (tgt := 21) hx hb d_D_known_14 rfl (fun h14 => ?_) (fun h14 => ?_)
    · skip
      have hq : (decide (0 < N) && decide (K (N - 1) = 1)) = false := by rw [b_z kb h14, Bool.and_comm]; rfl
      refine lv_iconst (v := 0) hx hb d_D_known_21 rfl ?_
      refine zz_as (y := zb (decide (0 < N) && decide (K (N - 1) = 1))) (by rw [hq]; rfl) ?_
      exact W.zret hx hb hr (zb_nar _) (fun t ht hW => ⟨rfl, ht⟩) (fun q h => absurd h List.not_mem_nil) d_D_known_22
    · skip
      have hq : (decide (0 < N) && decide (K (N - 1) = 1)) = true := by rw [decide_eq_true hN0, b_o kb h14]; rfl
      refine lv_iconst (v := 1) hx hb d_D_known_17 rfl ?_
      refine lv_goto (tgt := 22) hx hb d_D_known_18 rfl ?_
      refine zz_as (y := zb (decide (0 < N) && decide (K (N - 1) = 1))) (by rw [hq]; rfl) ?_
      exact W.zret hx hb hr (zb_nar _) (fun t ht hW => ⟨rfl, ht⟩) (fun q h => absurd h List.not_mem_nil) d_D_known_22

theorem d_D_challenge_0 : decode c_D_challenge 0 = .ok (.aload_n 0, 1) := by decide +kernel
theorem d_D_challenge_1 : decode c_D_challenge 1 = .ok (.getfield 19, 3) := by decide +kernel
theorem d_D_challenge_4 : decode c_D_challenge 4 = .ok (.ifnonnull 6, 3) := by decide +kernel
theorem d_D_challenge_7 : decode c_D_challenge 7 = .ok (.bipush (-2), 2) := by decide +kernel
theorem d_D_challenge_9 : decode c_D_challenge 9 = .ok (.ireturn, 1) := by decide +kernel
theorem d_D_challenge_10 : decode c_D_challenge 10 = .ok (.aload_n 0, 1) := by decide +kernel
theorem d_D_challenge_11 : decode c_D_challenge 11 = .ok (.getfield 19, 3) := by decide +kernel
theorem d_D_challenge_14 : decode c_D_challenge 14 = .ok (.aload_n 0, 1) := by decide +kernel
theorem d_D_challenge_15 : decode c_D_challenge 15 = .ok (.getfield 42, 3) := by decide +kernel
theorem d_D_challenge_18 : decode c_D_challenge 18 = .ok (.invokevirtual 157, 3) := by decide +kernel
theorem d_D_challenge_21 : decode c_D_challenge 21 = .ok (.istore_n 1, 1) := by decide +kernel
theorem d_D_challenge_22 : decode c_D_challenge 22 = .ok (.iload_n 1, 1) := by decide +kernel
theorem d_D_challenge_23 : decode c_D_challenge 23 = .ok (.iconst (-1), 1) := by decide +kernel
theorem d_D_challenge_24 : decode c_D_challenge 24 = .ok (.if_icmp .ne 8, 3) := by decide +kernel
theorem d_D_challenge_27 : decode c_D_challenge 27 = .ok (.bipush (-4), 2) := by decide +kernel
theorem d_D_challenge_29 : decode c_D_challenge 29 = .ok (.goto 4, 3) := by decide +kernel
theorem d_D_challenge_32 : decode c_D_challenge 32 = .ok (.iload_n 1, 1) := by decide +kernel
theorem d_D_challenge_33 : decode c_D_challenge 33 = .ok (.ireturn, 1) := by decide +kernel

set_option maxHeartbeats 4000000 in
set_option maxRecDepth 100000 in
/-- challenge() -/
theorem k_challengeD (l : Launch) (D : va_G) (ca : Nat → ClassId) (n : Nat) (ad : Nat → Nat) (ct : Nat → va_E) (tt bb ee : Nat → Nat → Nat) (N : Nat) (dd : Nat → Nat → Nat) (sc : Nat → Nat) (sk rw : Nat → Option Nat) (fk ln : Nat → Nat) (hn0 : 8 ≤ n) (hTS : tS n tt bb ee 4 5 3 N) (hd : dS ca ad tt bb ee N dd sc sk rw fk ln ct) (h8 : ∀ k, k < N → 8 ≤ tt 3 k) (hN15 : N ≤ 15) (hnm : ∀ k, k < N → tt 0 k = 0 → dd 0 k < 8) (V : Nat → Nat) (hVe : ∀ k, k < N → V k = dV tt dd V k) (hVb : vB V N) : Met l y_D_challenge (Cond.code y_D_challenge c_D_challenge 2 (some .int) :: zT) ({ frames := 20, cells := 0, slots := 0, locals := 800 }) (va_Pc [.ref (ad 0)] (dw D ca n ad ct)) (QcRead (if N = 0 then -2 else if V (N - 1) = 4294967295 then -4 else nI (V (N - 1)))) 0 0 (fun _ => False) := by
  refine Met.ofW (cc := c_D_challenge) (maxL := 2) (ret := (some .int)) (by decide) rfl ?_
  intro p e s m args below meth c s₁ B hml hv
  obtain ⟨rfl, hN, hK, hP⟩ := hv
  have hx := B.exec
  have hb := B.bytes
  have hr := B.returns
  have hts0 := atoms_spec (ws := Cond.code y_D_challenge c_D_challenge 2 (some .int) :: zT) B.pre
  have hts := fun w h => hts0 w (List.mem_cons_of_mem _ h)
  have hown : s.vm.findClass R_D = some m.cls := findClass_of_methodNamed B.named
  have hlocks := B.notSynchronized
  obtain ⟨c0, c1, c2, c6, c7, hTW, hln, hl2⟩ := id hd
  have c4 := hTW.1
  have c5 := hTW.2.1
  have c3 := hTW.2.2.1
  have hl := lv_entry ([.ref (ad 0)]) (n := 2) (Nat.le_of_ble_eq_true rfl)
  rw [lg_entry_eq]
  generalize (lg_sl ([.ref (ad 0)]) ++ List.replicate (2 - (lg_sl ([.ref (ad 0)])).length) Slot.unset).toArray = ls at hl ⊢
  have hl : lv_has ls 2 [(0, .ref (ad 0))] := hl
  rcases Nat.eq_zero_or_pos N with hN0 | hN0
  · rw [trV_0 hN0] at c0
    have hq : (if N = 0 then -2 else if V (N - 1) = 4294967295 then -4 else nI (V (N - 1))) = (-2 : Int32) := by rw [if_pos hN0]
    refine lv_aload_n hx hb d_D_challenge_0 rfl (lv_at hl 0 rfl) ?_
    refine zz_get (j := 0) (ci := 0) (C := R_D) (T := T_D) (N := 10) hx hb hts in_D hown hK hP (by omega) c0 rfl 2 (by decide) (hts _ mf_D_19) (fun _ h => h) (v := .null) rfl d_D_challenge_1 ?_
    refine lv_ifnonnullN hx hb d_D_challenge_4 ?_
    refine lv_bipush (v := (-2)) hx hb d_D_challenge_7 rfl ?_
    refine zz_as (y := if N = 0 then -2 else if V (N - 1) = 4294967295 then -4 else nI (V (N - 1))) (hq.symm) ?_
    exact W.iret hx hb hr (fun t ht hW => ⟨rfl, ht⟩) (fun q h => absurd h List.not_mem_nil) d_D_challenge_9
  · have hNs : ¬ N = 0 := by omega
    rw [trV_s hNs] at c0
    have vb := hVb (N - 1) (by omega)
    refine lv_aload_n hx hb d_D_challenge_0 rfl (lv_at hl 0 rfl) ?_
    refine zz_get (j := 0) (ci := 0) (C := R_D) (T := T_D) (N := 10) hx hb hts in_D hown hK hP (by omega) c0 rfl 2 (by decide) (hts _ mf_D_19) (fun _ h => h) (v := .ref (ad (tt 3 (N - 1)))) rfl d_D_challenge_1 ?_
    refine lv_ifnonnull (tgt := 10) hx hb d_D_challenge_4 rfl ?_
    refine lv_aload_n hx hb d_D_challenge_10 rfl (lv_at hl 0 rfl) ?_
    refine zz_get (j := 0) (ci := 0) (C := R_D) (T := T_D) (N := 10) hx hb hts in_D hown hK hP (by omega) c0 rfl 2 (by decide) (hts _ mf_D_19) (fun _ h => h) (v := .ref (ad (tt 3 (N - 1)))) rfl d_D_challenge_11 ?_
    refine lv_aload_n hx hb d_D_challenge_14 rfl (lv_at hl 0 rfl) ?_
    refine zz_get (j := 0) (ci := 0) (C := R_D) (T := T_D) (N := 10) hx hb hts in_D hown hK hP (by omega) c0 rfl 6 (by decide) (hts _ mf_D_42) (fun _ h => h) (v := .ref (ad 4)) rfl d_D_challenge_15 ?_
    refine dsp_challengeIn (k := N - 1) (index := 157) (rest := []) ⟨hx, hb, hml, hown, hts⟩ hN hK hP hTS hTW (by omega) (challenge_all l hTS hTW hnm V hVe hVb (N - 1) (by omega)) mk_D_157 (show 4 + (N - 1) ≤ 20 by omega) (show 40 * (4 + (N - 1)) ≤ 800 by omega) hl.1 (Nat.le_of_ble_eq_true rfl) d_D_challenge_18 ⟨Nat.zero_le _, Nat.zero_le _⟩ ?_
    refine lv_istore_n (lv' := [(1, .int (nI (V (N - 1)))), (0, .ref (ad 0))]) hx hb d_D_challenge_21 rfl hl (by decide) rfl (fun ls hl => ?_)
    refine lv_iload_n hx hb d_D_challenge_22 rfl (lv_at hl 0 rfl) ?_
    refine lv_iconst (v := (-1)) hx hb d_D_challenge_23 rfl ?_
    refine lv_icmp_ne (tgt := 32) hx hb d_D_challenge_24 rfl (fun h24 => ?_) (fun h24 => ?_)
    · skip
      have e1 : ¬ V (N - 1) = 4294967295 := fun q => h24 (by rw [q]; exact zn_m1)
      have hq : (if N = 0 then -2 else if V (N - 1) = 4294967295 then -4 else nI (V (N - 1))) = nI (V (N - 1)) := by rw [if_neg hNs, if_neg e1]
      refine lv_iload_n hx hb d_D_challenge_32 rfl (lv_at hl 0 rfl) ?_
      refine zz_as (y := if N = 0 then -2 else if V (N - 1) = 4294967295 then -4 else nI (V (N - 1))) (hq.symm) ?_
      exact W.iret hx hb hr (fun t ht hW => ⟨rfl, ht⟩) (fun q h => absurd h List.not_mem_nil) d_D_challenge_33
    · skip
      have e1 : V (N - 1) = 4294967295 := (zn_inj (by omega) (by decide)).mp (h24.trans zn_m1.symm)
      have hq : (if N = 0 then -2 else if V (N - 1) = 4294967295 then -4 else nI (V (N - 1))) = (-4 : Int32) := by rw [if_neg hNs, if_pos e1]
      refine lv_bipush (v := (-4)) hx hb d_D_challenge_27 rfl ?_
      refine lv_goto (tgt := 33) hx hb d_D_challenge_29 rfl ?_
      refine zz_as (y := if N = 0 then -2 else if V (N - 1) = 4294967295 then -4 else nI (V (N - 1))) (hq.symm) ?_
      exact W.iret hx hb hr (fun t ht hW => ⟨rfl, ht⟩) (fun q h => absurd h List.not_mem_nil) d_D_challenge_33

theorem d_D_commit_0 : decode c_D_commit 0 = .ok (.aload_n 0, 1) := by decide +kernel
theorem d_D_commit_1 : decode c_D_commit 1 = .ok (.getfield 19, 3) := by decide +kernel
theorem d_D_commit_4 : decode c_D_commit 4 = .ok (.ifnonnull 6, 3) := by decide +kernel
theorem d_D_commit_7 : decode c_D_commit 7 = .ok (.bipush (-2), 2) := by decide +kernel
theorem d_D_commit_9 : decode c_D_commit 9 = .ok (.ireturn, 1) := by decide +kernel
theorem d_D_commit_10 : decode c_D_commit 10 = .ok (.aload_n 0, 1) := by decide +kernel
theorem d_D_commit_11 : decode c_D_commit 11 = .ok (.getfield 19, 3) := by decide +kernel
theorem d_D_commit_14 : decode c_D_commit 14 = .ok (.invokevirtual 119, 3) := by decide +kernel
theorem d_D_commit_17 : decode c_D_commit 17 = .ok (.ifCond .ne 6, 3) := by decide +kernel
theorem d_D_commit_20 : decode c_D_commit 20 = .ok (.bipush (-3), 2) := by decide +kernel
theorem d_D_commit_22 : decode c_D_commit 22 = .ok (.ireturn, 1) := by decide +kernel
theorem d_D_commit_23 : decode c_D_commit 23 = .ok (.aload_n 0, 1) := by decide +kernel
theorem d_D_commit_24 : decode c_D_commit 24 = .ok (.getfield 35, 3) := by decide +kernel
theorem d_D_commit_27 : decode c_D_commit 27 = .ok (.iload_n 1, 1) := by decide +kernel
theorem d_D_commit_28 : decode c_D_commit 28 = .ok (.invokevirtual 120, 3) := by decide +kernel
theorem d_D_commit_31 : decode c_D_commit 31 = .ok (.aload_n 0, 1) := by decide +kernel
theorem d_D_commit_32 : decode c_D_commit 32 = .ok (.getfield 19, 3) := by decide +kernel
theorem d_D_commit_35 : decode c_D_commit 35 = .ok (.aload_n 0, 1) := by decide +kernel
theorem d_D_commit_36 : decode c_D_commit 36 = .ok (.getfield 42, 3) := by decide +kernel
theorem d_D_commit_39 : decode c_D_commit 39 = .ok (.aload_n 0, 1) := by decide +kernel
theorem d_D_commit_40 : decode c_D_commit 40 = .ok (.getfield 35, 3) := by decide +kernel
theorem d_D_commit_43 : decode c_D_commit 43 = .ok (.invokevirtual 123, 3) := by decide +kernel
theorem d_D_commit_46 : decode c_D_commit 46 = .ok (.aload_n 0, 1) := by decide +kernel
theorem d_D_commit_47 : decode c_D_commit 47 = .ok (.iconst 1, 1) := by decide +kernel
theorem d_D_commit_48 : decode c_D_commit 48 = .ok (.putfield 53, 3) := by decide +kernel
theorem d_D_commit_51 : decode c_D_commit 51 = .ok (.iconst 0, 1) := by decide +kernel
theorem d_D_commit_52 : decode c_D_commit 52 = .ok (.ireturn, 1) := by decide +kernel

set_option maxHeartbeats 4000000 in
set_option maxRecDepth 100000 in
/-- commit(seed) -/
theorem k_commitD (l : Launch) (D : va_G) (ca : Nat → ClassId) (n : Nat) (ad : Nat → Nat) (ct : Nat → va_E) (hI : dI n ad) (tt bb ee : Nat → Nat → Nat) (N : Nat) (dd : Nat → Nat → Nat) (sc : Nat → Nat) (sk rw : Nat → Option Nat) (fk ln : Nat → Nat) (hn0 : 8 ≤ n) (hTS : tS n tt bb ee 4 5 3 N) (hd : dS ca ad tt bb ee N dd sc sk rw fk ln ct) (h8 : ∀ k, k < N → 8 ≤ tt 3 k) (hN15 : N ≤ 15) (K : Nat → Nat) (hKe : ∀ k, k < N → K k = dK tt dd K k) (hK2 : ∀ k, k < N → K k < 2) (hnm : ∀ k, k < N → tt 0 k = 0 → dd 0 k < 8) (sd : Nat) : Met l y_D_commit (Cond.code y_D_commit c_D_commit 2 (some .int) :: zT) ({ frames := 20, cells := 0, slots := 0, locals := 800 }) (va_Pc [.ref (ad 0), .int (nI sd)] (dw D ca n ad ct)) (va_Qi (fun r ct1 => (N = 0 ∧ r = -2 ∧ ct1 = ct) ∨ (0 < N ∧ ((¬ K (N - 1) = 1 ∧ r = -3 ∧ ct1 = ct) ∨ (K (N - 1) = 1 ∧ r = 0 ∧ ∃ ct2, tW ca ad tt bb ee 4 5 3 N (dc tt bb ee K (N - 1) true 0 (zs dd 7 0 sd)) ct2 ∧ fr tt 5 3 N ct ct2 ∧ ct1 = va_up ct2 0 (.inr (0, [.ref (ad 1), .int (nI (sc 0)), .ref (ad (tt 3 (N - 1))), .ref (ad 2), .int (nI (sc 1)), .ref (ad 3), .ref (ad 4), .ref (ad 6), .int (nI (sc 2)), .int 1])))))) (dw D ca n ad) (dA n ad)) 0 0 (dA n ad) := by
  refine Met.ofW (cc := c_D_commit) (maxL := 2) (ret := (some .int)) (by decide) rfl ?_
  intro p e s m args below meth c s₁ B hml hv
  obtain ⟨rfl, hN, hK, hP⟩ := hv
  have hx := B.exec
  have hb := B.bytes
  have hr := B.returns
  have hts0 := atoms_spec (ws := Cond.code y_D_commit c_D_commit 2 (some .int) :: zT) B.pre
  have hts := fun w h => hts0 w (List.mem_cons_of_mem _ h)
  have hown : s.vm.findClass R_D = some m.cls := findClass_of_methodNamed B.named
  have hlocks := B.notSynchronized
  have hD := dI_D hI
  have hS : va_S (dA n ad) s.heap s.heap [] := va_S.rf
  have hAA : ∀ q, dA n ad q → dA n ad q := fun _ h => h
  obtain ⟨c0, c1, c2, c6, c7, hTW, hln, hl2⟩ := id hd
  have c4 := hTW.1
  have c5 := hTW.2.1
  have c3 := hTW.2.2.1
  have hl := lv_entry ([.ref (ad 0), .int (nI sd)]) (n := 2) (Nat.le_of_ble_eq_true rfl)
  rw [lg_entry_eq]
  generalize (lg_sl ([.ref (ad 0), .int (nI sd)]) ++ List.replicate (2 - (lg_sl ([.ref (ad 0), .int (nI sd)])).length) Slot.unset).toArray = ls at hl ⊢
  have hl : lv_has ls 2 [(0, .ref (ad 0)), (1, .int (nI sd))] := hl
  rcases Nat.eq_zero_or_pos N with hN0 | hN0
  · rw [trV_0 hN0] at c0
    refine lv_aload_n hx hb d_D_commit_0 rfl (lv_at hl 0 rfl) ?_
    refine zz_get (j := 0) (ci := 0) (C := R_D) (T := T_D) (N := 10) hx hb hts in_D hown hK hP (by omega) c0 rfl 2 (by decide) (hts _ mf_D_19) (fun _ h => h) (v := .null) rfl d_D_commit_1 ?_
    refine lv_ifnonnullN hx hb d_D_commit_4 ?_
    refine lv_bipush (v := (-2)) hx hb d_D_commit_7 rfl ?_
    exact W.iret hx hb hr (fun t ht hW => ⟨⟨_, ct, rfl, Or.inl ⟨hN0, rfl, rfl⟩, zN_warm hW hN, va_K.moved hW.alike hK, by rw [ht]; exact hP⟩, hS.F ht⟩) hS.2.2 d_D_commit_9
  · have hNs : ¬ N = 0 := by omega
    rw [trV_s hNs] at c0
    have kb := hK2 (N - 1) (by omega)
    refine lv_aload_n hx hb d_D_commit_0 rfl (lv_at hl 0 rfl) ?_
    refine zz_get (j := 0) (ci := 0) (C := R_D) (T := T_D) (N := 10) hx hb hts in_D hown hK hP (by omega) c0 rfl 2 (by decide) (hts _ mf_D_19) (fun _ h => h) (v := .ref (ad (tt 3 (N - 1)))) rfl d_D_commit_1 ?_
    refine lv_ifnonnull (tgt := 10) hx hb d_D_commit_4 rfl ?_
    refine lv_aload_n hx hb d_D_commit_10 rfl (lv_at hl 0 rfl) ?_
    refine zz_get (j := 0) (ci := 0) (C := R_D) (T := T_D) (N := 10) hx hb hts in_D hown hK hP (by omega) c0 rfl 2 (by decide) (hts _ mf_D_19) (fun _ h => h) (v := .ref (ad (tt 3 (N - 1)))) rfl d_D_commit_11 ?_
    refine dsp_isKnown (k := N - 1) (index := 119) (rest := []) ⟨hx, hb, hml, hown, hts⟩ hN hK hP hTS hTW (by omega) (known_all l hTS hTW K hKe hK2 (N - 1) (by omega)) mk_D_119 (show 4 + (N - 1) ≤ 20 by omega) (show 40 * (4 + (N - 1)) ≤ 800 by omega) hl.1 (Nat.le_of_ble_eq_true rfl) d_D_commit_14 ⟨Nat.zero_le _, Nat.zero_le _⟩ ?_
    refine lv_if_ne (tgt := 23) hx hb d_D_commit_17 rfl (fun h17 => ?_) (fun h17 => ?_)
    · skip
      have y := b_o kb h17
      refine lv_aload_n hx hb d_D_commit_23 rfl (lv_at hl 0 rfl) ?_
      refine zz_get (j := 0) (ci := 0) (C := R_D) (T := T_D) (N := 10) hx hb hts in_D hown hK hP (by omega) c0 rfl 5 (by decide) (hts _ mf_D_35) (fun _ h => h) (v := .ref (ad 3)) rfl d_D_commit_24 ?_
      refine lv_iload_n hx hb d_D_commit_27 rfl (lv_at hl 1 rfl) ?_
      refine dd_cv (index := 120) (k := 1) (As := [.int (nI sd)]) (rest := []) ⟨hx, hb, hml, hown, hts⟩ (k_start l D ca n ad ct hI 3 (dd 7 0) sd (by omega) c3) mk_D_120 mo_G_start me_G_G_start_G mi_G mc_G_start (by decide +kernel) ⟨rfl, rfl⟩ ⟨by decide, by decide⟩ (dd_pre hN hK hP (j := 3) (by omega) c3 (r := (R_G, T_G, 1)) rfl) hS hAA rfl hl.1 rfl (Nat.le_of_ble_eq_true rfl) d_D_commit_28 ⟨Nat.zero_le _, Nat.zero_le _⟩ (fun ct1 H locs hct1 hP hS => ?_)
      have c0 : ct1 0 = .inr (0, [.ref (ad 1), .int (nI (sc 0)), .ref (ad (tt 3 (N - 1))), .ref (ad 2), .int (nI (sc 1)), .ref (ad 3), .ref (ad 4), .ref (ad 6), .int (nI (sc 2)), .int (nI (sc 3))]) := by rw [hct1]; exact (va_up_ne _ _ (by omega)).trans c0
      have c1 : ct1 1 = .inl (ca 2, 6, .inr (.inr (.inr (.inr sk)))) := by rw [hct1]; exact (va_up_ne _ _ (by omega)).trans c1
      have c2 : ct1 2 = .inl (ca 3, 8, .inr (.inr (.inr (.inr rw)))) := by rw [hct1]; exact (va_up_ne _ _ (by omega)).trans c2
      have c4 : ct1 4 = .inr (5, [.ref (ad 5)]) := by rw [hct1]; exact (va_up_ne _ _ (by omega)).trans c4
      have c5 : ct1 5 = .inl (ca 0, 32, .inl (zf (dd 6))) := by rw [hct1]; exact (va_up_ne _ _ (by omega)).trans c5
      have c6 : ct1 6 = .inr (5, [.ref (ad 7)]) := by rw [hct1]; exact (va_up_ne _ _ (by omega)).trans c6
      have c7 : ct1 7 = .inl (ca 0, 32, .inl (zf fk)) := by rw [hct1]; exact (va_up_ne _ _ (by omega)).trans c7
      have c3 : ct1 3 = .inr (6, [.int (nI sd)]) := by rw [hct1]; exact va_up_self _ _ _
      have hTF := tW_jd hTS hTW sd
      rw [← hct1] at hTF
      obtain ⟨hTW1, hfr1⟩ := hTF
      have hB1 : hB tt N K (zs dd 7 0 sd) := hB_of ⟨hnm, hKe⟩ (fun i => zs_nj _ _ _ _ (by decide)) (fun i => zs_nj _ _ _ _ (by decide))
      refine lv_aload_n hx hb d_D_commit_31 rfl (lv_at hl 0 rfl) ?_
      refine zz_get (j := 0) (ci := 0) (C := R_D) (T := T_D) (N := 10) hx hb hts in_D hown hK hP (by omega) c0 rfl 2 (by decide) (hts _ mf_D_19) (fun _ h => h) (v := .ref (ad (tt 3 (N - 1)))) rfl d_D_commit_32 ?_
      refine lv_aload_n hx hb d_D_commit_35 rfl (lv_at hl 0 rfl) ?_
      refine zz_get (j := 0) (ci := 0) (C := R_D) (T := T_D) (N := 10) hx hb hts in_D hown hK hP (by omega) c0 rfl 6 (by decide) (hts _ mf_D_42) (fun _ h => h) (v := .ref (ad 4)) rfl d_D_commit_36 ?_
      refine lv_aload_n hx hb d_D_commit_39 rfl (lv_at hl 0 rfl) ?_
      refine zz_get (j := 0) (ci := 0) (C := R_D) (T := T_D) (N := 10) hx hb hts in_D hown hK hP (by omega) c0 rfl 5 (by decide) (hts _ mf_D_35) (fun _ h => h) (v := .ref (ad 3)) rfl d_D_commit_40 ?_
      refine dsp_commitReal (k := N - 1) (index := 123) (rest := []) ⟨hx, hb, hml, hown, hts⟩ hN hK hP hS hAA hTS hTW1 (by omega) ((commit_all l hI hTS K hK2 (N - 1) (by omega) ct1 (zs dd 7 0 sd) hTW1 hB1).1) mk_D_123 (show 4 + (N - 1) ≤ 20 by omega) (show 40 * (4 + (N - 1)) ≤ 800 by omega) hl.1 (Nat.le_of_ble_eq_true rfl) d_D_commit_43 ⟨Nat.zero_le _, Nat.zero_le _⟩ (fun ct2 H locs hct2 hP hS => ?_)
      obtain ⟨hTW2, hfr2⟩ := hct2
      have c0 : ct2 0 = .inr (0, [.ref (ad 1), .int (nI (sc 0)), .ref (ad (tt 3 (N - 1))), .ref (ad 2), .int (nI (sc 1)), .ref (ad 3), .ref (ad 4), .ref (ad 6), .int (nI (sc 2)), .int (nI (sc 3))]) := (hfr2 0 (by decide) (by decide) (fun k hk => by have := h8 k hk; omega)).trans c0
      have c1 : ct2 1 = .inl (ca 2, 6, .inr (.inr (.inr (.inr sk)))) := (hfr2 1 (by decide) (by decide) (fun k hk => by have := h8 k hk; omega)).trans c1
      have c2 : ct2 2 = .inl (ca 3, 8, .inr (.inr (.inr (.inr rw)))) := (hfr2 2 (by decide) (by decide) (fun k hk => by have := h8 k hk; omega)).trans c2
      have c6 : ct2 6 = .inr (5, [.ref (ad 7)]) := (hfr2 6 (by decide) (by decide) (fun k hk => by have := h8 k hk; omega)).trans c6
      have c7 : ct2 7 = .inl (ca 0, 32, .inl (zf fk)) := (hfr2 7 (by decide) (by decide) (fun k hk => by have := h8 k hk; omega)).trans c7
      have c4 := hTW2.1
      have c3 := hTW2.2.2.1
      refine lv_aload_n hx hb d_D_commit_46 rfl (lv_at hl 0 rfl) ?_
      refine lv_iconst (v := 1) hx hb d_D_commit_47 rfl ?_
      refine zz_put (j := 0) (ci := 0) (C := R_D) (T := T_D) (N := 10) (v := .int 1) (ty := ft_D 9) hx hb hts in_D ft_D ft_D_ok fn_D hown hK hP hD hS (by omega) c0 rfl 9 (by decide) (hts _ mf_D_53) (fun _ h => h) rfl (ft_D_ok 9 (by decide)) rfl rfl (Nat.le_of_ble_eq_true rfl) d_D_commit_48 (fun H locs hP hS => ?_)
      have hP : va_P D zC (zl n ad (va_up ct2 0 (.inr (0, [.ref (ad 1), .int (nI (sc 0)), .ref (ad (tt 3 (N - 1))), .ref (ad 2), .int (nI (sc 1)), .ref (ad 3), .ref (ad 4), .ref (ad 6), .int (nI (sc 2)), .int 1])))) H := hP
      obtain ⟨ct3, hct3⟩ : ∃ c, c = va_up ct2 0 (.inr (0, [.ref (ad 1), .int (nI (sc 0)), .ref (ad (tt 3 (N - 1))), .ref (ad 2), .int (nI (sc 1)), .ref (ad 3), .ref (ad 4), .ref (ad 6), .int (nI (sc 2)), .int 1])) := ⟨_, rfl⟩
      rw [← hct3] at hP
      have c1 : ct3 1 = .inl (ca 2, 6, .inr (.inr (.inr (.inr sk)))) := by rw [hct3]; exact (va_up_ne _ _ (by omega)).trans c1
      have c2 : ct3 2 = .inl (ca 3, 8, .inr (.inr (.inr (.inr rw)))) := by rw [hct3]; exact (va_up_ne _ _ (by omega)).trans c2
      have c6 : ct3 6 = .inr (5, [.ref (ad 7)]) := by rw [hct3]; exact (va_up_ne _ _ (by omega)).trans c6
      have c7 : ct3 7 = .inl (ca 0, 32, .inl (zf fk)) := by rw [hct3]; exact (va_up_ne _ _ (by omega)).trans c7
      have c4 : ct3 4 = .inr (5, [.ref (ad 5)]) := by rw [hct3]; exact (va_up_ne _ _ (by omega)).trans c4
      have c3 : ct3 3 = .inr (6, [.int (nI ((dc tt bb ee K (N - 1) true 0 (zs dd 7 0 sd)) 7 0))]) := by rw [hct3]; exact (va_up_ne _ _ (by omega)).trans c3
      have c0 : ct3 0 = .inr (0, [.ref (ad 1), .int (nI (sc 0)), .ref (ad (tt 3 (N - 1))), .ref (ad 2), .int (nI (sc 1)), .ref (ad 3), .ref (ad 4), .ref (ad 6), .int (nI (sc 2)), .int 1]) := by rw [hct3]; exact va_up_self _ _ _
      refine lv_iconst (v := 0) hx hb d_D_commit_51 rfl ?_
      exact W.iret hx hb hr (fun t ht hW => ⟨⟨_, ct3, rfl, Or.inr ⟨hN0, Or.inr ⟨y, rfl, ct2, hTW2, fr_tr hfr1 hfr2, hct3⟩⟩, zN_warm hW hN, va_K.moved hW.alike hK, by rw [ht]; exact hP⟩, hS.F ht⟩) hS.2.2 d_D_commit_52
    · skip
      have y : ¬ K (N - 1) = 1 := by have := b_z kb h17; omega
      refine lv_bipush (v := (-3)) hx hb d_D_commit_20 rfl ?_
      exact W.iret hx hb hr (fun t ht hW => ⟨⟨_, ct, rfl, Or.inr ⟨hN0, Or.inl ⟨y, rfl, rfl⟩⟩, zN_warm hW hN, va_K.moved hW.alike hK, by rw [ht]; exact hP⟩, hS.F ht⟩) hS.2.2 d_D_commit_22

theorem d_D_simulate_0 : decode c_D_simulate 0 = .ok (.aload_n 0, 1) := by decide +kernel
theorem d_D_simulate_1 : decode c_D_simulate 1 = .ok (.getfield 19, 3) := by decide +kernel
theorem d_D_simulate_4 : decode c_D_simulate 4 = .ok (.ifnonnull 6, 3) := by decide +kernel
theorem d_D_simulate_7 : decode c_D_simulate 7 = .ok (.bipush (-2), 2) := by decide +kernel
theorem d_D_simulate_9 : decode c_D_simulate 9 = .ok (.ireturn, 1) := by decide +kernel
theorem d_D_simulate_10 : decode c_D_simulate 10 = .ok (.iload_n 1, 1) := by decide +kernel
theorem d_D_simulate_11 : decode c_D_simulate 11 = .ok (.invokestatic 60, 3) := by decide +kernel
theorem d_D_simulate_14 : decode c_D_simulate 14 = .ok (.ifCond .ne 5, 3) := by decide +kernel
theorem d_D_simulate_17 : decode c_D_simulate 17 = .ok (.iconst (-1), 1) := by decide +kernel
theorem d_D_simulate_18 : decode c_D_simulate 18 = .ok (.ireturn, 1) := by decide +kernel
theorem d_D_simulate_19 : decode c_D_simulate 19 = .ok (.aload_n 0, 1) := by decide +kernel
theorem d_D_simulate_20 : decode c_D_simulate 20 = .ok (.getfield 35, 3) := by decide +kernel
theorem d_D_simulate_23 : decode c_D_simulate 23 = .ok (.iload_n 2, 1) := by decide +kernel
theorem d_D_simulate_24 : decode c_D_simulate 24 = .ok (.invokevirtual 120, 3) := by decide +kernel
theorem d_D_simulate_27 : decode c_D_simulate 27 = .ok (.aload_n 0, 1) := by decide +kernel
theorem d_D_simulate_28 : decode c_D_simulate 28 = .ok (.getfield 19, 3) := by decide +kernel
theorem d_D_simulate_31 : decode c_D_simulate 31 = .ok (.iload_n 1, 1) := by decide +kernel
theorem d_D_simulate_32 : decode c_D_simulate 32 = .ok (.aload_n 0, 1) := by decide +kernel
theorem d_D_simulate_33 : decode c_D_simulate 33 = .ok (.getfield 42, 3) := by decide +kernel
theorem d_D_simulate_36 : decode c_D_simulate 36 = .ok (.aload_n 0, 1) := by decide +kernel
theorem d_D_simulate_37 : decode c_D_simulate 37 = .ok (.getfield 35, 3) := by decide +kernel
theorem d_D_simulate_40 : decode c_D_simulate 40 = .ok (.invokevirtual 131, 3) := by decide +kernel
theorem d_D_simulate_43 : decode c_D_simulate 43 = .ok (.aload_n 0, 1) := by decide +kernel
theorem d_D_simulate_44 : decode c_D_simulate 44 = .ok (.iconst 0, 1) := by decide +kernel
theorem d_D_simulate_45 : decode c_D_simulate 45 = .ok (.putfield 53, 3) := by decide +kernel
theorem d_D_simulate_48 : decode c_D_simulate 48 = .ok (.iconst 0, 1) := by decide +kernel
theorem d_D_simulate_49 : decode c_D_simulate 49 = .ok (.ireturn, 1) := by decide +kernel

set_option maxHeartbeats 4000000 in
set_option maxRecDepth 100000 in
/-- simulate(c, seed) -/
theorem k_simulateD (l : Launch) (D : va_G) (ca : Nat → ClassId) (n : Nat) (ad : Nat → Nat) (ct : Nat → va_E) (hI : dI n ad) (tt bb ee : Nat → Nat → Nat) (N : Nat) (dd : Nat → Nat → Nat) (sc : Nat → Nat) (sk rw : Nat → Option Nat) (fk ln : Nat → Nat) (hn0 : 8 ≤ n) (hTS : tS n tt bb ee 4 5 3 N) (hd : dS ca ad tt bb ee N dd sc sk rw fk ln ct) (h8 : ∀ k, k < N → 8 ≤ tt 3 k) (hN15 : N ≤ 15) (K : Nat → Nat) (hKe : ∀ k, k < N → K k = dK tt dd K k) (hK2 : ∀ k, k < N → K k < 2) (hnm : ∀ k, k < N → tt 0 k = 0 → dd 0 k < 8) (c9 sd : Nat) (hc1 : c9 < 2 ^ 32) : Met l y_D_simulate (Cond.code y_D_simulate c_D_simulate 3 (some .int) :: zT) ({ frames := 20, cells := 0, slots := 0, locals := 800 }) (va_Pc [.ref (ad 0), .int (nI c9), .int (nI sd)] (dw D ca n ad ct)) (va_Qi (fun r ct1 => (N = 0 ∧ r = -2 ∧ ct1 = ct) ∨ (0 < N ∧ ((ex c9 = false ∧ r = -1 ∧ ct1 = ct) ∨ (ex c9 = true ∧ r = 0 ∧ ∃ ct2, tW ca ad tt bb ee 4 5 3 N (dc tt bb ee K (N - 1) false c9 (zs dd 7 0 sd)) ct2 ∧ fr tt 5 3 N ct ct2 ∧ ct1 = va_up ct2 0 (.inr (0, [.ref (ad 1), .int (nI (sc 0)), .ref (ad (tt 3 (N - 1))), .ref (ad 2), .int (nI (sc 1)), .ref (ad 3), .ref (ad 4), .ref (ad 6), .int (nI (sc 2)), .int 0])))))) (dw D ca n ad) (dA n ad)) 0 0 (dA n ad) := by
  refine Met.ofW (cc := c_D_simulate) (maxL := 3) (ret := (some .int)) (by decide) rfl ?_
  intro p e s m args below meth c s₁ B hml hv
  obtain ⟨rfl, hN, hK, hP⟩ := hv
  have hx := B.exec
  have hb := B.bytes
  have hr := B.returns
  have hts0 := atoms_spec (ws := Cond.code y_D_simulate c_D_simulate 3 (some .int) :: zT) B.pre
  have hts := fun w h => hts0 w (List.mem_cons_of_mem _ h)
  have hown : s.vm.findClass R_D = some m.cls := findClass_of_methodNamed B.named
  have hlocks := B.notSynchronized
  have hD := dI_D hI
  have hS : va_S (dA n ad) s.heap s.heap [] := va_S.rf
  have hAA : ∀ q, dA n ad q → dA n ad q := fun _ h => h
  obtain ⟨c0, c1, c2, c6, c7, hTW, hln, hl2⟩ := id hd
  have c4 := hTW.1
  have c5 := hTW.2.1
  have c3 := hTW.2.2.1
  have hl := lv_entry ([.ref (ad 0), .int (nI c9), .int (nI sd)]) (n := 3) (Nat.le_of_ble_eq_true rfl)
  rw [lg_entry_eq]
  generalize (lg_sl ([.ref (ad 0), .int (nI c9), .int (nI sd)]) ++ List.replicate (3 - (lg_sl ([.ref (ad 0), .int (nI c9), .int (nI sd)])).length) Slot.unset).toArray = ls at hl ⊢
  have hl : lv_has ls 3 [(0, .ref (ad 0)), (1, .int (nI c9)), (2, .int (nI sd))] := hl
  rcases Nat.eq_zero_or_pos N with hN0 | hN0
  · rw [trV_0 hN0] at c0
    refine lv_aload_n hx hb d_D_simulate_0 rfl (lv_at hl 0 rfl) ?_
    refine zz_get (j := 0) (ci := 0) (C := R_D) (T := T_D) (N := 10) hx hb hts in_D hown hK hP (by omega) c0 rfl 2 (by decide) (hts _ mf_D_19) (fun _ h => h) (v := .null) rfl d_D_simulate_1 ?_
    refine lv_ifnonnullN hx hb d_D_simulate_4 ?_
    refine lv_bipush (v := (-2)) hx hb d_D_simulate_7 rfl ?_
    exact W.iret hx hb hr (fun t ht hW => ⟨⟨_, ct, rfl, Or.inl ⟨hN0, rfl, rfl⟩, zN_warm hW hN, va_K.moved hW.alike hK, by rw [ht]; exact hP⟩, hS.F ht⟩) hS.2.2 d_D_simulate_9
  · have hNs : ¬ N = 0 := by omega
    rw [trV_s hNs] at c0
    refine lv_aload_n hx hb d_D_simulate_0 rfl (lv_at hl 0 rfl) ?_
    refine zz_get (j := 0) (ci := 0) (C := R_D) (T := T_D) (N := 10) hx hb hts in_D hown hK hP (by omega) c0 rfl 2 (by decide) (hts _ mf_D_19) (fun _ h => h) (v := .ref (ad (tt 3 (N - 1)))) rfl d_D_simulate_1 ?_
    refine lv_ifnonnull (tgt := 10) hx hb d_D_simulate_4 rfl ?_
    refine lv_iload_n hx hb d_D_simulate_10 rfl (lv_at hl 1 rfl) ?_
    refine zz_cS (index := 60) (n := 1) (As := [.int (nI c9)]) (rest := []) ⟨hx, hb, hml, hown, hts⟩ (k_isExD l c9 hc1) mk_D_60 ms_D_isExponent mi_D mc_D_isExponent (by decide +kernel) ⟨rfl, rfl⟩ ⟨by decide, by decide⟩ preEq rfl hl.1 rfl (Nat.le_of_ble_eq_true rfl) d_D_simulate_11 ⟨Nat.zero_le _, Nat.zero_le _⟩ ?_
    refine lv_if_ne (tgt := 19) hx hb d_D_simulate_14 rfl (fun h14 => ?_) (fun h14 => ?_)
    · skip
      have y := zb_ne h14
      have hc9 := ex_is y
      refine lv_aload_n hx hb d_D_simulate_19 rfl (lv_at hl 0 rfl) ?_
      refine zz_get (j := 0) (ci := 0) (C := R_D) (T := T_D) (N := 10) hx hb hts in_D hown hK hP (by omega) c0 rfl 5 (by decide) (hts _ mf_D_35) (fun _ h => h) (v := .ref (ad 3)) rfl d_D_simulate_20 ?_
      refine lv_iload_n hx hb d_D_simulate_23 rfl (lv_at hl 2 rfl) ?_
      refine dd_cv (index := 120) (k := 1) (As := [.int (nI sd)]) (rest := []) ⟨hx, hb, hml, hown, hts⟩ (k_start l D ca n ad ct hI 3 (dd 7 0) sd (by omega) c3) mk_D_120 mo_G_start me_G_G_start_G mi_G mc_G_start (by decide +kernel) ⟨rfl, rfl⟩ ⟨by decide, by decide⟩ (dd_pre hN hK hP (j := 3) (by omega) c3 (r := (R_G, T_G, 1)) rfl) hS hAA rfl hl.1 rfl (Nat.le_of_ble_eq_true rfl) d_D_simulate_24 ⟨Nat.zero_le _, Nat.zero_le _⟩ (fun ct1 H locs hct1 hP hS => ?_)
      have c0 : ct1 0 = .inr (0, [.ref (ad 1), .int (nI (sc 0)), .ref (ad (tt 3 (N - 1))), .ref (ad 2), .int (nI (sc 1)), .ref (ad 3), .ref (ad 4), .ref (ad 6), .int (nI (sc 2)), .int (nI (sc 3))]) := by rw [hct1]; exact (va_up_ne _ _ (by omega)).trans c0
      have c1 : ct1 1 = .inl (ca 2, 6, .inr (.inr (.inr (.inr sk)))) := by rw [hct1]; exact (va_up_ne _ _ (by omega)).trans c1
      have c2 : ct1 2 = .inl (ca 3, 8, .inr (.inr (.inr (.inr rw)))) := by rw [hct1]; exact (va_up_ne _ _ (by omega)).trans c2
      have c4 : ct1 4 = .inr (5, [.ref (ad 5)]) := by rw [hct1]; exact (va_up_ne _ _ (by omega)).trans c4
      have c5 : ct1 5 = .inl (ca 0, 32, .inl (zf (dd 6))) := by rw [hct1]; exact (va_up_ne _ _ (by omega)).trans c5
      have c6 : ct1 6 = .inr (5, [.ref (ad 7)]) := by rw [hct1]; exact (va_up_ne _ _ (by omega)).trans c6
      have c7 : ct1 7 = .inl (ca 0, 32, .inl (zf fk)) := by rw [hct1]; exact (va_up_ne _ _ (by omega)).trans c7
      have c3 : ct1 3 = .inr (6, [.int (nI sd)]) := by rw [hct1]; exact va_up_self _ _ _
      have hTF := tW_jd hTS hTW sd
      rw [← hct1] at hTF
      obtain ⟨hTW1, hfr1⟩ := hTF
      have hB1 : hB tt N K (zs dd 7 0 sd) := hB_of ⟨hnm, hKe⟩ (fun i => zs_nj _ _ _ _ (by decide)) (fun i => zs_nj _ _ _ _ (by decide))
      refine lv_aload_n hx hb d_D_simulate_27 rfl (lv_at hl 0 rfl) ?_
      refine zz_get (j := 0) (ci := 0) (C := R_D) (T := T_D) (N := 10) hx hb hts in_D hown hK hP (by omega) c0 rfl 2 (by decide) (hts _ mf_D_19) (fun _ h => h) (v := .ref (ad (tt 3 (N - 1)))) rfl d_D_simulate_28 ?_
      refine lv_iload_n hx hb d_D_simulate_31 rfl (lv_at hl 1 rfl) ?_
      refine lv_aload_n hx hb d_D_simulate_32 rfl (lv_at hl 0 rfl) ?_
      refine zz_get (j := 0) (ci := 0) (C := R_D) (T := T_D) (N := 10) hx hb hts in_D hown hK hP (by omega) c0 rfl 6 (by decide) (hts _ mf_D_42) (fun _ h => h) (v := .ref (ad 4)) rfl d_D_simulate_33 ?_
      refine lv_aload_n hx hb d_D_simulate_36 rfl (lv_at hl 0 rfl) ?_
      refine zz_get (j := 0) (ci := 0) (C := R_D) (T := T_D) (N := 10) hx hb hts in_D hown hK hP (by omega) c0 rfl 5 (by decide) (hts _ mf_D_35) (fun _ h => h) (v := .ref (ad 3)) rfl d_D_simulate_37 ?_
      refine dsp_commitSimulated (k := N - 1) (index := 131) (rest := []) ⟨hx, hb, hml, hown, hts⟩ hN hK hP hS hAA hTS hTW1 (by omega) ((commit_all l hI hTS K hK2 (N - 1) (by omega) ct1 (zs dd 7 0 sd) hTW1 hB1).2 c9 hc9) mk_D_131 (show 4 + (N - 1) ≤ 20 by omega) (show 40 * (4 + (N - 1)) ≤ 800 by omega) hl.1 (Nat.le_of_ble_eq_true rfl) d_D_simulate_40 ⟨Nat.zero_le _, Nat.zero_le _⟩ (fun ct2 H locs hct2 hP hS => ?_)
      obtain ⟨hTW2, hfr2⟩ := hct2
      have c0 : ct2 0 = .inr (0, [.ref (ad 1), .int (nI (sc 0)), .ref (ad (tt 3 (N - 1))), .ref (ad 2), .int (nI (sc 1)), .ref (ad 3), .ref (ad 4), .ref (ad 6), .int (nI (sc 2)), .int (nI (sc 3))]) := (hfr2 0 (by decide) (by decide) (fun k hk => by have := h8 k hk; omega)).trans c0
      have c1 : ct2 1 = .inl (ca 2, 6, .inr (.inr (.inr (.inr sk)))) := (hfr2 1 (by decide) (by decide) (fun k hk => by have := h8 k hk; omega)).trans c1
      have c2 : ct2 2 = .inl (ca 3, 8, .inr (.inr (.inr (.inr rw)))) := (hfr2 2 (by decide) (by decide) (fun k hk => by have := h8 k hk; omega)).trans c2
      have c6 : ct2 6 = .inr (5, [.ref (ad 7)]) := (hfr2 6 (by decide) (by decide) (fun k hk => by have := h8 k hk; omega)).trans c6
      have c7 : ct2 7 = .inl (ca 0, 32, .inl (zf fk)) := (hfr2 7 (by decide) (by decide) (fun k hk => by have := h8 k hk; omega)).trans c7
      have c4 := hTW2.1
      have c3 := hTW2.2.2.1
      refine lv_aload_n hx hb d_D_simulate_43 rfl (lv_at hl 0 rfl) ?_
      refine lv_iconst (v := 0) hx hb d_D_simulate_44 rfl ?_
      refine zz_put (j := 0) (ci := 0) (C := R_D) (T := T_D) (N := 10) (v := .int 0) (ty := ft_D 9) hx hb hts in_D ft_D ft_D_ok fn_D hown hK hP hD hS (by omega) c0 rfl 9 (by decide) (hts _ mf_D_53) (fun _ h => h) rfl (ft_D_ok 9 (by decide)) rfl rfl (Nat.le_of_ble_eq_true rfl) d_D_simulate_45 (fun H locs hP hS => ?_)
      have hP : va_P D zC (zl n ad (va_up ct2 0 (.inr (0, [.ref (ad 1), .int (nI (sc 0)), .ref (ad (tt 3 (N - 1))), .ref (ad 2), .int (nI (sc 1)), .ref (ad 3), .ref (ad 4), .ref (ad 6), .int (nI (sc 2)), .int 0])))) H := hP
      obtain ⟨ct3, hct3⟩ : ∃ c, c = va_up ct2 0 (.inr (0, [.ref (ad 1), .int (nI (sc 0)), .ref (ad (tt 3 (N - 1))), .ref (ad 2), .int (nI (sc 1)), .ref (ad 3), .ref (ad 4), .ref (ad 6), .int (nI (sc 2)), .int 0])) := ⟨_, rfl⟩
      rw [← hct3] at hP
      have c1 : ct3 1 = .inl (ca 2, 6, .inr (.inr (.inr (.inr sk)))) := by rw [hct3]; exact (va_up_ne _ _ (by omega)).trans c1
      have c2 : ct3 2 = .inl (ca 3, 8, .inr (.inr (.inr (.inr rw)))) := by rw [hct3]; exact (va_up_ne _ _ (by omega)).trans c2
      have c6 : ct3 6 = .inr (5, [.ref (ad 7)]) := by rw [hct3]; exact (va_up_ne _ _ (by omega)).trans c6
      have c7 : ct3 7 = .inl (ca 0, 32, .inl (zf fk)) := by rw [hct3]; exact (va_up_ne _ _ (by omega)).trans c7
      have c4 : ct3 4 = .inr (5, [.ref (ad 5)]) := by rw [hct3]; exact (va_up_ne _ _ (by omega)).trans c4
      have c3 : ct3 3 = .inr (6, [.int (nI ((dc tt bb ee K (N - 1) false c9 (zs dd 7 0 sd)) 7 0))]) := by rw [hct3]; exact (va_up_ne _ _ (by omega)).trans c3
      have c0 : ct3 0 = .inr (0, [.ref (ad 1), .int (nI (sc 0)), .ref (ad (tt 3 (N - 1))), .ref (ad 2), .int (nI (sc 1)), .ref (ad 3), .ref (ad 4), .ref (ad 6), .int (nI (sc 2)), .int 0]) := by rw [hct3]; exact va_up_self _ _ _
      refine lv_iconst (v := 0) hx hb d_D_simulate_48 rfl ?_
      exact W.iret hx hb hr (fun t ht hW => ⟨⟨_, ct3, rfl, Or.inr ⟨hN0, Or.inr ⟨y, rfl, ct2, hTW2, fr_tr hfr1 hfr2, hct3⟩⟩, zN_warm hW hN, va_K.moved hW.alike hK, by rw [ht]; exact hP⟩, hS.F ht⟩) hS.2.2 d_D_simulate_49
    · skip
      have y := zb_eq h14
      refine lv_iconst (v := (-1)) hx hb d_D_simulate_17 rfl ?_
      exact W.iret hx hb hr (fun t ht hW => ⟨⟨_, ct, rfl, Or.inr ⟨hN0, Or.inl ⟨y, rfl, rfl⟩⟩, zN_warm hW hN, va_K.moved hW.alike hK, by rw [ht]; exact hP⟩, hS.F ht⟩) hS.2.2 d_D_simulate_18

theorem d_D_respond_0 : decode c_D_respond 0 = .ok (.aload_n 0, 1) := by decide +kernel
theorem d_D_respond_1 : decode c_D_respond 1 = .ok (.getfield 19, 3) := by decide +kernel
theorem d_D_respond_4 : decode c_D_respond 4 = .ok (.ifnonnull 6, 3) := by decide +kernel
theorem d_D_respond_7 : decode c_D_respond 7 = .ok (.bipush (-2), 2) := by decide +kernel
theorem d_D_respond_9 : decode c_D_respond 9 = .ok (.ireturn, 1) := by decide +kernel
theorem d_D_respond_10 : decode c_D_respond 10 = .ok (.iload_n 1, 1) := by decide +kernel
theorem d_D_respond_11 : decode c_D_respond 11 = .ok (.invokestatic 60, 3) := by decide +kernel
theorem d_D_respond_14 : decode c_D_respond 14 = .ok (.ifCond .ne 5, 3) := by decide +kernel
theorem d_D_respond_17 : decode c_D_respond 17 = .ok (.iconst (-1), 1) := by decide +kernel
theorem d_D_respond_18 : decode c_D_respond 18 = .ok (.ireturn, 1) := by decide +kernel
theorem d_D_respond_19 : decode c_D_respond 19 = .ok (.aload_n 0, 1) := by decide +kernel
theorem d_D_respond_20 : decode c_D_respond 20 = .ok (.getfield 53, 3) := by decide +kernel
theorem d_D_respond_23 : decode c_D_respond 23 = .ok (.ifCond .ne 6, 3) := by decide +kernel
theorem d_D_respond_26 : decode c_D_respond 26 = .ok (.bipush (-4), 2) := by decide +kernel
theorem d_D_respond_28 : decode c_D_respond 28 = .ok (.ireturn, 1) := by decide +kernel
theorem d_D_respond_29 : decode c_D_respond 29 = .ok (.aload_n 0, 1) := by decide +kernel
theorem d_D_respond_30 : decode c_D_respond 30 = .ok (.getfield 19, 3) := by decide +kernel
theorem d_D_respond_33 : decode c_D_respond 33 = .ok (.iload_n 1, 1) := by decide +kernel
theorem d_D_respond_34 : decode c_D_respond 34 = .ok (.aload_n 0, 1) := by decide +kernel
theorem d_D_respond_35 : decode c_D_respond 35 = .ok (.getfield 42, 3) := by decide +kernel
theorem d_D_respond_38 : decode c_D_respond 38 = .ok (.invokevirtual 127, 3) := by decide +kernel
theorem d_D_respond_41 : decode c_D_respond 41 = .ok (.iconst 0, 1) := by decide +kernel
theorem d_D_respond_42 : decode c_D_respond 42 = .ok (.ireturn, 1) := by decide +kernel

set_option maxHeartbeats 4000000 in
set_option maxRecDepth 100000 in
/-- respond(c) -/
theorem k_respondD (l : Launch) (D : va_G) (ca : Nat → ClassId) (n : Nat) (ad : Nat → Nat) (ct : Nat → va_E) (hI : dI n ad) (tt bb ee : Nat → Nat → Nat) (N : Nat) (dd : Nat → Nat → Nat) (sc : Nat → Nat) (sk rw : Nat → Option Nat) (fk ln : Nat → Nat) (hn0 : 8 ≤ n) (hTS : tS n tt bb ee 4 5 3 N) (hd : dS ca ad tt bb ee N dd sc sk rw fk ln ct) (h8 : ∀ k, k < N → 8 ≤ tt 3 k) (hN15 : N ≤ 15) (hcr : sc 3 < 2) (hGG : sc 3 = 1 → 0 < N → ∃ G : Nat → Prop, gD tt dd N G ∧ G (N - 1)) (c9 : Nat) (hc1 : c9 < 2 ^ 32) : Met l y_D_respond (Cond.code y_D_respond c_D_respond 2 (some .int) :: zT) ({ frames := 20, cells := 0, slots := 0, locals := 800 }) (va_Pc [.ref (ad 0), .int (nI c9)] (dw D ca n ad ct)) (va_Qi (fun r ct1 => (N = 0 ∧ r = -2 ∧ ct1 = ct) ∨ (0 < N ∧ ((ex c9 = false ∧ r = -1 ∧ ct1 = ct) ∨ (ex c9 = true ∧ ((sc 3 = 0 ∧ r = -4 ∧ ct1 = ct) ∨ (sc 3 = 1 ∧ r = 0 ∧ tW ca ad tt bb ee 4 5 3 N (dq tt (N - 1) c9 dd) ct1 ∧ fr tt 5 3 N ct ct1)))))) (dw D ca n ad) (dA n ad)) 0 0 (dA n ad) := by
  refine Met.ofW (cc := c_D_respond) (maxL := 2) (ret := (some .int)) (by decide) rfl ?_
  intro p e s m args below meth c s₁ B hml hv
  obtain ⟨rfl, hN, hK, hP⟩ := hv
  have hx := B.exec
  have hb := B.bytes
  have hr := B.returns
  have hts0 := atoms_spec (ws := Cond.code y_D_respond c_D_respond 2 (some .int) :: zT) B.pre
  have hts := fun w h => hts0 w (List.mem_cons_of_mem _ h)
  have hown : s.vm.findClass R_D = some m.cls := findClass_of_methodNamed B.named
  have hlocks := B.notSynchronized
  have hD := dI_D hI
  have hS : va_S (dA n ad) s.heap s.heap [] := va_S.rf
  have hAA : ∀ q, dA n ad q → dA n ad q := fun _ h => h
  obtain ⟨c0, c1, c2, c6, c7, hTW, hln, hl2⟩ := id hd
  have c4 := hTW.1
  have c5 := hTW.2.1
  have c3 := hTW.2.2.1
  have hl := lv_entry ([.ref (ad 0), .int (nI c9)]) (n := 2) (Nat.le_of_ble_eq_true rfl)
  rw [lg_entry_eq]
  generalize (lg_sl ([.ref (ad 0), .int (nI c9)]) ++ List.replicate (2 - (lg_sl ([.ref (ad 0), .int (nI c9)])).length) Slot.unset).toArray = ls at hl ⊢
  have hl : lv_has ls 2 [(0, .ref (ad 0)), (1, .int (nI c9))] := hl
  rcases Nat.eq_zero_or_pos N with hN0 | hN0
  · rw [trV_0 hN0] at c0
    refine lv_aload_n hx hb d_D_respond_0 rfl (lv_at hl 0 rfl) ?_
    refine zz_get (j := 0) (ci := 0) (C := R_D) (T := T_D) (N := 10) hx hb hts in_D hown hK hP (by omega) c0 rfl 2 (by decide) (hts _ mf_D_19) (fun _ h => h) (v := .null) rfl d_D_respond_1 ?_
    refine lv_ifnonnullN hx hb d_D_respond_4 ?_
    refine lv_bipush (v := (-2)) hx hb d_D_respond_7 rfl ?_
    exact W.iret hx hb hr (fun t ht hW => ⟨⟨_, ct, rfl, Or.inl ⟨hN0, rfl, rfl⟩, zN_warm hW hN, va_K.moved hW.alike hK, by rw [ht]; exact hP⟩, hS.F ht⟩) hS.2.2 d_D_respond_9
  · have hNs : ¬ N = 0 := by omega
    rw [trV_s hNs] at c0
    refine lv_aload_n hx hb d_D_respond_0 rfl (lv_at hl 0 rfl) ?_
    refine zz_get (j := 0) (ci := 0) (C := R_D) (T := T_D) (N := 10) hx hb hts in_D hown hK hP (by omega) c0 rfl 2 (by decide) (hts _ mf_D_19) (fun _ h => h) (v := .ref (ad (tt 3 (N - 1)))) rfl d_D_respond_1 ?_
    refine lv_ifnonnull (tgt := 10) hx hb d_D_respond_4 rfl ?_
    refine lv_iload_n hx hb d_D_respond_10 rfl (lv_at hl 1 rfl) ?_
    refine zz_cS (index := 60) (n := 1) (As := [.int (nI c9)]) (rest := []) ⟨hx, hb, hml, hown, hts⟩ (k_isExD l c9 hc1) mk_D_60 ms_D_isExponent mi_D mc_D_isExponent (by decide +kernel) ⟨rfl, rfl⟩ ⟨by decide, by decide⟩ preEq rfl hl.1 rfl (Nat.le_of_ble_eq_true rfl) d_D_respond_11 ⟨Nat.zero_le _, Nat.zero_le _⟩ ?_
    refine lv_if_ne (tgt := 19) hx hb d_D_respond_14 rfl (fun h14 => ?_) (fun h14 => ?_)
    · skip
      have y := zb_ne h14
      have hc9 := ex_is y
      refine lv_aload_n hx hb d_D_respond_19 rfl (lv_at hl 0 rfl) ?_
      refine zz_get (j := 0) (ci := 0) (C := R_D) (T := T_D) (N := 10) hx hb hts in_D hown hK hP (by omega) c0 rfl 9 (by decide) (hts _ mf_D_53) (fun _ h => h) (v := .int (nI (sc 3))) rfl d_D_respond_20 ?_
      refine lv_if_ne (tgt := 29) hx hb d_D_respond_23 rfl (fun h23 => ?_) (fun h23 => ?_)
      · skip
        have v := b_o hcr h23
        obtain ⟨G, hG, hGr⟩ := hGG v hN0
        refine lv_aload_n hx hb d_D_respond_29 rfl (lv_at hl 0 rfl) ?_
        refine zz_get (j := 0) (ci := 0) (C := R_D) (T := T_D) (N := 10) hx hb hts in_D hown hK hP (by omega) c0 rfl 2 (by decide) (hts _ mf_D_19) (fun _ h => h) (v := .ref (ad (tt 3 (N - 1)))) rfl d_D_respond_30 ?_
        refine lv_iload_n hx hb d_D_respond_33 rfl (lv_at hl 1 rfl) ?_
        refine lv_aload_n hx hb d_D_respond_34 rfl (lv_at hl 0 rfl) ?_
        refine zz_get (j := 0) (ci := 0) (C := R_D) (T := T_D) (N := 10) hx hb hts in_D hown hK hP (by omega) c0 rfl 6 (by decide) (hts _ mf_D_42) (fun _ h => h) (v := .ref (ad 4)) rfl d_D_respond_35 ?_
        refine dsp_respondTo (k := N - 1) (index := 127) (rest := []) ⟨hx, hb, hml, hown, hts⟩ hN hK hP hS hAA hTS hTW (by omega) (respond_all l hI hTS G (N - 1) (by omega) hGr ct dd hTW hG c9 hc9) mk_D_127 (show 4 + (N - 1) ≤ 20 by omega) (show 40 * (4 + (N - 1)) ≤ 800 by omega) hl.1 (Nat.le_of_ble_eq_true rfl) d_D_respond_38 ⟨Nat.zero_le _, Nat.zero_le _⟩ (fun ct1 H locs hct1 hP hS => ?_)
        obtain ⟨hTW2, hfr2⟩ := hct1
        refine lv_iconst (v := 0) hx hb d_D_respond_41 rfl ?_
        exact W.iret hx hb hr (fun t ht hW => ⟨⟨_, ct1, rfl, Or.inr ⟨hN0, Or.inr ⟨y, Or.inr ⟨v, rfl, hTW2, hfr2⟩⟩⟩, zN_warm hW hN, va_K.moved hW.alike hK, by rw [ht]; exact hP⟩, hS.F ht⟩) hS.2.2 d_D_respond_42
      · skip
        have v := b_z hcr h23
        refine lv_bipush (v := (-4)) hx hb d_D_respond_26 rfl ?_
        exact W.iret hx hb hr (fun t ht hW => ⟨⟨_, ct, rfl, Or.inr ⟨hN0, Or.inr ⟨y, Or.inl ⟨v, rfl, rfl⟩⟩⟩, zN_warm hW hN, va_K.moved hW.alike hK, by rw [ht]; exact hP⟩, hS.F ht⟩) hS.2.2 d_D_respond_28
    · skip
      have y := zb_eq h14
      refine lv_iconst (v := (-1)) hx hb d_D_respond_17 rfl ?_
      exact W.iret hx hb hr (fun t ht hW => ⟨⟨_, ct, rfl, Or.inr ⟨hN0, Or.inl ⟨y, rfl, rfl⟩⟩, zN_warm hW hN, va_K.moved hW.alike hK, by rw [ht]; exact hP⟩, hS.F ht⟩) hS.2.2 d_D_respond_18
