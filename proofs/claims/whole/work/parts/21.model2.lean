/-! the model's tell, witness, part, change, later, respondLeaf -/
theorem zn_gt {a b : Nat} (ha : a < 2 ^ 32) (hb : b < 2 ^ 31) : nI b < nI a ↔ (b < a ∧ a < 2 ^ 31) := by
  rw [Int32.lt_iff_toInt_lt, zn_toInt ha, zn_toInt (by omega)]
  split <;> (try split) <;> omega
def pv (ar : Nat → Nat → Nat) (n w : Nat) : Nat := if w < 2 then ar 14 (2 * n + w) else if w = 2 then ar 15 n else ar 16 n
def chg (ar : Nat → Nat → Nat) (n w v : Nat) : Nat → Nat → Nat := if w < 2 then zs ar 14 (2 * n + w) v else if w = 2 then zs ar 15 n v else zs ar 16 n v
def chgB (ar : Nat → Nat → Nat) (n w v : Nat) : Bool := partB ar n w && decide (v < if w < 2 then 10007 else 5003)
def lat (ar : Nat → Nat → Nat) (k b c : Nat) : Nat → Nat → Nat := zs (zs (zs (zs ar 23 (ar 0 6) k) 25 k b) 24 k c) 0 6 (ar 0 6 + 1)
def rspL (ar : Nat → Nat → Nat) (n c : Nat) : Nat → Nat → Nat := zs (zs ar 15 n c) 16 n ((ar 20 n + c * ar 13 n % 5003) % 5003)
theorem pairB_f {ar : Nat → Nat → Nat} {n p : Nat} (h : n < ar 0 2) (q : pairB ar n p = false) : ¬ 0 < ar 11 (2 * n + p) := by
  unfold pairB at q
  rw [decide_eq_true h, Bool.true_and] at q
  exact of_decide_eq_false q
theorem pairB_t {ar : Nat → Nat → Nat} {n p : Nat} (q : pairB ar n p = true) : n < ar 0 2 ∧ 0 < ar 11 (2 * n + p) := by
  unfold pairB at q
  simp only [Bool.and_eq_true, decide_eq_true_eq] at q
  exact q
theorem partB_t {ar : Nat → Nat → Nat} {n w : Nat} (q : partB ar n w = true) : n < ar 0 2 ∧ w < 4 := by
  unfold partB at q
  simp only [Bool.and_eq_true, decide_eq_true_eq] at q
  exact ⟨q.1, q.2.1⟩

theorem d_M_tell_0 : decode c_M_tell 0 = .ok (.aload_n 0, 1) := by decide +kernel
theorem d_M_tell_1 : decode c_M_tell 1 = .ok (.iload_n 1, 1) := by decide +kernel
theorem d_M_tell_2 : decode c_M_tell 2 = .ok (.invokevirtual 135, 3) := by decide +kernel
theorem d_M_tell_5 : decode c_M_tell 5 = .ok (.ifCond .eq 33, 3) := by decide +kernel
theorem d_M_tell_8 : decode c_M_tell 8 = .ok (.iload_n 2, 1) := by decide +kernel
theorem d_M_tell_9 : decode c_M_tell 9 = .ok (.invokestatic 109, 3) := by decide +kernel
theorem d_M_tell_12 : decode c_M_tell 12 = .ok (.ifCond .eq 26, 3) := by decide +kernel
theorem d_M_tell_15 : decode c_M_tell 15 = .ok (.aload_n 0, 1) := by decide +kernel
theorem d_M_tell_16 : decode c_M_tell 16 = .ok (.getfield 40, 3) := by decide +kernel
theorem d_M_tell_19 : decode c_M_tell 19 = .ok (.iconst 2, 1) := by decide +kernel
theorem d_M_tell_20 : decode c_M_tell 20 = .ok (.iload_n 1, 1) := by decide +kernel
theorem d_M_tell_21 : decode c_M_tell 21 = .ok (.imul, 1) := by decide +kernel
theorem d_M_tell_22 : decode c_M_tell 22 = .ok (.iaload, 1) := by decide +kernel
theorem d_M_tell_23 : decode c_M_tell 23 = .ok (.iload_n 2, 1) := by decide +kernel
theorem d_M_tell_24 : decode c_M_tell 24 = .ok (.invokestatic 96, 3) := by decide +kernel
theorem d_M_tell_27 : decode c_M_tell 27 = .ok (.aload_n 0, 1) := by decide +kernel
theorem d_M_tell_28 : decode c_M_tell 28 = .ok (.getfield 43, 3) := by decide +kernel
theorem d_M_tell_31 : decode c_M_tell 31 = .ok (.iconst 2, 1) := by decide +kernel
theorem d_M_tell_32 : decode c_M_tell 32 = .ok (.iload_n 1, 1) := by decide +kernel
theorem d_M_tell_33 : decode c_M_tell 33 = .ok (.imul, 1) := by decide +kernel
theorem d_M_tell_34 : decode c_M_tell 34 = .ok (.iaload, 1) := by decide +kernel
theorem d_M_tell_35 : decode c_M_tell 35 = .ok (.if_icmp .eq 5, 3) := by decide +kernel
theorem d_M_tell_38 : decode c_M_tell 38 = .ok (.iconst 0, 1) := by decide +kernel
theorem d_M_tell_39 : decode c_M_tell 39 = .ok (.ireturn, 1) := by decide +kernel
theorem d_M_tell_40 : decode c_M_tell 40 = .ok (.aload_n 0, 1) := by decide +kernel
theorem d_M_tell_41 : decode c_M_tell 41 = .ok (.iload_n 1, 1) := by decide +kernel
theorem d_M_tell_42 : decode c_M_tell 42 = .ok (.iconst 1, 1) := by decide +kernel
theorem d_M_tell_43 : decode c_M_tell 43 = .ok (.invokevirtual 138, 3) := by decide +kernel
theorem d_M_tell_46 : decode c_M_tell 46 = .ok (.ifCond .eq 32, 3) := by decide +kernel
theorem d_M_tell_49 : decode c_M_tell 49 = .ok (.aload_n 0, 1) := by decide +kernel
theorem d_M_tell_50 : decode c_M_tell 50 = .ok (.getfield 40, 3) := by decide +kernel
theorem d_M_tell_53 : decode c_M_tell 53 = .ok (.iconst 2, 1) := by decide +kernel
theorem d_M_tell_54 : decode c_M_tell 54 = .ok (.iload_n 1, 1) := by decide +kernel
theorem d_M_tell_55 : decode c_M_tell 55 = .ok (.imul, 1) := by decide +kernel
theorem d_M_tell_56 : decode c_M_tell 56 = .ok (.iconst 1, 1) := by decide +kernel
theorem d_M_tell_57 : decode c_M_tell 57 = .ok (.iadd, 1) := by decide +kernel
theorem d_M_tell_58 : decode c_M_tell 58 = .ok (.iaload, 1) := by decide +kernel
theorem d_M_tell_59 : decode c_M_tell 59 = .ok (.iload_n 2, 1) := by decide +kernel
theorem d_M_tell_60 : decode c_M_tell 60 = .ok (.invokestatic 96, 3) := by decide +kernel
theorem d_M_tell_63 : decode c_M_tell 63 = .ok (.aload_n 0, 1) := by decide +kernel
theorem d_M_tell_64 : decode c_M_tell 64 = .ok (.getfield 43, 3) := by decide +kernel
theorem d_M_tell_67 : decode c_M_tell 67 = .ok (.iconst 2, 1) := by decide +kernel
theorem d_M_tell_68 : decode c_M_tell 68 = .ok (.iload_n 1, 1) := by decide +kernel
theorem d_M_tell_69 : decode c_M_tell 69 = .ok (.imul, 1) := by decide +kernel
theorem d_M_tell_70 : decode c_M_tell 70 = .ok (.iconst 1, 1) := by decide +kernel
theorem d_M_tell_71 : decode c_M_tell 71 = .ok (.iadd, 1) := by decide +kernel
theorem d_M_tell_72 : decode c_M_tell 72 = .ok (.iaload, 1) := by decide +kernel
theorem d_M_tell_73 : decode c_M_tell 73 = .ok (.if_icmp .eq 5, 3) := by decide +kernel
theorem d_M_tell_76 : decode c_M_tell 76 = .ok (.iconst 0, 1) := by decide +kernel
theorem d_M_tell_77 : decode c_M_tell 77 = .ok (.ireturn, 1) := by decide +kernel
theorem d_M_tell_78 : decode c_M_tell 78 = .ok (.aload_n 0, 1) := by decide +kernel
theorem d_M_tell_79 : decode c_M_tell 79 = .ok (.getfield 46, 3) := by decide +kernel
theorem d_M_tell_82 : decode c_M_tell 82 = .ok (.iload_n 1, 1) := by decide +kernel
theorem d_M_tell_83 : decode c_M_tell 83 = .ok (.iload_n 2, 1) := by decide +kernel
theorem d_M_tell_84 : decode c_M_tell 84 = .ok (.iastore, 1) := by decide +kernel
theorem d_M_tell_85 : decode c_M_tell 85 = .ok (.iconst 1, 1) := by decide +kernel
theorem d_M_tell_86 : decode c_M_tell 86 = .ok (.ireturn, 1) := by decide +kernel

set_option maxHeartbeats 4000000 in
set_option maxRecDepth 100000 in
/-- tell(n, x) -/
theorem k_tellM (l : Launch) (D : va_G) (ca : Nat → ClassId) (am : Nat → Nat) (ar : Nat → Nat → Nat) (hI : mI am) (n x : Nat) (hn : n < 2 ^ 32) (hx1 : x < 2 ^ 32) (hl2 : ar 0 2 ≤ 8) (hbs : ∀ i, i < 16 → ar 11 i < 10007) (his : ∀ i, i < 16 → ar 12 i < 10007) : Met l y_M_tell (Cond.code y_M_tell c_M_tell 3 (some .boolean) :: zT) ({ frames := 3, cells := 0, slots := 0, locals := 120 }) (va_Pc [.ref (am 0), .int (nI n), .int (nI x)] (mw D ca am ar)) (va_Qi (fun r ar1 => r = zb (tellB ar n x) ∧ ar1 = if tellB ar n x then zs ar 13 n x else ar) (mw D ca am) (mA am)) 0 0 (mA am) := by
  refine Met.ofW (cc := c_M_tell) (maxL := 3) (ret := (some .boolean)) (by decide) rfl ?_
  intro p e s m args below meth c s₁ B hml hv
  obtain ⟨rfl, hK, hP⟩ := hv
  have hx := B.exec
  have hb := B.bytes
  have hr := B.returns
  have hts0 := atoms_spec (ws := Cond.code y_M_tell c_M_tell 3 (some .boolean) :: zT) B.pre
  have hts := fun w h => hts0 w (List.mem_cons_of_mem _ h)
  have hown : s.vm.findClass R_M = some m.cls := findClass_of_methodNamed B.named
  have hlocks := B.notSynchronized
  have hD := mI_D hI
  have hS : va_S (mA am) s.heap s.heap [] := va_S.rf
  have hAA : ∀ q, mA am q → mA am q := fun _ h => h
  have hl := lv_entry ([.ref (am 0), .int (nI n), .int (nI x)]) (n := 3) (Nat.le_of_ble_eq_true rfl)
  rw [lg_entry_eq]
  generalize (lg_sl ([.ref (am 0), .int (nI n), .int (nI x)]) ++ List.replicate (3 - (lg_sl ([.ref (am 0), .int (nI n), .int (nI x)])).length) Slot.unset).toArray = ls at hl ⊢
  have hl : lv_has ls 3 [(0, .ref (am 0)), (1, .int (nI n)), (2, .int (nI x))] := hl
  skip
  refine lv_aload_n hx hb d_M_tell_0 rfl (lv_at hl 0 rfl) ?_
  refine lv_iload_n hx hb d_M_tell_1 rfl (lv_at hl 1 rfl) ?_
  refine zz_cV (index := 135) (n := 1) (As := [.int (nI n)]) (rest := []) ⟨hx, hb, hml, hown, hts⟩ (k_isLeafM l D ca am (ar) n hn hl2) mk_M_135 mo_M_isLeaf me_M_M_isLeaf_M mi_M mc_M_isLeaf (by decide +kernel) ⟨rfl, rfl⟩ ⟨by decide, by decide⟩ (mm_pre hK hP) rfl hl.1 rfl (Nat.le_of_ble_eq_true rfl) d_M_tell_2 ⟨Nat.zero_le _, Nat.zero_le _⟩ ?_
  refine lv_if_eq (tgt := 38) hx hb d_M_tell_5 rfl (fun h5 => ?_) (fun h5 => ?_)
  · skip
    have hq : tellB ar n x = false := by unfold tellB; rw [zb_eq h5, Bool.false_and]
    refine lv_iconst (v := 0) hx hb d_M_tell_38 rfl ?_
    exact W.zret hx hb hr (rfl) (fun t ht hW => ⟨⟨_, ar, rfl, ⟨by rw [hq]; rfl, by rw [hq]; rfl⟩, va_K.moved hW.alike hK, by rw [ht]; exact hP⟩, hS.F ht⟩) hS.2.2 d_M_tell_39
  · skip
    have hA : n < ar 0 2 := of_decide_eq_true (zb_ne h5)
    refine lv_iload_n hx hb d_M_tell_8 rfl (lv_at hl 2 rfl) ?_
    refine zz_cS (index := 109) (n := 1) (As := [.int (nI x)]) (rest := []) ⟨hx, hb, hml, hown, hts⟩ (k_isExM l x hx1) mk_M_109 ms_M_isExponent mi_M mc_M_isExponent (by decide +kernel) ⟨rfl, rfl⟩ ⟨by decide, by decide⟩ preEq rfl hl.1 rfl (Nat.le_of_ble_eq_true rfl) d_M_tell_9 ⟨Nat.zero_le _, Nat.zero_le _⟩ ?_
    refine lv_if_eq (tgt := 38) hx hb d_M_tell_12 rfl (fun h12 => ?_) (fun h12 => ?_)
    · skip
      have hq : tellB ar n x = false := by unfold tellB; rw [zb_eq h12, Bool.false_and, Bool.and_false]
      refine lv_iconst (v := 0) hx hb d_M_tell_38 rfl ?_
      exact W.zret hx hb hr (rfl) (fun t ht hW => ⟨⟨_, ar, rfl, ⟨by rw [hq]; rfl, by rw [hq]; rfl⟩, va_K.moved hW.alike hK, by rw [ht]; exact hP⟩, hS.F ht⟩) hS.2.2 d_M_tell_39
    · skip
      have hE := zb_ne h12
      have hE2 := ex_is hE
      have i1 := his (2 * n) (by omega)
      have i2 := his (2 * n + 1) (by omega)
      refine lv_aload_n hx hb d_M_tell_15 rfl (lv_at hl 0 rfl) ?_
      refine mm_get hx hb hts hown hK hP (index := 40) 10 (by decide) mf_M_40 (v := .ref (am 11)) rfl d_M_tell_16 ?_
      refine lv_iconst (v := 2) hx hb d_M_tell_19 rfl ?_
      refine lv_iload_n hx hb d_M_tell_20 rfl (lv_at hl 1 rfl) ?_
      refine lv_imul hx hb d_M_tell_21 ?_
      refine zz_as (y := nI (2 * n)) (pk_mul 2 n) ?_
      refine mm_ald hx hb hK hP 10 (by decide) rfl (2 * n) rfl (show 2 * n < 16 from by omega) (ar 11 (2 * n)) (rfl) d_M_tell_22 ?_
      refine lv_iload_n hx hb d_M_tell_23 rfl (lv_at hl 2 rfl) ?_
      refine zz_cS (index := 96) (n := 2) (As := [.int (nI (ar 11 (2 * n))), .int (nI x)]) (rest := []) ⟨hx, hb, hml, hown, hts⟩ (k_raised l (ar 11 (2 * n)) x (hbs _ (by omega)) (by omega)) mk_M_96 ms_M_raised mi_M mc_M_raised (by decide +kernel) ⟨rfl, rfl⟩ ⟨by decide, by decide⟩ preEq rfl hl.1 rfl (Nat.le_of_ble_eq_true rfl) d_M_tell_24 ⟨Nat.zero_le _, Nat.zero_le _⟩ ?_
      refine lv_aload_n hx hb d_M_tell_27 rfl (lv_at hl 0 rfl) ?_
      refine mm_get hx hb hts hown hK hP (index := 43) 11 (by decide) mf_M_43 (v := .ref (am 12)) rfl d_M_tell_28 ?_
      refine lv_iconst (v := 2) hx hb d_M_tell_31 rfl ?_
      refine lv_iload_n hx hb d_M_tell_32 rfl (lv_at hl 1 rfl) ?_
      refine lv_imul hx hb d_M_tell_33 ?_
      refine zz_as (y := nI (2 * n)) (pk_mul 2 n) ?_
      refine mm_ald hx hb hK hP 11 (by decide) rfl (2 * n) rfl (show 2 * n < 16 from by omega) (ar 12 (2 * n)) (rfl) d_M_tell_34 ?_
      refine lv_icmp_eq (tgt := 40) hx hb d_M_tell_35 rfl (fun h35 => ?_) (fun h35 => ?_)
      · skip
        have e35 : ar 11 (2 * n) ^ x % 10007 = ar 12 (2 * n) := (zn_inj (Nat.lt_trans (Nat.mod_lt _ (by decide)) (by decide)) (by omega)).mp h35
        refine lv_aload_n hx hb d_M_tell_40 rfl (lv_at hl 0 rfl) ?_
        refine lv_iload_n hx hb d_M_tell_41 rfl (lv_at hl 1 rfl) ?_
        refine lv_iconst (v := 1) hx hb d_M_tell_42 rfl ?_
        refine zz_cV (index := 138) (n := 2) (As := [.int (nI n), .int 1]) (rest := []) ⟨hx, hb, hml, hown, hts⟩ (k_isPairM l D ca am (ar) n 1 hn (by decide) hl2 hbs) mk_M_138 mo_M_isPair me_M_M_isPair_M mi_M mc_M_isPair (by decide +kernel) ⟨rfl, rfl⟩ ⟨by decide, by decide⟩ (mm_pre hK hP) rfl hl.1 rfl (Nat.le_of_ble_eq_true rfl) d_M_tell_43 ⟨Nat.zero_le _, Nat.zero_le _⟩ ?_
        refine lv_if_eq (tgt := 78) hx hb d_M_tell_46 rfl (fun h46 => ?_) (fun h46 => ?_)
        · skip
          have hp := pairB_f hA (zb_eq h46)
          have hq : tellB ar n x = true := by unfold tellB fitn; rw [decide_eq_true hA, hE, decide_eq_true e35, decide_eq_false hp]; rfl
          refine lv_aload_n hx hb d_M_tell_78 rfl (lv_at hl 0 rfl) ?_
          refine mm_get hx hb hts hown hK hP (index := 46) 12 (by decide) mf_M_46 (v := .ref (am 13)) rfl d_M_tell_79 ?_
          refine lv_iload_n hx hb d_M_tell_82 rfl (lv_at hl 1 rfl) ?_
          refine lv_iload_n hx hb d_M_tell_83 rfl (lv_at hl 2 rfl) ?_
          refine mm_ast hx hb hK hP hD hS 12 (by decide) rfl (n) rfl (show n < 8 from by omega) (x) (rfl) d_M_tell_84 (fun H locs hP hS => ?_)
          refine lv_iconst (v := 1) hx hb d_M_tell_85 rfl ?_
          exact W.zret hx hb hr (rfl) (fun t ht hW => ⟨⟨_, zs ar 13 n x, rfl, ⟨by rw [hq]; rfl, by rw [hq]; rfl⟩, va_K.moved hW.alike hK, by rw [ht]; exact hP⟩, hS.F ht⟩) hS.2.2 d_M_tell_86
        · skip
          have hp := (pairB_t (zb_ne h46)).2
          refine lv_aload_n hx hb d_M_tell_49 rfl (lv_at hl 0 rfl) ?_
          refine mm_get hx hb hts hown hK hP (index := 40) 10 (by decide) mf_M_40 (v := .ref (am 11)) rfl d_M_tell_50 ?_
          refine lv_iconst (v := 2) hx hb d_M_tell_53 rfl ?_
          refine lv_iload_n hx hb d_M_tell_54 rfl (lv_at hl 1 rfl) ?_
          refine lv_imul hx hb d_M_tell_55 ?_
          refine zz_as (y := nI (2 * n)) (pk_mul 2 n) ?_
          refine lv_iconst (v := 1) hx hb d_M_tell_56 rfl ?_
          refine lv_iadd hx hb d_M_tell_57 ?_
          refine zz_as (y := nI ((2 * n) + 1)) (nI_add (2 * n) 1) ?_
          refine mm_ald hx hb hK hP 10 (by decide) rfl ((2 * n) + 1) rfl (show (2 * n) + 1 < 16 from by omega) (ar 11 ((2 * n) + 1)) (rfl) d_M_tell_58 ?_
          refine lv_iload_n hx hb d_M_tell_59 rfl (lv_at hl 2 rfl) ?_
          refine zz_cS (index := 96) (n := 2) (As := [.int (nI (ar 11 (2 * n + 1))), .int (nI x)]) (rest := []) ⟨hx, hb, hml, hown, hts⟩ (k_raised l (ar 11 (2 * n + 1)) x (hbs _ (by omega)) (by omega)) mk_M_96 ms_M_raised mi_M mc_M_raised (by decide +kernel) ⟨rfl, rfl⟩ ⟨by decide, by decide⟩ preEq rfl hl.1 rfl (Nat.le_of_ble_eq_true rfl) d_M_tell_60 ⟨Nat.zero_le _, Nat.zero_le _⟩ ?_
          refine lv_aload_n hx hb d_M_tell_63 rfl (lv_at hl 0 rfl) ?_
          refine mm_get hx hb hts hown hK hP (index := 43) 11 (by decide) mf_M_43 (v := .ref (am 12)) rfl d_M_tell_64 ?_
          refine lv_iconst (v := 2) hx hb d_M_tell_67 rfl ?_
          refine lv_iload_n hx hb d_M_tell_68 rfl (lv_at hl 1 rfl) ?_
          refine lv_imul hx hb d_M_tell_69 ?_
          refine zz_as (y := nI (2 * n)) (pk_mul 2 n) ?_
          refine lv_iconst (v := 1) hx hb d_M_tell_70 rfl ?_
          refine lv_iadd hx hb d_M_tell_71 ?_
          refine zz_as (y := nI ((2 * n) + 1)) (nI_add (2 * n) 1) ?_
          refine mm_ald hx hb hK hP 11 (by decide) rfl ((2 * n) + 1) rfl (show (2 * n) + 1 < 16 from by omega) (ar 12 ((2 * n) + 1)) (rfl) d_M_tell_72 ?_
          refine lv_icmp_eq (tgt := 78) hx hb d_M_tell_73 rfl (fun h73 => ?_) (fun h73 => ?_)
          · skip
            have e73 : ar 11 (2 * n + 1) ^ x % 10007 = ar 12 (2 * n + 1) := (zn_inj (Nat.lt_trans (Nat.mod_lt _ (by decide)) (by decide)) (by omega)).mp h73
            have hq : tellB ar n x = true := by unfold tellB fitn; rw [decide_eq_true hA, hE, decide_eq_true e35, decide_eq_true e73, decide_eq_true hp]; rfl
            refine lv_aload_n hx hb d_M_tell_78 rfl (lv_at hl 0 rfl) ?_
            refine mm_get hx hb hts hown hK hP (index := 46) 12 (by decide) mf_M_46 (v := .ref (am 13)) rfl d_M_tell_79 ?_
            refine lv_iload_n hx hb d_M_tell_82 rfl (lv_at hl 1 rfl) ?_
            refine lv_iload_n hx hb d_M_tell_83 rfl (lv_at hl 2 rfl) ?_
            refine mm_ast hx hb hK hP hD hS 12 (by decide) rfl (n) rfl (show n < 8 from by omega) (x) (rfl) d_M_tell_84 (fun H locs hP hS => ?_)
            refine lv_iconst (v := 1) hx hb d_M_tell_85 rfl ?_
            exact W.zret hx hb hr (rfl) (fun t ht hW => ⟨⟨_, zs ar 13 n x, rfl, ⟨by rw [hq]; rfl, by rw [hq]; rfl⟩, va_K.moved hW.alike hK, by rw [ht]; exact hP⟩, hS.F ht⟩) hS.2.2 d_M_tell_86
          · skip
            have e73 : ¬ ar 11 (2 * n + 1) ^ x % 10007 = ar 12 (2 * n + 1) := fun z => h73 (by rw [z])
            have hq : tellB ar n x = false := by unfold tellB fitn; rw [decide_eq_false e73, decide_eq_true hp, Bool.not_true, Bool.or_false, Bool.and_false, Bool.and_false, Bool.and_false]
            refine lv_iconst (v := 0) hx hb d_M_tell_76 rfl ?_
            exact W.zret hx hb hr (rfl) (fun t ht hW => ⟨⟨_, ar, rfl, ⟨by rw [hq]; rfl, by rw [hq]; rfl⟩, va_K.moved hW.alike hK, by rw [ht]; exact hP⟩, hS.F ht⟩) hS.2.2 d_M_tell_77
      · skip
        have e35 : ¬ ar 11 (2 * n) ^ x % 10007 = ar 12 (2 * n) := fun z => h35 (by rw [z])
        have hq : tellB ar n x = false := by unfold tellB fitn; rw [decide_eq_false e35, Bool.false_and, Bool.and_false, Bool.and_false]
        refine lv_iconst (v := 0) hx hb d_M_tell_38 rfl ?_
        exact W.zret hx hb hr (rfl) (fun t ht hW => ⟨⟨_, ar, rfl, ⟨by rw [hq]; rfl, by rw [hq]; rfl⟩, va_K.moved hW.alike hK, by rw [ht]; exact hP⟩, hS.F ht⟩) hS.2.2 d_M_tell_39

theorem d_M_witness_0 : decode c_M_witness 0 = .ok (.aload_n 0, 1) := by decide +kernel
theorem d_M_witness_1 : decode c_M_witness 1 = .ok (.getfield 122, 3) := by decide +kernel
theorem d_M_witness_4 : decode c_M_witness 4 = .ok (.ifCond .ne 6, 3) := by decide +kernel
theorem d_M_witness_7 : decode c_M_witness 7 = .ok (.bipush (-2), 2) := by decide +kernel
theorem d_M_witness_9 : decode c_M_witness 9 = .ok (.ireturn, 1) := by decide +kernel
theorem d_M_witness_10 : decode c_M_witness 10 = .ok (.aload_n 0, 1) := by decide +kernel
theorem d_M_witness_11 : decode c_M_witness 11 = .ok (.iload_n 1, 1) := by decide +kernel
theorem d_M_witness_12 : decode c_M_witness 12 = .ok (.invokevirtual 135, 3) := by decide +kernel
theorem d_M_witness_15 : decode c_M_witness 15 = .ok (.ifCond .ne 5, 3) := by decide +kernel
theorem d_M_witness_18 : decode c_M_witness 18 = .ok (.iconst (-1), 1) := by decide +kernel
theorem d_M_witness_19 : decode c_M_witness 19 = .ok (.ireturn, 1) := by decide +kernel
theorem d_M_witness_20 : decode c_M_witness 20 = .ok (.aload_n 0, 1) := by decide +kernel
theorem d_M_witness_21 : decode c_M_witness 21 = .ok (.getfield 46, 3) := by decide +kernel
theorem d_M_witness_24 : decode c_M_witness 24 = .ok (.iload_n 1, 1) := by decide +kernel
theorem d_M_witness_25 : decode c_M_witness 25 = .ok (.iaload, 1) := by decide +kernel
theorem d_M_witness_26 : decode c_M_witness 26 = .ok (.ifCond .ge 8, 3) := by decide +kernel
theorem d_M_witness_29 : decode c_M_witness 29 = .ok (.bipush (-3), 2) := by decide +kernel
theorem d_M_witness_31 : decode c_M_witness 31 = .ok (.goto 9, 3) := by decide +kernel
theorem d_M_witness_34 : decode c_M_witness 34 = .ok (.aload_n 0, 1) := by decide +kernel
theorem d_M_witness_35 : decode c_M_witness 35 = .ok (.getfield 46, 3) := by decide +kernel
theorem d_M_witness_38 : decode c_M_witness 38 = .ok (.iload_n 1, 1) := by decide +kernel
theorem d_M_witness_39 : decode c_M_witness 39 = .ok (.iaload, 1) := by decide +kernel
theorem d_M_witness_40 : decode c_M_witness 40 = .ok (.ireturn, 1) := by decide +kernel

set_option maxHeartbeats 4000000 in
set_option maxRecDepth 100000 in
/-- witness(n) -/
theorem k_witnessM (l : Launch) (D : va_G) (ca : Nat → ClassId) (am : Nat → Nat) (ar : Nat → Nat → Nat) (n : Nat) (hn : n < 2 ^ 32) (hs1 : ar 0 1 ≤ 15) (hl2 : ar 0 2 ≤ 8) (hw : ∀ i, i < 8 → ar 13 i < 2 ^ 32) : Met l y_M_witness (Cond.code y_M_witness c_M_witness 2 (some .int) :: zT) ({ frames := 2, cells := 0, slots := 0, locals := 80 }) (va_Pc [.ref (am 0), .int (nI n)] (mw D ca am ar)) (QcRead (if ar 0 1 = 0 then -2 else if n < ar 0 2 then (if ar 13 n < 2147483648 then nI (ar 13 n) else -3) else -1)) 0 0 (fun _ => False) := by
  refine Met.ofW (cc := c_M_witness) (maxL := 2) (ret := (some .int)) (by decide) rfl ?_
  intro p e s m args below meth c s₁ B hml hv
  obtain ⟨rfl, hK, hP⟩ := hv
  have hx := B.exec
  have hb := B.bytes
  have hr := B.returns
  have hts0 := atoms_spec (ws := Cond.code y_M_witness c_M_witness 2 (some .int) :: zT) B.pre
  have hts := fun w h => hts0 w (List.mem_cons_of_mem _ h)
  have hown : s.vm.findClass R_M = some m.cls := findClass_of_methodNamed B.named
  have hlocks := B.notSynchronized
  have hl := lv_entry ([.ref (am 0), .int (nI n)]) (n := 2) (Nat.le_of_ble_eq_true rfl)
  rw [lg_entry_eq]
  generalize (lg_sl ([.ref (am 0), .int (nI n)]) ++ List.replicate (2 - (lg_sl ([.ref (am 0), .int (nI n)])).length) Slot.unset).toArray = ls at hl ⊢
  have hl : lv_has ls 2 [(0, .ref (am 0)), (1, .int (nI n))] := hl
  refine lv_aload_n hx hb d_M_witness_0 rfl (lv_at hl 0 rfl) ?_
  refine mm_get hx hb hts hown hK hP (index := 122) 28 (by decide) mf_M_122 (v := .int (nI (ar 0 1))) rfl d_M_witness_1 ?_
  refine lv_if_ne (tgt := 10) hx hb d_M_witness_4 rfl (fun h4 => ?_) (fun h4 => ?_)
  · skip
    have z : ¬ ar 0 1 = 0 := fun q => h4 (by rw [q]; rfl)
    refine lv_aload_n hx hb d_M_witness_10 rfl (lv_at hl 0 rfl) ?_
    refine lv_iload_n hx hb d_M_witness_11 rfl (lv_at hl 1 rfl) ?_
    refine zz_cV (index := 135) (n := 1) (As := [.int (nI n)]) (rest := []) ⟨hx, hb, hml, hown, hts⟩ (k_isLeafM l D ca am (ar) n hn hl2) mk_M_135 mo_M_isLeaf me_M_M_isLeaf_M mi_M mc_M_isLeaf (by decide +kernel) ⟨rfl, rfl⟩ ⟨by decide, by decide⟩ (mm_pre hK hP) rfl hl.1 rfl (Nat.le_of_ble_eq_true rfl) d_M_witness_12 ⟨Nat.zero_le _, Nat.zero_le _⟩ ?_
    refine lv_if_ne (tgt := 20) hx hb d_M_witness_15 rfl (fun h15 => ?_) (fun h15 => ?_)
    · skip
      have y : n < ar 0 2 := of_decide_eq_true (zb_ne h15)
      have hw2 := hw n (by omega)
      refine lv_aload_n hx hb d_M_witness_20 rfl (lv_at hl 0 rfl) ?_
      refine mm_get hx hb hts hown hK hP (index := 46) 12 (by decide) mf_M_46 (v := .ref (am 13)) rfl d_M_witness_21 ?_
      refine lv_iload_n hx hb d_M_witness_24 rfl (lv_at hl 1 rfl) ?_
      refine mm_ald hx hb hK hP 12 (by decide) rfl (n) rfl (show n < 8 from by omega) (ar 13 n) (rfl) d_M_witness_25 ?_
      refine lv_if_ge (tgt := 34) hx hb d_M_witness_26 rfl (fun h26 => ?_) (fun h26 => ?_)
      · skip
        have v : ar 13 n < 2147483648 := (zn_ge0 hw2).mp h26
        have hq : (if ar 0 1 = 0 then -2 else if n < ar 0 2 then (if ar 13 n < 2147483648 then nI (ar 13 n) else -3) else -1) = nI (ar 13 n) := by rw [if_neg z, if_pos y, if_pos v]
        refine lv_aload_n hx hb d_M_witness_34 rfl (lv_at hl 0 rfl) ?_
        refine mm_get hx hb hts hown hK hP (index := 46) 12 (by decide) mf_M_46 (v := .ref (am 13)) rfl d_M_witness_35 ?_
        refine lv_iload_n hx hb d_M_witness_38 rfl (lv_at hl 1 rfl) ?_
        refine mm_ald hx hb hK hP 12 (by decide) rfl (n) rfl (show n < 8 from by omega) (ar 13 n) (rfl) d_M_witness_39 ?_
        refine zz_as (y := if ar 0 1 = 0 then -2 else if n < ar 0 2 then (if ar 13 n < 2147483648 then nI (ar 13 n) else -3) else -1) (hq.symm) ?_
        exact W.iret hx hb hr (fun t ht hW => ⟨rfl, ht⟩) (fun q h => absurd h List.not_mem_nil) d_M_witness_40
      · skip
        have v : ¬ ar 13 n < 2147483648 := mt (zn_ge0 hw2).mpr h26
        have hq : (if ar 0 1 = 0 then -2 else if n < ar 0 2 then (if ar 13 n < 2147483648 then nI (ar 13 n) else -3) else -1) = (-3 : Int32) := by rw [if_neg z, if_pos y, if_neg v]
        refine lv_bipush (v := (-3)) hx hb d_M_witness_29 rfl ?_
        refine lv_goto (tgt := 40) hx hb d_M_witness_31 rfl ?_
        refine zz_as (y := if ar 0 1 = 0 then -2 else if n < ar 0 2 then (if ar 13 n < 2147483648 then nI (ar 13 n) else -3) else -1) (hq.symm) ?_
        exact W.iret hx hb hr (fun t ht hW => ⟨rfl, ht⟩) (fun q h => absurd h List.not_mem_nil) d_M_witness_40
    · skip
      have y : ¬ n < ar 0 2 := of_decide_eq_false (zb_eq h15)
      have hq : (if ar 0 1 = 0 then -2 else if n < ar 0 2 then (if ar 13 n < 2147483648 then nI (ar 13 n) else -3) else -1) = (-1 : Int32) := by rw [if_neg z, if_neg y]
      refine lv_iconst (v := (-1)) hx hb d_M_witness_18 rfl ?_
      refine zz_as (y := if ar 0 1 = 0 then -2 else if n < ar 0 2 then (if ar 13 n < 2147483648 then nI (ar 13 n) else -3) else -1) (hq.symm) ?_
      exact W.iret hx hb hr (fun t ht hW => ⟨rfl, ht⟩) (fun q h => absurd h List.not_mem_nil) d_M_witness_19
  · skip
    have z : ar 0 1 = 0 := (zn_inj (by omega) (by decide)).mp h4
    have hq : (if ar 0 1 = 0 then -2 else if n < ar 0 2 then (if ar 13 n < 2147483648 then nI (ar 13 n) else -3) else -1) = (-2 : Int32) := by rw [if_pos z]
    refine lv_bipush (v := (-2)) hx hb d_M_witness_7 rfl ?_
    refine zz_as (y := if ar 0 1 = 0 then -2 else if n < ar 0 2 then (if ar 13 n < 2147483648 then nI (ar 13 n) else -3) else -1) (hq.symm) ?_
    exact W.iret hx hb hr (fun t ht hW => ⟨rfl, ht⟩) (fun q h => absurd h List.not_mem_nil) d_M_witness_9

theorem d_M_isPart_0 : decode c_M_isPart 0 = .ok (.aload_n 0, 1) := by decide +kernel
theorem d_M_isPart_1 : decode c_M_isPart 1 = .ok (.iload_n 1, 1) := by decide +kernel
theorem d_M_isPart_2 : decode c_M_isPart 2 = .ok (.invokevirtual 135, 3) := by decide +kernel
theorem d_M_isPart_5 : decode c_M_isPart 5 = .ok (.ifCond .eq 30, 3) := by decide +kernel
theorem d_M_isPart_8 : decode c_M_isPart 8 = .ok (.iload_n 2, 1) := by decide +kernel
theorem d_M_isPart_9 : decode c_M_isPart 9 = .ok (.ifCond .lt 26, 3) := by decide +kernel
theorem d_M_isPart_12 : decode c_M_isPart 12 = .ok (.iload_n 2, 1) := by decide +kernel
theorem d_M_isPart_13 : decode c_M_isPart 13 = .ok (.iconst 3, 1) := by decide +kernel
theorem d_M_isPart_14 : decode c_M_isPart 14 = .ok (.if_icmp .gt 21, 3) := by decide +kernel
theorem d_M_isPart_17 : decode c_M_isPart 17 = .ok (.iload_n 2, 1) := by decide +kernel
theorem d_M_isPart_18 : decode c_M_isPart 18 = .ok (.iconst 1, 1) := by decide +kernel
theorem d_M_isPart_19 : decode c_M_isPart 19 = .ok (.if_icmp .ne 12, 3) := by decide +kernel
theorem d_M_isPart_22 : decode c_M_isPart 22 = .ok (.aload_n 0, 1) := by decide +kernel
theorem d_M_isPart_23 : decode c_M_isPart 23 = .ok (.iload_n 1, 1) := by decide +kernel
theorem d_M_isPart_24 : decode c_M_isPart 24 = .ok (.iconst 1, 1) := by decide +kernel
theorem d_M_isPart_25 : decode c_M_isPart 25 = .ok (.invokevirtual 138, 3) := by decide +kernel
theorem d_M_isPart_28 : decode c_M_isPart 28 = .ok (.ifCond .eq 7, 3) := by decide +kernel
theorem d_M_isPart_31 : decode c_M_isPart 31 = .ok (.iconst 1, 1) := by decide +kernel
theorem d_M_isPart_32 : decode c_M_isPart 32 = .ok (.goto 4, 3) := by decide +kernel
theorem d_M_isPart_35 : decode c_M_isPart 35 = .ok (.iconst 0, 1) := by decide +kernel
theorem d_M_isPart_36 : decode c_M_isPart 36 = .ok (.ireturn, 1) := by decide +kernel

set_option maxHeartbeats 4000000 in
set_option maxRecDepth 100000 in
/-- isPart(n, w) -/
theorem k_isPartM (l : Launch) (D : va_G) (ca : Nat → ClassId) (am : Nat → Nat) (ar : Nat → Nat → Nat) (n w : Nat) (hn : n < 2 ^ 32) (hw : w < 2 ^ 32) (hl2 : ar 0 2 ≤ 8) (hbs : ∀ i, i < 16 → ar 11 i < 10007) : Met l y_M_isPart (Cond.code y_M_isPart c_M_isPart 3 (some .boolean) :: zT) ({ frames := 3, cells := 0, slots := 0, locals := 120 }) (va_Pc [.ref (am 0), .int (nI n), .int (nI w)] (mw D ca am ar)) (QcRead (zb (partB ar n w))) 0 0 (fun _ => False) := by
  refine Met.ofW (cc := c_M_isPart) (maxL := 3) (ret := (some .boolean)) (by decide) rfl ?_
  intro p e s m args below meth c s₁ B hml hv
  obtain ⟨rfl, hK, hP⟩ := hv
  have hx := B.exec
  have hb := B.bytes
  have hr := B.returns
  have hts0 := atoms_spec (ws := Cond.code y_M_isPart c_M_isPart 3 (some .boolean) :: zT) B.pre
  have hts := fun w h => hts0 w (List.mem_cons_of_mem _ h)
  have hown : s.vm.findClass R_M = some m.cls := findClass_of_methodNamed B.named
  have hlocks := B.notSynchronized
  have hl := lv_entry ([.ref (am 0), .int (nI n), .int (nI w)]) (n := 3) (Nat.le_of_ble_eq_true rfl)
  rw [lg_entry_eq]
  generalize (lg_sl ([.ref (am 0), .int (nI n), .int (nI w)]) ++ List.replicate (3 - (lg_sl ([.ref (am 0), .int (nI n), .int (nI w)])).length) Slot.unset).toArray = ls at hl ⊢
  have hl : lv_has ls 3 [(0, .ref (am 0)), (1, .int (nI n)), (2, .int (nI w))] := hl
  refine lv_aload_n hx hb d_M_isPart_0 rfl (lv_at hl 0 rfl) ?_
  refine lv_iload_n hx hb d_M_isPart_1 rfl (lv_at hl 1 rfl) ?_
  refine zz_cV (index := 135) (n := 1) (As := [.int (nI n)]) (rest := []) ⟨hx, hb, hml, hown, hts⟩ (k_isLeafM l D ca am (ar) n hn hl2) mk_M_135 mo_M_isLeaf me_M_M_isLeaf_M mi_M mc_M_isLeaf (by decide +kernel) ⟨rfl, rfl⟩ ⟨by decide, by decide⟩ (mm_pre hK hP) rfl hl.1 rfl (Nat.le_of_ble_eq_true rfl) d_M_isPart_2 ⟨Nat.zero_le _, Nat.zero_le _⟩ ?_
  refine lv_if_eq (tgt := 35) hx hb d_M_isPart_5 rfl (fun h5 => ?_) (fun h5 => ?_)
  · skip
    have hq : partB ar n w = false := by unfold partB; rw [zb_eq h5, Bool.false_and]
    refine lv_iconst (v := 0) hx hb d_M_isPart_35 rfl ?_
    refine zz_as (y := zb (partB ar n w)) (by rw [hq]; rfl) ?_
    exact W.zret hx hb hr (zb_nar _) (fun t ht hW => ⟨rfl, ht⟩) (fun q h => absurd h List.not_mem_nil) d_M_isPart_36
  · skip
    have hA := zb_ne h5
    refine lv_iload_n hx hb d_M_isPart_8 rfl (lv_at hl 2 rfl) ?_
    refine lv_if_lt (tgt := 35) hx hb d_M_isPart_9 rfl (fun h9 => ?_) (fun h9 => ?_)
    · skip
      have hq : partB ar n w = false := by unfold partB; rw [decide_eq_false (show ¬ w < 4 by have := (zn_lt0 hw).mp h9; omega), Bool.false_and, Bool.and_false]
      refine lv_iconst (v := 0) hx hb d_M_isPart_35 rfl ?_
      refine zz_as (y := zb (partB ar n w)) (by rw [hq]; rfl) ?_
      exact W.zret hx hb hr (zb_nar _) (fun t ht hW => ⟨rfl, ht⟩) (fun q h => absurd h List.not_mem_nil) d_M_isPart_36
    · skip
      refine lv_iload_n hx hb d_M_isPart_12 rfl (lv_at hl 2 rfl) ?_
      refine lv_iconst (v := 3) hx hb d_M_isPart_13 rfl ?_
      refine lv_icmp_gt (tgt := 35) hx hb d_M_isPart_14 rfl (fun h14 => ?_) (fun h14 => ?_)
      · skip
        have hq : partB ar n w = false := by unfold partB; rw [decide_eq_false (show ¬ w < 4 by have := (zn_gt (b := 3) hw (by decide)).mp h14; omega), Bool.false_and, Bool.and_false]
        refine lv_iconst (v := 0) hx hb d_M_isPart_35 rfl ?_
        refine zz_as (y := zb (partB ar n w)) (by rw [hq]; rfl) ?_
        exact W.zret hx hb hr (zb_nar _) (fun t ht hW => ⟨rfl, ht⟩) (fun q h => absurd h List.not_mem_nil) d_M_isPart_36
      · skip
        have hW4 : w < 4 := by have a := mt (zn_gt (b := 3) hw (by decide)).mpr h14; have b := mt (zn_lt0 hw).mpr h9; omega
        refine lv_iload_n hx hb d_M_isPart_17 rfl (lv_at hl 2 rfl) ?_
        refine lv_iconst (v := 1) hx hb d_M_isPart_18 rfl ?_
        refine lv_icmp_ne (tgt := 31) hx hb d_M_isPart_19 rfl (fun h19 => ?_) (fun h19 => ?_)
        · skip
          have w1 : ¬ w = 1 := fun q => h19 (by rw [q]; rfl)
          have hq : partB ar n w = true := by unfold partB; rw [hA, decide_eq_true hW4, decide_eq_false w1]; rfl
          refine lv_iconst (v := 1) hx hb d_M_isPart_31 rfl ?_
          refine lv_goto (tgt := 36) hx hb d_M_isPart_32 rfl ?_
          refine zz_as (y := zb (partB ar n w)) (by rw [hq]; rfl) ?_
          exact W.zret hx hb hr (zb_nar _) (fun t ht hW => ⟨rfl, ht⟩) (fun q h => absurd h List.not_mem_nil) d_M_isPart_36
        · skip
          have w1 : w = 1 := (zn_inj hw (by decide)).mp h19
          refine lv_aload_n hx hb d_M_isPart_22 rfl (lv_at hl 0 rfl) ?_
          refine lv_iload_n hx hb d_M_isPart_23 rfl (lv_at hl 1 rfl) ?_
          refine lv_iconst (v := 1) hx hb d_M_isPart_24 rfl ?_
          refine zz_cV (index := 138) (n := 2) (As := [.int (nI n), .int 1]) (rest := []) ⟨hx, hb, hml, hown, hts⟩ (k_isPairM l D ca am (ar) n 1 hn (by decide) hl2 hbs) mk_M_138 mo_M_isPair me_M_M_isPair_M mi_M mc_M_isPair (by decide +kernel) ⟨rfl, rfl⟩ ⟨by decide, by decide⟩ (mm_pre hK hP) rfl hl.1 rfl (Nat.le_of_ble_eq_true rfl) d_M_isPart_25 ⟨Nat.zero_le _, Nat.zero_le _⟩ ?_
          refine lv_if_eq (tgt := 35) hx hb d_M_isPart_28 rfl (fun h28 => ?_) (fun h28 => ?_)
          · skip
            have hq : partB ar n w = false := by unfold partB; rw [zb_eq h28, decide_eq_true w1, Bool.not_true, Bool.or_false, Bool.and_false, Bool.and_false]
            refine lv_iconst (v := 0) hx hb d_M_isPart_35 rfl ?_
            refine zz_as (y := zb (partB ar n w)) (by rw [hq]; rfl) ?_
            exact W.zret hx hb hr (zb_nar _) (fun t ht hW => ⟨rfl, ht⟩) (fun q h => absurd h List.not_mem_nil) d_M_isPart_36
          · skip
            have hq : partB ar n w = true := by unfold partB; rw [hA, decide_eq_true hW4, zb_ne h28, Bool.or_true]; rfl
            refine lv_iconst (v := 1) hx hb d_M_isPart_31 rfl ?_
            refine lv_goto (tgt := 36) hx hb d_M_isPart_32 rfl ?_
            refine zz_as (y := zb (partB ar n w)) (by rw [hq]; rfl) ?_
            exact W.zret hx hb hr (zb_nar _) (fun t ht hW => ⟨rfl, ht⟩) (fun q h => absurd h List.not_mem_nil) d_M_isPart_36

theorem d_M_part_0 : decode c_M_part 0 = .ok (.aload_n 0, 1) := by decide +kernel
theorem d_M_part_1 : decode c_M_part 1 = .ok (.getfield 122, 3) := by decide +kernel
theorem d_M_part_4 : decode c_M_part 4 = .ok (.ifCond .ne 6, 3) := by decide +kernel
theorem d_M_part_7 : decode c_M_part 7 = .ok (.bipush (-2), 2) := by decide +kernel
theorem d_M_part_9 : decode c_M_part 9 = .ok (.ireturn, 1) := by decide +kernel
theorem d_M_part_10 : decode c_M_part 10 = .ok (.aload_n 0, 1) := by decide +kernel
theorem d_M_part_11 : decode c_M_part 11 = .ok (.iload_n 1, 1) := by decide +kernel
theorem d_M_part_12 : decode c_M_part 12 = .ok (.iload_n 2, 1) := by decide +kernel
theorem d_M_part_13 : decode c_M_part 13 = .ok (.invokevirtual 201, 3) := by decide +kernel
theorem d_M_part_16 : decode c_M_part 16 = .ok (.ifCond .ne 5, 3) := by decide +kernel
theorem d_M_part_19 : decode c_M_part 19 = .ok (.iconst (-1), 1) := by decide +kernel
theorem d_M_part_20 : decode c_M_part 20 = .ok (.ireturn, 1) := by decide +kernel
theorem d_M_part_21 : decode c_M_part 21 = .ok (.iload_n 2, 1) := by decide +kernel
theorem d_M_part_22 : decode c_M_part 22 = .ok (.iconst 2, 1) := by decide +kernel
theorem d_M_part_23 : decode c_M_part 23 = .ok (.if_icmp .ge 16, 3) := by decide +kernel
theorem d_M_part_26 : decode c_M_part 26 = .ok (.aload_n 0, 1) := by decide +kernel
theorem d_M_part_27 : decode c_M_part 27 = .ok (.getfield 49, 3) := by decide +kernel
theorem d_M_part_30 : decode c_M_part 30 = .ok (.iconst 2, 1) := by decide +kernel
theorem d_M_part_31 : decode c_M_part 31 = .ok (.iload_n 1, 1) := by decide +kernel
theorem d_M_part_32 : decode c_M_part 32 = .ok (.imul, 1) := by decide +kernel
theorem d_M_part_33 : decode c_M_part 33 = .ok (.iload_n 2, 1) := by decide +kernel
theorem d_M_part_34 : decode c_M_part 34 = .ok (.iadd, 1) := by decide +kernel
theorem d_M_part_35 : decode c_M_part 35 = .ok (.iaload, 1) := by decide +kernel
theorem d_M_part_36 : decode c_M_part 36 = .ok (.goto 23, 3) := by decide +kernel
theorem d_M_part_39 : decode c_M_part 39 = .ok (.iload_n 2, 1) := by decide +kernel
theorem d_M_part_40 : decode c_M_part 40 = .ok (.iconst 2, 1) := by decide +kernel
theorem d_M_part_41 : decode c_M_part 41 = .ok (.if_icmp .ne 12, 3) := by decide +kernel
theorem d_M_part_44 : decode c_M_part 44 = .ok (.aload_n 0, 1) := by decide +kernel
theorem d_M_part_45 : decode c_M_part 45 = .ok (.getfield 52, 3) := by decide +kernel
theorem d_M_part_48 : decode c_M_part 48 = .ok (.iload_n 1, 1) := by decide +kernel
theorem d_M_part_49 : decode c_M_part 49 = .ok (.iaload, 1) := by decide +kernel
theorem d_M_part_50 : decode c_M_part 50 = .ok (.goto 9, 3) := by decide +kernel
theorem d_M_part_53 : decode c_M_part 53 = .ok (.aload_n 0, 1) := by decide +kernel
theorem d_M_part_54 : decode c_M_part 54 = .ok (.getfield 55, 3) := by decide +kernel
theorem d_M_part_57 : decode c_M_part 57 = .ok (.iload_n 1, 1) := by decide +kernel
theorem d_M_part_58 : decode c_M_part 58 = .ok (.iaload, 1) := by decide +kernel
theorem d_M_part_59 : decode c_M_part 59 = .ok (.ireturn, 1) := by decide +kernel

set_option maxHeartbeats 4000000 in
set_option maxRecDepth 100000 in
/-- part(n, w) -/
theorem k_partM (l : Launch) (D : va_G) (ca : Nat → ClassId) (am : Nat → Nat) (ar : Nat → Nat → Nat) (n w : Nat) (hn : n < 2 ^ 32) (hw : w < 2 ^ 32) (hl2 : ar 0 2 ≤ 8) (hbs : ∀ i, i < 16 → ar 11 i < 10007) (hs1 : ar 0 1 ≤ 15) : Met l y_M_part (Cond.code y_M_part c_M_part 3 (some .int) :: zT) ({ frames := 4, cells := 0, slots := 0, locals := 160 }) (va_Pc [.ref (am 0), .int (nI n), .int (nI w)] (mw D ca am ar)) (QcRead (if ar 0 1 = 0 then -2 else if partB ar n w then nI (pv ar n w) else -1)) 0 0 (fun _ => False) := by
  refine Met.ofW (cc := c_M_part) (maxL := 3) (ret := (some .int)) (by decide) rfl ?_
  intro p e s m args below meth c s₁ B hml hv
  obtain ⟨rfl, hK, hP⟩ := hv
  have hx := B.exec
  have hb := B.bytes
  have hr := B.returns
  have hts0 := atoms_spec (ws := Cond.code y_M_part c_M_part 3 (some .int) :: zT) B.pre
  have hts := fun w h => hts0 w (List.mem_cons_of_mem _ h)
  have hown : s.vm.findClass R_M = some m.cls := findClass_of_methodNamed B.named
  have hlocks := B.notSynchronized
  have hl := lv_entry ([.ref (am 0), .int (nI n), .int (nI w)]) (n := 3) (Nat.le_of_ble_eq_true rfl)
  rw [lg_entry_eq]
  generalize (lg_sl ([.ref (am 0), .int (nI n), .int (nI w)]) ++ List.replicate (3 - (lg_sl ([.ref (am 0), .int (nI n), .int (nI w)])).length) Slot.unset).toArray = ls at hl ⊢
  have hl : lv_has ls 3 [(0, .ref (am 0)), (1, .int (nI n)), (2, .int (nI w))] := hl
  refine lv_aload_n hx hb d_M_part_0 rfl (lv_at hl 0 rfl) ?_
  refine mm_get hx hb hts hown hK hP (index := 122) 28 (by decide) mf_M_122 (v := .int (nI (ar 0 1))) rfl d_M_part_1 ?_
  refine lv_if_ne (tgt := 10) hx hb d_M_part_4 rfl (fun h4 => ?_) (fun h4 => ?_)
  · skip
    have z : ¬ ar 0 1 = 0 := fun q => h4 (by rw [q]; rfl)
    refine lv_aload_n hx hb d_M_part_10 rfl (lv_at hl 0 rfl) ?_
    refine lv_iload_n hx hb d_M_part_11 rfl (lv_at hl 1 rfl) ?_
    refine lv_iload_n hx hb d_M_part_12 rfl (lv_at hl 2 rfl) ?_
    refine zz_cV (index := 201) (n := 2) (As := [.int (nI n), .int (nI w)]) (rest := []) ⟨hx, hb, hml, hown, hts⟩ (k_isPartM l D ca am (ar) n w hn hw hl2 hbs) mk_M_201 mo_M_isPart me_M_M_isPart_M mi_M mc_M_isPart (by decide +kernel) ⟨rfl, rfl⟩ ⟨by decide, by decide⟩ (mm_pre hK hP) rfl hl.1 rfl (Nat.le_of_ble_eq_true rfl) d_M_part_13 ⟨Nat.zero_le _, Nat.zero_le _⟩ ?_
    refine lv_if_ne (tgt := 21) hx hb d_M_part_16 rfl (fun h16 => ?_) (fun h16 => ?_)
    · skip
      have y := zb_ne h16
      obtain ⟨hA, hW4⟩ := partB_t y
      refine lv_iload_n hx hb d_M_part_21 rfl (lv_at hl 2 rfl) ?_
      refine lv_iconst (v := 2) hx hb d_M_part_22 rfl ?_
      refine lv_icmp_ge (tgt := 39) hx hb d_M_part_23 rfl (fun h23 => ?_) (fun h23 => ?_)
      · skip
        have w2 : ¬ w < 2 := by have := (zn_le (b := 2) hw (by decide)).mp h23; omega
        refine lv_iload_n hx hb d_M_part_39 rfl (lv_at hl 2 rfl) ?_
        refine lv_iconst (v := 2) hx hb d_M_part_40 rfl ?_
        refine lv_icmp_ne (tgt := 53) hx hb d_M_part_41 rfl (fun h41 => ?_) (fun h41 => ?_)
        · skip
          have w3 : ¬ w = 2 := fun q => h41 (by rw [q]; rfl)
          have hq : (if ar 0 1 = 0 then -2 else if partB ar n w then nI (pv ar n w) else -1) = nI (ar 16 n) := by rw [if_neg z, y, if_pos rfl, pv, if_neg w2, if_neg w3]
          refine lv_aload_n hx hb d_M_part_53 rfl (lv_at hl 0 rfl) ?_
          refine mm_get hx hb hts hown hK hP (index := 55) 15 (by decide) mf_M_55 (v := .ref (am 16)) rfl d_M_part_54 ?_
          refine lv_iload_n hx hb d_M_part_57 rfl (lv_at hl 1 rfl) ?_
          refine mm_ald hx hb hK hP 15 (by decide) rfl (n) rfl (show n < 8 from by omega) (ar 16 n) (rfl) d_M_part_58 ?_
          refine zz_as (y := if ar 0 1 = 0 then -2 else if partB ar n w then nI (pv ar n w) else -1) (hq.symm) ?_
          exact W.iret hx hb hr (fun t ht hW => ⟨rfl, ht⟩) (fun q h => absurd h List.not_mem_nil) d_M_part_59
        · skip
          have w3 : w = 2 := (zn_inj hw (by decide)).mp h41
          have hq : (if ar 0 1 = 0 then -2 else if partB ar n w then nI (pv ar n w) else -1) = nI (ar 15 n) := by rw [if_neg z, y, if_pos rfl, pv, if_neg w2, if_pos w3]
          refine lv_aload_n hx hb d_M_part_44 rfl (lv_at hl 0 rfl) ?_
          refine mm_get hx hb hts hown hK hP (index := 52) 14 (by decide) mf_M_52 (v := .ref (am 15)) rfl d_M_part_45 ?_
          refine lv_iload_n hx hb d_M_part_48 rfl (lv_at hl 1 rfl) ?_
          refine mm_ald hx hb hK hP 14 (by decide) rfl (n) rfl (show n < 8 from by omega) (ar 15 n) (rfl) d_M_part_49 ?_
          refine lv_goto (tgt := 59) hx hb d_M_part_50 rfl ?_
          refine zz_as (y := if ar 0 1 = 0 then -2 else if partB ar n w then nI (pv ar n w) else -1) (hq.symm) ?_
          exact W.iret hx hb hr (fun t ht hW => ⟨rfl, ht⟩) (fun q h => absurd h List.not_mem_nil) d_M_part_59
      · skip
        have w2 : w < 2 := by have := mt (zn_le (b := 2) hw (by decide)).mpr h23; omega
        have hq : (if ar 0 1 = 0 then -2 else if partB ar n w then nI (pv ar n w) else -1) = nI (ar 14 (2 * n + w)) := by rw [if_neg z, y, if_pos rfl, pv, if_pos w2]
        refine lv_aload_n hx hb d_M_part_26 rfl (lv_at hl 0 rfl) ?_
        refine mm_get hx hb hts hown hK hP (index := 49) 13 (by decide) mf_M_49 (v := .ref (am 14)) rfl d_M_part_27 ?_
        refine lv_iconst (v := 2) hx hb d_M_part_30 rfl ?_
        refine lv_iload_n hx hb d_M_part_31 rfl (lv_at hl 1 rfl) ?_
        refine lv_imul hx hb d_M_part_32 ?_
        refine zz_as (y := nI (2 * n)) (pk_mul 2 n) ?_
        refine lv_iload_n hx hb d_M_part_33 rfl (lv_at hl 2 rfl) ?_
        refine lv_iadd hx hb d_M_part_34 ?_
        refine zz_as (y := nI ((2 * n) + w)) (nI_add (2 * n) w) ?_
        refine mm_ald hx hb hK hP 13 (by decide) rfl ((2 * n) + w) rfl (show (2 * n) + w < 16 from by omega) (ar 14 ((2 * n) + w)) (rfl) d_M_part_35 ?_
        refine lv_goto (tgt := 59) hx hb d_M_part_36 rfl ?_
        refine zz_as (y := if ar 0 1 = 0 then -2 else if partB ar n w then nI (pv ar n w) else -1) (hq.symm) ?_
        exact W.iret hx hb hr (fun t ht hW => ⟨rfl, ht⟩) (fun q h => absurd h List.not_mem_nil) d_M_part_59
    · skip
      have hq : (if ar 0 1 = 0 then -2 else if partB ar n w then nI (pv ar n w) else -1) = (-1 : Int32) := by rw [if_neg z, zb_eq h16]; rfl
      refine lv_iconst (v := (-1)) hx hb d_M_part_19 rfl ?_
      refine zz_as (y := if ar 0 1 = 0 then -2 else if partB ar n w then nI (pv ar n w) else -1) (hq.symm) ?_
      exact W.iret hx hb hr (fun t ht hW => ⟨rfl, ht⟩) (fun q h => absurd h List.not_mem_nil) d_M_part_20
  · skip
    have z : ar 0 1 = 0 := (zn_inj (by omega) (by decide)).mp h4
    have hq : (if ar 0 1 = 0 then -2 else if partB ar n w then nI (pv ar n w) else -1) = (-2 : Int32) := by rw [if_pos z]
    refine lv_bipush (v := (-2)) hx hb d_M_part_7 rfl ?_
    refine zz_as (y := if ar 0 1 = 0 then -2 else if partB ar n w then nI (pv ar n w) else -1) (hq.symm) ?_
    exact W.iret hx hb hr (fun t ht hW => ⟨rfl, ht⟩) (fun q h => absurd h List.not_mem_nil) d_M_part_9

theorem d_M_change_0 : decode c_M_change 0 = .ok (.aload_n 0, 1) := by decide +kernel
theorem d_M_change_1 : decode c_M_change 1 = .ok (.iload_n 1, 1) := by decide +kernel
theorem d_M_change_2 : decode c_M_change 2 = .ok (.iload_n 2, 1) := by decide +kernel
theorem d_M_change_3 : decode c_M_change 3 = .ok (.invokevirtual 201, 3) := by decide +kernel
theorem d_M_change_6 : decode c_M_change 6 = .ok (.ifCond .eq 25, 3) := by decide +kernel
theorem d_M_change_9 : decode c_M_change 9 = .ok (.iload_n 3, 1) := by decide +kernel
theorem d_M_change_10 : decode c_M_change 10 = .ok (.ifCond .lt 21, 3) := by decide +kernel
theorem d_M_change_13 : decode c_M_change 13 = .ok (.iload_n 3, 1) := by decide +kernel
theorem d_M_change_14 : decode c_M_change 14 = .ok (.iload_n 2, 1) := by decide +kernel
theorem d_M_change_15 : decode c_M_change 15 = .ok (.iconst 2, 1) := by decide +kernel
theorem d_M_change_16 : decode c_M_change 16 = .ok (.if_icmp .ge 9, 3) := by decide +kernel
theorem d_M_change_19 : decode c_M_change 19 = .ok (.sipush 10007, 3) := by decide +kernel
theorem d_M_change_22 : decode c_M_change 22 = .ok (.goto 6, 3) := by decide +kernel
theorem d_M_change_25 : decode c_M_change 25 = .ok (.sipush 5003, 3) := by decide +kernel
theorem d_M_change_28 : decode c_M_change 28 = .ok (.if_icmp .lt 5, 3) := by decide +kernel
theorem d_M_change_31 : decode c_M_change 31 = .ok (.iconst 0, 1) := by decide +kernel
theorem d_M_change_32 : decode c_M_change 32 = .ok (.ireturn, 1) := by decide +kernel
theorem d_M_change_33 : decode c_M_change 33 = .ok (.iload_n 2, 1) := by decide +kernel
theorem d_M_change_34 : decode c_M_change 34 = .ok (.iconst 2, 1) := by decide +kernel
theorem d_M_change_35 : decode c_M_change 35 = .ok (.if_icmp .ge 14, 3) := by decide +kernel
theorem d_M_change_38 : decode c_M_change 38 = .ok (.aload_n 0, 1) := by decide +kernel
theorem d_M_change_39 : decode c_M_change 39 = .ok (.getfield 49, 3) := by decide +kernel
theorem d_M_change_42 : decode c_M_change 42 = .ok (.iconst 2, 1) := by decide +kernel
theorem d_M_change_43 : decode c_M_change 43 = .ok (.iload_n 1, 1) := by decide +kernel
theorem d_M_change_44 : decode c_M_change 44 = .ok (.imul, 1) := by decide +kernel
theorem d_M_change_45 : decode c_M_change 45 = .ok (.iload_n 2, 1) := by decide +kernel
theorem d_M_change_46 : decode c_M_change 46 = .ok (.iadd, 1) := by decide +kernel
theorem d_M_change_47 : decode c_M_change 47 = .ok (.iload_n 3, 1) := by decide +kernel
theorem d_M_change_48 : decode c_M_change 48 = .ok (.iastore, 1) := by decide +kernel
theorem d_M_change_49 : decode c_M_change 49 = .ok (.iload_n 2, 1) := by decide +kernel
theorem d_M_change_50 : decode c_M_change 50 = .ok (.iconst 2, 1) := by decide +kernel
theorem d_M_change_51 : decode c_M_change 51 = .ok (.if_icmp .ne 10, 3) := by decide +kernel
theorem d_M_change_54 : decode c_M_change 54 = .ok (.aload_n 0, 1) := by decide +kernel
theorem d_M_change_55 : decode c_M_change 55 = .ok (.getfield 52, 3) := by decide +kernel
theorem d_M_change_58 : decode c_M_change 58 = .ok (.iload_n 1, 1) := by decide +kernel
theorem d_M_change_59 : decode c_M_change 59 = .ok (.iload_n 3, 1) := by decide +kernel
theorem d_M_change_60 : decode c_M_change 60 = .ok (.iastore, 1) := by decide +kernel
theorem d_M_change_61 : decode c_M_change 61 = .ok (.iload_n 2, 1) := by decide +kernel
theorem d_M_change_62 : decode c_M_change 62 = .ok (.iconst 3, 1) := by decide +kernel
theorem d_M_change_63 : decode c_M_change 63 = .ok (.if_icmp .ne 10, 3) := by decide +kernel
theorem d_M_change_66 : decode c_M_change 66 = .ok (.aload_n 0, 1) := by decide +kernel
theorem d_M_change_67 : decode c_M_change 67 = .ok (.getfield 55, 3) := by decide +kernel
theorem d_M_change_70 : decode c_M_change 70 = .ok (.iload_n 1, 1) := by decide +kernel
theorem d_M_change_71 : decode c_M_change 71 = .ok (.iload_n 3, 1) := by decide +kernel
theorem d_M_change_72 : decode c_M_change 72 = .ok (.iastore, 1) := by decide +kernel
theorem d_M_change_73 : decode c_M_change 73 = .ok (.iconst 1, 1) := by decide +kernel
theorem d_M_change_74 : decode c_M_change 74 = .ok (.ireturn, 1) := by decide +kernel

set_option maxHeartbeats 4000000 in
set_option maxRecDepth 100000 in
/-- change(n, w, v) -/
theorem k_changeM (l : Launch) (D : va_G) (ca : Nat → ClassId) (am : Nat → Nat) (ar : Nat → Nat → Nat) (hI : mI am) (n w v : Nat) (hn : n < 2 ^ 32) (hw : w < 2 ^ 32) (hl2 : ar 0 2 ≤ 8) (hbs : ∀ i, i < 16 → ar 11 i < 10007) (hv : v < 2 ^ 32) : Met l y_M_change (Cond.code y_M_change c_M_change 4 (some .boolean) :: zT) ({ frames := 4, cells := 0, slots := 0, locals := 160 }) (va_Pc [.ref (am 0), .int (nI n), .int (nI w), .int (nI v)] (mw D ca am ar)) (va_Qi (fun r ar1 => r = zb (chgB ar n w v) ∧ ar1 = if chgB ar n w v then chg ar n w v else ar) (mw D ca am) (mA am)) 0 0 (mA am) := by
  refine Met.ofW (cc := c_M_change) (maxL := 4) (ret := (some .boolean)) (by decide) rfl ?_
  intro p e s m args below meth c s₁ B hml hv
  obtain ⟨rfl, hK, hP⟩ := hv
  have hx := B.exec
  have hb := B.bytes
  have hr := B.returns
  have hts0 := atoms_spec (ws := Cond.code y_M_change c_M_change 4 (some .boolean) :: zT) B.pre
  have hts := fun w h => hts0 w (List.mem_cons_of_mem _ h)
  have hown : s.vm.findClass R_M = some m.cls := findClass_of_methodNamed B.named
  have hlocks := B.notSynchronized
  have hD := mI_D hI
  have hS : va_S (mA am) s.heap s.heap [] := va_S.rf
  have hAA : ∀ q, mA am q → mA am q := fun _ h => h
  have hl := lv_entry ([.ref (am 0), .int (nI n), .int (nI w), .int (nI v)]) (n := 4) (Nat.le_of_ble_eq_true rfl)
  rw [lg_entry_eq]
  generalize (lg_sl ([.ref (am 0), .int (nI n), .int (nI w), .int (nI v)]) ++ List.replicate (4 - (lg_sl ([.ref (am 0), .int (nI n), .int (nI w), .int (nI v)])).length) Slot.unset).toArray = ls at hl ⊢
  have hl : lv_has ls 4 [(0, .ref (am 0)), (1, .int (nI n)), (2, .int (nI w)), (3, .int (nI v))] := hl
  skip
  refine lv_aload_n hx hb d_M_change_0 rfl (lv_at hl 0 rfl) ?_
  refine lv_iload_n hx hb d_M_change_1 rfl (lv_at hl 1 rfl) ?_
  refine lv_iload_n hx hb d_M_change_2 rfl (lv_at hl 2 rfl) ?_
  refine zz_cV (index := 201) (n := 2) (As := [.int (nI n), .int (nI w)]) (rest := []) ⟨hx, hb, hml, hown, hts⟩ (k_isPartM l D ca am (ar) n w hn hw hl2 hbs) mk_M_201 mo_M_isPart me_M_M_isPart_M mi_M mc_M_isPart (by decide +kernel) ⟨rfl, rfl⟩ ⟨by decide, by decide⟩ (mm_pre hK hP) rfl hl.1 rfl (Nat.le_of_ble_eq_true rfl) d_M_change_3 ⟨Nat.zero_le _, Nat.zero_le _⟩ ?_
  refine lv_if_eq (tgt := 31) hx hb d_M_change_6 rfl (fun h6 => ?_) (fun h6 => ?_)
  · skip
    have hq : chgB ar n w v = false := by unfold chgB; rw [zb_eq h6, Bool.false_and]
    refine lv_iconst (v := 0) hx hb d_M_change_31 rfl ?_
    exact W.zret hx hb hr (rfl) (fun t ht hW => ⟨⟨_, ar, rfl, ⟨by rw [hq]; rfl, by rw [hq]; rfl⟩, va_K.moved hW.alike hK, by rw [ht]; exact hP⟩, hS.F ht⟩) hS.2.2 d_M_change_32
  · skip
    have y := zb_ne h6
    obtain ⟨hA, hW4⟩ := partB_t y
    refine lv_iload_n hx hb d_M_change_9 rfl (lv_at hl 3 rfl) ?_
    refine lv_if_lt (tgt := 31) hx hb d_M_change_10 rfl (fun h10 => ?_) (fun h10 => ?_)
    · skip
      have hq : chgB ar n w v = false := by unfold chgB; rw [decide_eq_false (show ¬ v < (if w < 2 then 10007 else 5003) by have := (zn_lt0 hv).mp h10; split <;> omega), Bool.and_false]
      refine lv_iconst (v := 0) hx hb d_M_change_31 rfl ?_
      exact W.zret hx hb hr (rfl) (fun t ht hW => ⟨⟨_, ar, rfl, ⟨by rw [hq]; rfl, by rw [hq]; rfl⟩, va_K.moved hW.alike hK, by rw [ht]; exact hP⟩, hS.F ht⟩) hS.2.2 d_M_change_32
    · skip
      refine lv_iload_n hx hb d_M_change_13 rfl (lv_at hl 3 rfl) ?_
      refine lv_iload_n hx hb d_M_change_14 rfl (lv_at hl 2 rfl) ?_
      refine lv_iconst (v := 2) hx hb d_M_change_15 rfl ?_
      refine lv_icmp_ge (tgt := 25) hx hb d_M_change_16 rfl (fun h16 => ?_) (fun h16 => ?_)
      · skip
        have w2 : ¬ w < 2 := by have := (zn_le (b := 2) hw (by decide)).mp h16; omega
        refine lv_sipush (v := 5003) hx hb d_M_change_25 rfl ?_
        refine lv_icmp_lt (tgt := 33) hx hb d_M_change_28 rfl (fun h28 => ?_) (fun h28 => ?_)
        · skip
          have v2 : v < 5003 := by have a := (zn_lt (b := 5003) hv (by decide)).mp h28; have b := mt (zn_lt0 hv).mpr h10; omega
          have hq : chgB ar n w v = true := by unfold chgB; rw [y, if_neg w2, decide_eq_true v2]; rfl
          refine lv_iload_n hx hb d_M_change_33 rfl (lv_at hl 2 rfl) ?_
          refine lv_iconst (v := 2) hx hb d_M_change_34 rfl ?_
          refine lv_icmp_ge (tgt := 49) hx hb d_M_change_35 rfl (fun h35 => ?_) (fun h35 => absurd ((zn_le (b := 2) hw (by decide)).mpr (by omega)) h35)
          refine lv_iload_n hx hb d_M_change_49 rfl (lv_at hl 2 rfl) ?_
          refine lv_iconst (v := 2) hx hb d_M_change_50 rfl ?_
          refine lv_icmp_ne (tgt := 61) hx hb d_M_change_51 rfl (fun h51 => ?_) (fun h51 => ?_)
          · skip
            have w3 : ¬ w = 2 := fun q => h51 (by rw [q]; rfl)
            refine lv_iload_n hx hb d_M_change_61 rfl (lv_at hl 2 rfl) ?_
            refine lv_iconst (v := 3) hx hb d_M_change_62 rfl ?_
            refine lv_icmp_ne (tgt := 73) hx hb d_M_change_63 rfl (fun h63 => absurd (by rw [show w = 3 by omega]; rfl) h63) (fun h63 => ?_)
            refine lv_aload_n hx hb d_M_change_66 rfl (lv_at hl 0 rfl) ?_
            refine mm_get hx hb hts hown hK hP (index := 55) 15 (by decide) mf_M_55 (v := .ref (am 16)) rfl d_M_change_67 ?_
            refine lv_iload_n hx hb d_M_change_70 rfl (lv_at hl 1 rfl) ?_
            refine lv_iload_n hx hb d_M_change_71 rfl (lv_at hl 3 rfl) ?_
            refine mm_ast hx hb hK hP hD hS 15 (by decide) rfl (n) rfl (show n < 8 from by omega) (v) (rfl) d_M_change_72 (fun H locs hP hS => ?_)
            refine lv_iconst (v := 1) hx hb d_M_change_73 rfl ?_
            exact W.zret hx hb hr (rfl) (fun t ht hW => ⟨⟨_, zs ar 16 n v, rfl, ⟨by rw [hq]; rfl, by rw [hq, if_pos rfl]; unfold chg; rw [if_neg w2, if_neg w3]⟩, va_K.moved hW.alike hK, by rw [ht]; exact hP⟩, hS.F ht⟩) hS.2.2 d_M_change_74
          · skip
            have w3 : w = 2 := (zn_inj hw (by decide)).mp h51
            refine lv_aload_n hx hb d_M_change_54 rfl (lv_at hl 0 rfl) ?_
            refine mm_get hx hb hts hown hK hP (index := 52) 14 (by decide) mf_M_52 (v := .ref (am 15)) rfl d_M_change_55 ?_
            refine lv_iload_n hx hb d_M_change_58 rfl (lv_at hl 1 rfl) ?_
            refine lv_iload_n hx hb d_M_change_59 rfl (lv_at hl 3 rfl) ?_
            refine mm_ast hx hb hK hP hD hS 14 (by decide) rfl (n) rfl (show n < 8 from by omega) (v) (rfl) d_M_change_60 (fun H locs hP hS => ?_)
            refine lv_iload_n hx hb d_M_change_61 rfl (lv_at hl 2 rfl) ?_
            refine lv_iconst (v := 3) hx hb d_M_change_62 rfl ?_
            refine lv_icmp_ne (tgt := 73) hx hb d_M_change_63 rfl (fun h63 => ?_) (fun h63 => absurd h63 (fun q => by have := (zn_inj (b := 3) hw (by decide)).mp q; omega))
            refine lv_iconst (v := 1) hx hb d_M_change_73 rfl ?_
            exact W.zret hx hb hr (rfl) (fun t ht hW => ⟨⟨_, zs ar 15 n v, rfl, ⟨by rw [hq]; rfl, by rw [hq, if_pos rfl]; unfold chg; rw [if_neg w2, if_pos w3]⟩, va_K.moved hW.alike hK, by rw [ht]; exact hP⟩, hS.F ht⟩) hS.2.2 d_M_change_74
        · skip
          have v2 : ¬ v < 5003 := by have a := mt (zn_lt (b := 5003) hv (by decide)).mpr h28; omega
          have hq : chgB ar n w v = false := by unfold chgB; rw [if_neg w2, decide_eq_false v2, Bool.and_false]
          refine lv_iconst (v := 0) hx hb d_M_change_31 rfl ?_
          exact W.zret hx hb hr (rfl) (fun t ht hW => ⟨⟨_, ar, rfl, ⟨by rw [hq]; rfl, by rw [hq]; rfl⟩, va_K.moved hW.alike hK, by rw [ht]; exact hP⟩, hS.F ht⟩) hS.2.2 d_M_change_32
      · skip
        have w2 : w < 2 := by have := mt (zn_le (b := 2) hw (by decide)).mpr h16; omega
        refine lv_sipush (v := 10007) hx hb d_M_change_19 rfl ?_
        refine lv_goto (tgt := 28) hx hb d_M_change_22 rfl ?_
        refine lv_icmp_lt (tgt := 33) hx hb d_M_change_28 rfl (fun h28 => ?_) (fun h28 => ?_)
        · skip
          have v2 : v < 10007 := by have a := (zn_lt (b := 10007) hv (by decide)).mp h28; have b := mt (zn_lt0 hv).mpr h10; omega
          have hq : chgB ar n w v = true := by unfold chgB; rw [y, if_pos w2, decide_eq_true v2]; rfl
          refine lv_iload_n hx hb d_M_change_33 rfl (lv_at hl 2 rfl) ?_
          refine lv_iconst (v := 2) hx hb d_M_change_34 rfl ?_
          refine lv_icmp_ge (tgt := 49) hx hb d_M_change_35 rfl (fun h35 => absurd h35 (fun q => by have := (zn_le (b := 2) hw (by decide)).mp q; omega)) (fun h35 => ?_)
          refine lv_aload_n hx hb d_M_change_38 rfl (lv_at hl 0 rfl) ?_
          refine mm_get hx hb hts hown hK hP (index := 49) 13 (by decide) mf_M_49 (v := .ref (am 14)) rfl d_M_change_39 ?_
          refine lv_iconst (v := 2) hx hb d_M_change_42 rfl ?_
          refine lv_iload_n hx hb d_M_change_43 rfl (lv_at hl 1 rfl) ?_
          refine lv_imul hx hb d_M_change_44 ?_
          refine zz_as (y := nI (2 * n)) (pk_mul 2 n) ?_
          refine lv_iload_n hx hb d_M_change_45 rfl (lv_at hl 2 rfl) ?_
          refine lv_iadd hx hb d_M_change_46 ?_
          refine zz_as (y := nI ((2 * n) + w)) (nI_add (2 * n) w) ?_
          refine lv_iload_n hx hb d_M_change_47 rfl (lv_at hl 3 rfl) ?_
          refine mm_ast hx hb hK hP hD hS 13 (by decide) rfl ((2 * n) + w) rfl (show (2 * n) + w < 16 from by omega) (v) (rfl) d_M_change_48 (fun H locs hP hS => ?_)
          refine lv_iload_n hx hb d_M_change_49 rfl (lv_at hl 2 rfl) ?_
          refine lv_iconst (v := 2) hx hb d_M_change_50 rfl ?_
          refine lv_icmp_ne (tgt := 61) hx hb d_M_change_51 rfl (fun h51 => ?_) (fun h51 => absurd h51 (fun q => by have := (zn_inj (b := 2) hw (by decide)).mp q; omega))
          refine lv_iload_n hx hb d_M_change_61 rfl (lv_at hl 2 rfl) ?_
          refine lv_iconst (v := 3) hx hb d_M_change_62 rfl ?_
          refine lv_icmp_ne (tgt := 73) hx hb d_M_change_63 rfl (fun h63 => ?_) (fun h63 => absurd h63 (fun q => by have := (zn_inj (b := 3) hw (by decide)).mp q; omega))
          refine lv_iconst (v := 1) hx hb d_M_change_73 rfl ?_
          exact W.zret hx hb hr (rfl) (fun t ht hW => ⟨⟨_, zs ar 14 ((2 * n) + w) v, rfl, ⟨by rw [hq]; rfl, by rw [hq, if_pos rfl]; unfold chg; rw [if_pos w2]⟩, va_K.moved hW.alike hK, by rw [ht]; exact hP⟩, hS.F ht⟩) hS.2.2 d_M_change_74
        · skip
          have v2 : ¬ v < 10007 := by have a := mt (zn_lt (b := 10007) hv (by decide)).mpr h28; omega
          have hq : chgB ar n w v = false := by unfold chgB; rw [if_pos w2, decide_eq_false v2, Bool.and_false]
          refine lv_iconst (v := 0) hx hb d_M_change_31 rfl ?_
          exact W.zret hx hb hr (rfl) (fun t ht hW => ⟨⟨_, ar, rfl, ⟨by rw [hq]; rfl, by rw [hq]; rfl⟩, va_K.moved hW.alike hK, by rw [ht]; exact hP⟩, hS.F ht⟩) hS.2.2 d_M_change_32

theorem d_M_later_0 : decode c_M_later 0 = .ok (.aload_n 0, 1) := by decide +kernel
theorem d_M_later_1 : decode c_M_later 1 = .ok (.getfield 77, 3) := by decide +kernel
theorem d_M_later_4 : decode c_M_later 4 = .ok (.aload_n 0, 1) := by decide +kernel
theorem d_M_later_5 : decode c_M_later 5 = .ok (.getfield 145, 3) := by decide +kernel
theorem d_M_later_8 : decode c_M_later 8 = .ok (.iload_n 1, 1) := by decide +kernel
theorem d_M_later_9 : decode c_M_later 9 = .ok (.iastore, 1) := by decide +kernel
theorem d_M_later_10 : decode c_M_later 10 = .ok (.aload_n 0, 1) := by decide +kernel
theorem d_M_later_11 : decode c_M_later 11 = .ok (.getfield 83, 3) := by decide +kernel
theorem d_M_later_14 : decode c_M_later 14 = .ok (.iload_n 1, 1) := by decide +kernel
theorem d_M_later_15 : decode c_M_later 15 = .ok (.iload_n 2, 1) := by decide +kernel
theorem d_M_later_16 : decode c_M_later 16 = .ok (.bastore, 1) := by decide +kernel
theorem d_M_later_17 : decode c_M_later 17 = .ok (.aload_n 0, 1) := by decide +kernel
theorem d_M_later_18 : decode c_M_later 18 = .ok (.getfield 80, 3) := by decide +kernel
theorem d_M_later_21 : decode c_M_later 21 = .ok (.iload_n 1, 1) := by decide +kernel
theorem d_M_later_22 : decode c_M_later 22 = .ok (.iload_n 3, 1) := by decide +kernel
theorem d_M_later_23 : decode c_M_later 23 = .ok (.iastore, 1) := by decide +kernel
theorem d_M_later_24 : decode c_M_later 24 = .ok (.aload_n 0, 1) := by decide +kernel
theorem d_M_later_25 : decode c_M_later 25 = .ok (.dup, 1) := by decide +kernel
theorem d_M_later_26 : decode c_M_later 26 = .ok (.getfield 145, 3) := by decide +kernel
theorem d_M_later_29 : decode c_M_later 29 = .ok (.iconst 1, 1) := by decide +kernel
theorem d_M_later_30 : decode c_M_later 30 = .ok (.iadd, 1) := by decide +kernel
theorem d_M_later_31 : decode c_M_later 31 = .ok (.putfield 145, 3) := by decide +kernel
theorem d_M_later_34 : decode c_M_later 34 = .ok (.return_, 1) := by decide +kernel

set_option maxHeartbeats 4000000 in
set_option maxRecDepth 100000 in
/-- later(k, b, c) -/
theorem k_laterM (l : Launch) (D : va_G) (ca : Nat → ClassId) (am : Nat → Nat) (ar : Nat → Nat → Nat) (hI : mI am) (k b c0 : Nat) (hk : k < 15) (hb2 : b < 2) (ht : ar 0 6 < 15) : Met l y_M_later (Cond.code y_M_later c_M_later 4 none :: zT) ({ frames := 1, cells := 0, slots := 0, locals := 40 }) (va_Pc [.ref (am 0), .int (nI k), .int (nI b), .int (nI c0)] (mw D ca am ar)) (va_Qv (fun ar1 => ar1 = lat ar k b c0) (mw D ca am) (mA am)) 0 0 (mA am) := by
  refine Met.ofW (cc := c_M_later) (maxL := 4) (ret := none) (by decide) rfl ?_
  intro p e s m args below meth c s₁ B hml hv
  obtain ⟨rfl, hK, hP⟩ := hv
  have hx := B.exec
  have hb := B.bytes
  have hr := B.returns
  have hts0 := atoms_spec (ws := Cond.code y_M_later c_M_later 4 none :: zT) B.pre
  have hts := fun w h => hts0 w (List.mem_cons_of_mem _ h)
  have hown : s.vm.findClass R_M = some m.cls := findClass_of_methodNamed B.named
  have hlocks := B.notSynchronized
  have hD := mI_D hI
  have hS : va_S (mA am) s.heap s.heap [] := va_S.rf
  have hAA : ∀ q, mA am q → mA am q := fun _ h => h
  have hl := lv_entry ([.ref (am 0), .int (nI k), .int (nI b), .int (nI c0)]) (n := 4) (Nat.le_of_ble_eq_true rfl)
  rw [lg_entry_eq]
  generalize (lg_sl ([.ref (am 0), .int (nI k), .int (nI b), .int (nI c0)]) ++ List.replicate (4 - (lg_sl ([.ref (am 0), .int (nI k), .int (nI b), .int (nI c0)])).length) Slot.unset).toArray = ls at hl ⊢
  have hl : lv_has ls 4 [(0, .ref (am 0)), (1, .int (nI k)), (2, .int (nI b)), (3, .int (nI c0))] := hl
  skip
  refine lv_aload_n hx hb d_M_later_0 rfl (lv_at hl 0 rfl) ?_
  refine mm_get hx hb hts hown hK hP (index := 77) 22 (by decide) mf_M_77 (v := .ref (am 23)) rfl d_M_later_1 ?_
  refine lv_aload_n hx hb d_M_later_4 rfl (lv_at hl 0 rfl) ?_
  refine mm_get hx hb hts hown hK hP (index := 145) 33 (by decide) mf_M_145 (v := .int (nI (ar 0 6))) rfl d_M_later_5 ?_
  refine lv_iload_n hx hb d_M_later_8 rfl (lv_at hl 1 rfl) ?_
  refine mm_ast hx hb hK hP hD hS 22 (by decide) rfl (ar 0 6) rfl (show ar 0 6 < 15 from by omega) (k) (rfl) d_M_later_9 (fun H locs hP hS => ?_)
  refine lv_aload_n hx hb d_M_later_10 rfl (lv_at hl 0 rfl) ?_
  refine mm_get hx hb hts hown hK hP (index := 83) 24 (by decide) mf_M_83 (v := .ref (am 25)) rfl d_M_later_11 ?_
  refine lv_iload_n hx hb d_M_later_14 rfl (lv_at hl 1 rfl) ?_
  refine lv_iload_n hx hb d_M_later_15 rfl (lv_at hl 2 rfl) ?_
  refine mm_zast hx hb hK hP hD hS 24 (by decide) rfl (k) rfl (show k < 15 from by omega) (b) (rfl) (hb2) d_M_later_16 (fun H locs hP hS => ?_)
  refine lv_aload_n hx hb d_M_later_17 rfl (lv_at hl 0 rfl) ?_
  refine mm_get hx hb hts hown hK hP (index := 80) 23 (by decide) mf_M_80 (v := .ref (am 24)) rfl d_M_later_18 ?_
  refine lv_iload_n hx hb d_M_later_21 rfl (lv_at hl 1 rfl) ?_
  refine lv_iload_n hx hb d_M_later_22 rfl (lv_at hl 3 rfl) ?_
  refine mm_ast hx hb hK hP hD hS 23 (by decide) rfl (k) rfl (show k < 15 from by omega) (c0) (rfl) d_M_later_23 (fun H locs hP hS => ?_)
  refine lv_aload_n hx hb d_M_later_24 rfl (lv_at hl 0 rfl) ?_
  refine lv_dup hx hb d_M_later_25 rfl ?_
  refine mm_get hx hb hts hown hK hP (index := 145) 33 (by decide) mf_M_145 (v := .int (nI (ar 0 6))) rfl d_M_later_26 ?_
  refine lv_iconst (v := 1) hx hb d_M_later_29 rfl ?_
  refine lv_iadd hx hb d_M_later_30 ?_
  refine zz_as (y := nI ((ar 0 6) + 1)) (nI_add (ar 0 6) 1) ?_
  refine mm_put hx hb hts hown hK hP hD hS (index := 145) 6 (by decide) mf_M_145 ((ar 0 6) + 1) (rfl) rfl rfl d_M_later_31 (fun H locs hP hS => ?_)
  exact W.vret hx hb hr (fun t ht hW => ⟨⟨zs (zs (zs (zs ar 23 (ar 0 6) k) 25 k b) 24 k c0) 0 6 ((ar 0 6) + 1), rfl, rfl, va_K.moved hW.alike hK, by rw [ht]; exact hP⟩, hS.F ht⟩) hS.2.2 d_M_later_34

theorem d_M_respondLeaf_0 : decode c_M_respondLeaf 0 = .ok (.aload_n 0, 1) := by decide +kernel
theorem d_M_respondLeaf_1 : decode c_M_respondLeaf 1 = .ok (.getfield 52, 3) := by decide +kernel
theorem d_M_respondLeaf_4 : decode c_M_respondLeaf 4 = .ok (.iload_n 1, 1) := by decide +kernel
theorem d_M_respondLeaf_5 : decode c_M_respondLeaf 5 = .ok (.iload_n 2, 1) := by decide +kernel
theorem d_M_respondLeaf_6 : decode c_M_respondLeaf 6 = .ok (.iastore, 1) := by decide +kernel
theorem d_M_respondLeaf_7 : decode c_M_respondLeaf 7 = .ok (.aload_n 0, 1) := by decide +kernel
theorem d_M_respondLeaf_8 : decode c_M_respondLeaf 8 = .ok (.getfield 55, 3) := by decide +kernel
theorem d_M_respondLeaf_11 : decode c_M_respondLeaf 11 = .ok (.iload_n 1, 1) := by decide +kernel
theorem d_M_respondLeaf_12 : decode c_M_respondLeaf 12 = .ok (.aload_n 0, 1) := by decide +kernel
theorem d_M_respondLeaf_13 : decode c_M_respondLeaf 13 = .ok (.getfield 67, 3) := by decide +kernel
theorem d_M_respondLeaf_16 : decode c_M_respondLeaf 16 = .ok (.iload_n 1, 1) := by decide +kernel
theorem d_M_respondLeaf_17 : decode c_M_respondLeaf 17 = .ok (.iaload, 1) := by decide +kernel
theorem d_M_respondLeaf_18 : decode c_M_respondLeaf 18 = .ok (.iload_n 2, 1) := by decide +kernel
theorem d_M_respondLeaf_19 : decode c_M_respondLeaf 19 = .ok (.aload_n 0, 1) := by decide +kernel
theorem d_M_respondLeaf_20 : decode c_M_respondLeaf 20 = .ok (.getfield 46, 3) := by decide +kernel
theorem d_M_respondLeaf_23 : decode c_M_respondLeaf 23 = .ok (.iload_n 1, 1) := by decide +kernel
theorem d_M_respondLeaf_24 : decode c_M_respondLeaf 24 = .ok (.iaload, 1) := by decide +kernel
theorem d_M_respondLeaf_25 : decode c_M_respondLeaf 25 = .ok (.sipush 5003, 3) := by decide +kernel
theorem d_M_respondLeaf_28 : decode c_M_respondLeaf 28 = .ok (.invokestatic 92, 3) := by decide +kernel
theorem d_M_respondLeaf_31 : decode c_M_respondLeaf 31 = .ok (.iadd, 1) := by decide +kernel
theorem d_M_respondLeaf_32 : decode c_M_respondLeaf 32 = .ok (.sipush 5003, 3) := by decide +kernel
theorem d_M_respondLeaf_35 : decode c_M_respondLeaf 35 = .ok (.irem, 1) := by decide +kernel
theorem d_M_respondLeaf_36 : decode c_M_respondLeaf 36 = .ok (.iastore, 1) := by decide +kernel
theorem d_M_respondLeaf_37 : decode c_M_respondLeaf 37 = .ok (.return_, 1) := by decide +kernel

set_option maxHeartbeats 4000000 in
set_option maxRecDepth 100000 in
/-- respondLeaf(n, c) -/
theorem k_respondLeafM (l : Launch) (D : va_G) (ca : Nat → ClassId) (am : Nat → Nat) (ar : Nat → Nat → Nat) (hI : mI am) (n c0 : Nat) (hn : n < 8) (hc0 : c0 < 5003) (hw : ar 13 n < 5003) (hno : ar 20 n < 5003) : Met l y_M_respondLeaf (Cond.code y_M_respondLeaf c_M_respondLeaf 3 none :: zT) ({ frames := 2, cells := 0, slots := 0, locals := 80 }) (va_Pc [.ref (am 0), .int (nI n), .int (nI c0)] (mw D ca am ar)) (va_Qv (fun ar1 => ar1 = rspL ar n c0) (mw D ca am) (mA am)) 0 0 (mA am) := by
  refine Met.ofW (cc := c_M_respondLeaf) (maxL := 3) (ret := none) (by decide) rfl ?_
  intro p e s m args below meth c s₁ B hml hv
  obtain ⟨rfl, hK, hP⟩ := hv
  have hx := B.exec
  have hb := B.bytes
  have hr := B.returns
  have hts0 := atoms_spec (ws := Cond.code y_M_respondLeaf c_M_respondLeaf 3 none :: zT) B.pre
  have hts := fun w h => hts0 w (List.mem_cons_of_mem _ h)
  have hown : s.vm.findClass R_M = some m.cls := findClass_of_methodNamed B.named
  have hlocks := B.notSynchronized
  have hD := mI_D hI
  have hS : va_S (mA am) s.heap s.heap [] := va_S.rf
  have hAA : ∀ q, mA am q → mA am q := fun _ h => h
  have hl := lv_entry ([.ref (am 0), .int (nI n), .int (nI c0)]) (n := 3) (Nat.le_of_ble_eq_true rfl)
  rw [lg_entry_eq]
  generalize (lg_sl ([.ref (am 0), .int (nI n), .int (nI c0)]) ++ List.replicate (3 - (lg_sl ([.ref (am 0), .int (nI n), .int (nI c0)])).length) Slot.unset).toArray = ls at hl ⊢
  have hl : lv_has ls 3 [(0, .ref (am 0)), (1, .int (nI n)), (2, .int (nI c0))] := hl
  skip
  refine lv_aload_n hx hb d_M_respondLeaf_0 rfl (lv_at hl 0 rfl) ?_
  refine mm_get hx hb hts hown hK hP (index := 52) 14 (by decide) mf_M_52 (v := .ref (am 15)) rfl d_M_respondLeaf_1 ?_
  refine lv_iload_n hx hb d_M_respondLeaf_4 rfl (lv_at hl 1 rfl) ?_
  refine lv_iload_n hx hb d_M_respondLeaf_5 rfl (lv_at hl 2 rfl) ?_
  refine mm_ast hx hb hK hP hD hS 14 (by decide) rfl (n) rfl (show n < 8 from by omega) (c0) (rfl) d_M_respondLeaf_6 (fun H locs hP hS => ?_)
  refine lv_aload_n hx hb d_M_respondLeaf_7 rfl (lv_at hl 0 rfl) ?_
  refine mm_get hx hb hts hown hK hP (index := 55) 15 (by decide) mf_M_55 (v := .ref (am 16)) rfl d_M_respondLeaf_8 ?_
  refine lv_iload_n hx hb d_M_respondLeaf_11 rfl (lv_at hl 1 rfl) ?_
  refine lv_aload_n hx hb d_M_respondLeaf_12 rfl (lv_at hl 0 rfl) ?_
  refine mm_get hx hb hts hown hK hP (index := 67) 19 (by decide) mf_M_67 (v := .ref (am 20)) rfl d_M_respondLeaf_13 ?_
  refine lv_iload_n hx hb d_M_respondLeaf_16 rfl (lv_at hl 1 rfl) ?_
  refine mm_ald hx hb hK hP 19 (by decide) rfl (n) rfl (show n < 8 from by omega) (ar 20 n) (rfl) d_M_respondLeaf_17 ?_
  refine lv_iload_n hx hb d_M_respondLeaf_18 rfl (lv_at hl 2 rfl) ?_
  refine lv_aload_n hx hb d_M_respondLeaf_19 rfl (lv_at hl 0 rfl) ?_
  refine mm_get hx hb hts hown hK hP (index := 46) 12 (by decide) mf_M_46 (v := .ref (am 13)) rfl d_M_respondLeaf_20 ?_
  refine lv_iload_n hx hb d_M_respondLeaf_23 rfl (lv_at hl 1 rfl) ?_
  refine mm_ald hx hb hK hP 12 (by decide) rfl (n) rfl (show n < 8 from by omega) (ar 13 n) (rfl) d_M_respondLeaf_24 ?_
  refine lv_sipush (v := 5003) hx hb d_M_respondLeaf_25 rfl ?_
  refine zz_cS (index := 92) (n := 3) (As := [.int (nI c0), .int (nI (ar 13 n)), .int 5003]) (rest := [.int (nI (ar 20 n)), .int (nI n), .ref (am 16)]) ⟨hx, hb, hml, hown, hts⟩ (k_times l c0 (ar 13 n) 5003 (by omega) (by omega) (by decide) (by decide)) mk_M_92 ms_M_times mi_M mc_M_times (by decide +kernel) ⟨rfl, rfl⟩ ⟨by decide, by decide⟩ preEq rfl hl.1 rfl (Nat.le_of_ble_eq_true rfl) d_M_respondLeaf_28 ⟨Nat.zero_le _, Nat.zero_le _⟩ ?_
  refine lv_iadd hx hb d_M_respondLeaf_31 ?_
  refine zz_as (y := nI ((ar 20 n) + (c0 * ar 13 n % 5003))) (nI_add (ar 20 n) (c0 * ar 13 n % 5003)) ?_
  refine lv_sipush (v := 5003) hx hb d_M_respondLeaf_32 rfl ?_
  refine lv_irem hx hb d_M_respondLeaf_35 (by decide) ?_
  refine zz_as (y := nI (((ar 20 n) + (c0 * ar 13 n % 5003)) % 5003)) (pk_rem (d := 5003) (by have := Nat.mod_lt (c0 * ar 13 n) (show 0 < 5003 by decide); omega) (by decide) (by decide)) ?_
  refine mm_ast hx hb hK hP hD hS 15 (by decide) rfl (n) rfl (show n < 8 from by omega) (((ar 20 n) + (c0 * ar 13 n % 5003)) % 5003) (rfl) d_M_respondLeaf_36 (fun H locs hP hS => ?_)
  exact W.vret hx hb hr (fun t ht hW => ⟨⟨zs (zs ar 15 n c0) 16 n (((ar 20 n) + (c0 * ar 13 n % 5003)) % 5003), rfl, rfl, va_K.moved hW.alike hK, by rw [ht]; exact hP⟩, hS.F ht⟩) hS.2.2 d_M_respondLeaf_37
