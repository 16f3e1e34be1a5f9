/-! the model's extract, prove, join -/
theorem acAll_up (ar : Nat → Nat → Nat) (h : Nat → Nat) (old : Bool) (n : Nat) : acAll (va_up ar 26 h) old n = acAll ar old n := by
  induction n with
  | zero => rfl
  | succ n ih => show (acAll (va_up ar 26 h) old n && acB (va_up ar 26 h) old n) = (acAll ar old n && acB ar old n); rw [ih, acB_up]
theorem smAll_up (ar : Nat → Nat → Nat) (h : Nat → Nat) (n : Nat) : smAll (va_up ar 26 h) n = smAll ar n := by
  induction n with
  | zero => rfl
  | succ n ih => show (smAll (va_up ar 26 h) n && smB (va_up ar 26 h) n) = (smAll ar n && smB ar n); rw [ih]; rfl
theorem vv_up (ar : Nat → Nat → Nat) (h g : Nat → Nat) (old : Bool) (k : Nat) : vv (va_up ar 26 h) (cR old) g k = vv ar (cR old) g k := by cases old <;> rfl
theorem accP_up {ar : Nat → Nat → Nat} {h : Nat → Nat} {old b : Bool} (q : accP (va_up ar 26 h) old b) : accP ar old b := by
  obtain ⟨g, h1, h2, h3⟩ := q
  refine ⟨g, fun k hk => ?_, h2, ?_⟩
  · rw [← vv_up ar h]; exact h1 k hk
  · rw [← acAll_up ar h]; exact h3
def xP (ar : Nat → Nat → Nat) (ok : Bool) : Prop := (ar 0 3 = 0 ∧ ok = false) ∨ (ar 0 3 = 1 ∧ ((accP ar false false ∧ ok = false) ∨ (accP ar false true ∧ ((accP ar true false ∧ ok = false) ∨ (accP ar true true ∧ ok = smAll ar (ar 0 2))))))
theorem exR_z {ar : Nat → Nat → Nat} {k : Nat} (e : ls5 (ar 15 k) (ar 18 k) = 0) : exR ar (k + 1) = exR ar k := by
  show (if _ then _ else _) = _; rw [if_pos e]
theorem exR_s {ar : Nat → Nat → Nat} {k : Nat} (e : ¬ ls5 (ar 15 k) (ar 18 k) = 0) : exR ar (k + 1) = va_up (exR ar k) k (exV ar k) := by
  show (if _ then _ else _) = _; rw [if_neg e]
theorem exN_z {ar : Nat → Nat → Nat} {k : Nat} (e : ls5 (ar 15 k) (ar 18 k) = 0) : exN ar (k + 1) = exN ar k := by
  show (if _ then _ else _) = _; rw [if_pos e]
theorem exN_s {ar : Nat → Nat → Nat} {k : Nat} (e : ¬ ls5 (ar 15 k) (ar 18 k) = 0) : exN ar (k + 1) = exN ar k + 1 := by
  show (if _ then _ else _) = _; rw [if_neg e]
theorem kOK_uniq {ar : Nat → Nat → Nat} {h g : Nat → Nat} (hT : tT ar) (h1 : kOK ar h (ar 0 1)) (h2 : kOK ar g (ar 0 1)) : ∀ k, k < ar 0 1 → g k = h k := by
  intro k
  induction k using Nat.strongRecOn with
  | ind k ih =>
    intro hk
    rw [h1 k hk, h2 k hk]
    exact kv_cg (fun z => (hT.2.2 k hk).2.2 z) (fun i hi => ih i hi (by omega))
theorem vOK_uniq {ar : Nat → Nat → Nat} {cr : Nat} {h g : Nat → Nat} (hT : tT ar) (h1 : vOK ar cr h (ar 0 1)) (h2 : vOK ar cr g (ar 0 1)) : ∀ k, k < ar 0 1 → g k = h k := by
  intro k
  induction k using Nat.strongRecOn with
  | ind k ih =>
    intro hk
    rw [h1 k hk, h2 k hk]
    exact vv_cg (fun z => (hT.2.2 k hk).2.2 z) (fun i hi => ih i hi (by omega))
/-- what a commitment leaves behind: the rows that it doesn't write -/
def cmt (ar : Nat → Nat → Nat) (real : Bool) (c0 sd : Nat) (h2 : Nat → Nat) (sc : Nat → Nat → Nat) (v : Nat) : Nat → Nat → Nat := zs (mix (cm (ar 7) (ar 8) (ar 9) (ar 10) (ar 0 1 - 1) real c0 (va_up (zs ar 0 5 sd) 27 h2)) sc) 0 4 v
theorem cmt_row {ar : Nat → Nat → Nat} {real : Bool} {c0 sd : Nat} {h2 : Nat → Nat} {sc : Nat → Nat → Nat} {v j : Nat} (h : cRow j) (h23 : j ≠ 23 ∧ j ≠ 24 ∧ j ≠ 25 ∧ j ≠ 27) : cmt ar real c0 sd h2 sc v j = ar j := by
  unfold cmt
  rw [zs_row _ _ _ h.1]
  have e : mix (cm (ar 7) (ar 8) (ar 9) (ar 10) (ar 0 1 - 1) real c0 (va_up (zs ar 0 5 sd) 27 h2)) sc j = cm (ar 7) (ar 8) (ar 9) (ar 10) (ar 0 1 - 1) real c0 (va_up (zs ar 0 5 sd) 27 h2) j := by
    funext i
    unfold mix
    rw [if_neg (by have := h.1; omega)]
  rw [e, cm_row h, va_up_ne _ _ h23.2.2.2, zs_row _ _ _ h.1]
theorem cmt_0 {ar : Nat → Nat → Nat} {real : Bool} {c0 sd : Nat} {h2 : Nat → Nat} {sc : Nat → Nat → Nat} {v i : Nat} (h : i ≠ 4 ∧ i ≠ 5 ∧ i ≠ 6) : cmt ar real c0 sd h2 sc v 0 i = ar 0 i := by
  unfold cmt
  rw [zs_ni _ _ _ _ h.1]
  unfold mix
  rw [if_neg (by omega), cm_0 h.2.1, va_up_ne _ _ (by decide), zs_ni _ _ _ _ h.2.1]
theorem tT_of {ar a : Nat → Nat → Nat} (hT : tT ar) (h01 : a 0 1 = ar 0 1) (h02 : a 0 2 = ar 0 2) (h7 : a 7 = ar 7) (h8 : a 8 = ar 8) (h9 : a 9 = ar 9) (h10 : a 10 = ar 10) : tT a := by
  unfold tT
  rw [h01, h02, h7, h8, h9, h10]; exact hT

theorem d_M_extract_0 : decode c_M_extract 0 = .ok (.aload_n 0, 1) := by decide +kernel
theorem d_M_extract_1 : decode c_M_extract 1 = .ok (.getfield 122, 3) := by decide +kernel
theorem d_M_extract_4 : decode c_M_extract 4 = .ok (.ifCond .ne 6, 3) := by decide +kernel
theorem d_M_extract_7 : decode c_M_extract 7 = .ok (.bipush (-2), 2) := by decide +kernel
theorem d_M_extract_9 : decode c_M_extract 9 = .ok (.ireturn, 1) := by decide +kernel
theorem d_M_extract_10 : decode c_M_extract 10 = .ok (.aload_n 0, 1) := by decide +kernel
theorem d_M_extract_11 : decode c_M_extract 11 = .ok (.getfield 128, 3) := by decide +kernel
theorem d_M_extract_14 : decode c_M_extract 14 = .ok (.ifCond .eq 26, 3) := by decide +kernel
theorem d_M_extract_17 : decode c_M_extract 17 = .ok (.aload_n 0, 1) := by decide +kernel
theorem d_M_extract_18 : decode c_M_extract 18 = .ok (.iconst 0, 1) := by decide +kernel
theorem d_M_extract_19 : decode c_M_extract 19 = .ok (.invokevirtual 197, 3) := by decide +kernel
theorem d_M_extract_22 : decode c_M_extract 22 = .ok (.ifCond .eq 18, 3) := by decide +kernel
theorem d_M_extract_25 : decode c_M_extract 25 = .ok (.aload_n 0, 1) := by decide +kernel
theorem d_M_extract_26 : decode c_M_extract 26 = .ok (.iconst 1, 1) := by decide +kernel
theorem d_M_extract_27 : decode c_M_extract 27 = .ok (.invokevirtual 197, 3) := by decide +kernel
theorem d_M_extract_30 : decode c_M_extract 30 = .ok (.ifCond .eq 10, 3) := by decide +kernel
theorem d_M_extract_33 : decode c_M_extract 33 = .ok (.aload_n 0, 1) := by decide +kernel
theorem d_M_extract_34 : decode c_M_extract 34 = .ok (.invokevirtual 204, 3) := by decide +kernel
theorem d_M_extract_37 : decode c_M_extract 37 = .ok (.ifCond .ne 6, 3) := by decide +kernel
theorem d_M_extract_40 : decode c_M_extract 40 = .ok (.bipush (-4), 2) := by decide +kernel
theorem d_M_extract_42 : decode c_M_extract 42 = .ok (.ireturn, 1) := by decide +kernel
theorem d_M_extract_43 : decode c_M_extract 43 = .ok (.iconst 0, 1) := by decide +kernel
theorem d_M_extract_44 : decode c_M_extract 44 = .ok (.istore_n 1, 1) := by decide +kernel
theorem d_M_extract_45 : decode c_M_extract 45 = .ok (.iconst 0, 1) := by decide +kernel
theorem d_M_extract_46 : decode c_M_extract 46 = .ok (.istore_n 2, 1) := by decide +kernel
theorem d_M_extract_47 : decode c_M_extract 47 = .ok (.iload_n 2, 1) := by decide +kernel
theorem d_M_extract_48 : decode c_M_extract 48 = .ok (.aload_n 0, 1) := by decide +kernel
theorem d_M_extract_49 : decode c_M_extract 49 = .ok (.getfield 125, 3) := by decide +kernel
theorem d_M_extract_52 : decode c_M_extract 52 = .ok (.if_icmp .ge 67, 3) := by decide +kernel
theorem d_M_extract_55 : decode c_M_extract 55 = .ok (.aload_n 0, 1) := by decide +kernel
theorem d_M_extract_56 : decode c_M_extract 56 = .ok (.getfield 52, 3) := by decide +kernel
theorem d_M_extract_59 : decode c_M_extract 59 = .ok (.iload_n 2, 1) := by decide +kernel
theorem d_M_extract_60 : decode c_M_extract 60 = .ok (.iaload, 1) := by decide +kernel
theorem d_M_extract_61 : decode c_M_extract 61 = .ok (.aload_n 0, 1) := by decide +kernel
theorem d_M_extract_62 : decode c_M_extract 62 = .ok (.getfield 61, 3) := by decide +kernel
theorem d_M_extract_65 : decode c_M_extract 65 = .ok (.iload_n 2, 1) := by decide +kernel
theorem d_M_extract_66 : decode c_M_extract 66 = .ok (.iaload, 1) := by decide +kernel
theorem d_M_extract_67 : decode c_M_extract 67 = .ok (.invokestatic 152, 3) := by decide +kernel
theorem d_M_extract_70 : decode c_M_extract 70 = .ok (.istore_n 3, 1) := by decide +kernel
theorem d_M_extract_71 : decode c_M_extract 71 = .ok (.iload_n 3, 1) := by decide +kernel
theorem d_M_extract_72 : decode c_M_extract 72 = .ok (.ifCond .eq 41, 3) := by decide +kernel
theorem d_M_extract_75 : decode c_M_extract 75 = .ok (.iload_n 3, 1) := by decide +kernel
theorem d_M_extract_76 : decode c_M_extract 76 = .ok (.invokestatic 207, 3) := by decide +kernel
theorem d_M_extract_79 : decode c_M_extract 79 = .ok (.istore 4, 2) := by decide +kernel
theorem d_M_extract_81 : decode c_M_extract 81 = .ok (.aload_n 0, 1) := by decide +kernel
theorem d_M_extract_82 : decode c_M_extract 82 = .ok (.getfield 46, 3) := by decide +kernel
theorem d_M_extract_85 : decode c_M_extract 85 = .ok (.iload_n 2, 1) := by decide +kernel
theorem d_M_extract_86 : decode c_M_extract 86 = .ok (.aload_n 0, 1) := by decide +kernel
theorem d_M_extract_87 : decode c_M_extract 87 = .ok (.getfield 55, 3) := by decide +kernel
theorem d_M_extract_90 : decode c_M_extract 90 = .ok (.iload_n 2, 1) := by decide +kernel
theorem d_M_extract_91 : decode c_M_extract 91 = .ok (.iaload, 1) := by decide +kernel
theorem d_M_extract_92 : decode c_M_extract 92 = .ok (.aload_n 0, 1) := by decide +kernel
theorem d_M_extract_93 : decode c_M_extract 93 = .ok (.getfield 64, 3) := by decide +kernel
theorem d_M_extract_96 : decode c_M_extract 96 = .ok (.iload_n 2, 1) := by decide +kernel
theorem d_M_extract_97 : decode c_M_extract 97 = .ok (.iaload, 1) := by decide +kernel
theorem d_M_extract_98 : decode c_M_extract 98 = .ok (.invokestatic 152, 3) := by decide +kernel
theorem d_M_extract_101 : decode c_M_extract 101 = .ok (.iload 4, 2) := by decide +kernel
theorem d_M_extract_103 : decode c_M_extract 103 = .ok (.sipush 5003, 3) := by decide +kernel
theorem d_M_extract_106 : decode c_M_extract 106 = .ok (.invokestatic 92, 3) := by decide +kernel
theorem d_M_extract_109 : decode c_M_extract 109 = .ok (.iastore, 1) := by decide +kernel
theorem d_M_extract_110 : decode c_M_extract 110 = .ok (.iinc 1 1, 3) := by decide +kernel
theorem d_M_extract_113 : decode c_M_extract 113 = .ok (.iinc 2 1, 3) := by decide +kernel
theorem d_M_extract_116 : decode c_M_extract 116 = .ok (.goto (-69), 3) := by decide +kernel
theorem d_M_extract_119 : decode c_M_extract 119 = .ok (.iload_n 1, 1) := by decide +kernel
theorem d_M_extract_120 : decode c_M_extract 120 = .ok (.ireturn, 1) := by decide +kernel

section MX
variable {p : Program} {l : Launch} {e : Env} {R : Room} {s : State} {m : MethodId} {args : Array Value} {below : List Frame} {meth : Method} {c : Code} {H0 : Heap} {cells slots : Nat} {Q : State → Prop} {A : Nat → Prop} {D : va_G} {ca : Nat → ClassId} {am : Nat → Nat} {ar : Nat → Nat → Nat}
set_option maxHeartbeats 4000000 in
set_option maxRecDepth 100000 in
theorem extract_loop (hx : p.tables.exec = Jvm.exec) (hb : c.code = c_M_extract) (hml : c.maxLocals = 5) (hown : s.vm.findClass R_M = some m.cls) (hts : ∀ w ∈ zT, w.before args s = true) (hK : va_K D zC (zty ca) s) (hD : zD A 28 am) (hI : mI am) (hAA : ∀ q, mA am q → A q) (hRf : 5 ≤ R.frames) (hRl : 200 ≤ R.locals) (hc : cells ≤ R.cells) (hsl : slots ≤ R.slots) {h : Nat → Nat} (hl2 : ar 0 2 ≤ 8) (hN8 : tN ar) (kk : ∀ (H : Heap) (locs : List Loc) (ls : Array Slot), va_P D zC (zl 28 am (mct ca am (va_up (va_up ar 26 h) 13 (exR ar (ar 0 2))))) H → va_S A H0 H locs → lv_has ls 5 [(1, .int (nI (exN ar (ar 0 2))))] → W p l e R s m args below meth c H locs cells slots Q (F0 m 119 ls [])) : ∀ (j k : Nat), k + j = ar 0 2 → ∀ (H : Heap) (locs : List Loc) (ls : Array Slot), va_P D zC (zl 28 am (mct ca am (va_up (va_up ar 26 h) 13 (exR ar k)))) H → va_S A H0 H locs → lv_has ls 5 [(2, .int (nI k)), (1, .int (nI (exN ar k))), (0, .ref (am 0))] → W p l e R s m args below meth c H locs cells slots Q (F0 m 47 ls []) := by
  intro j
  induction j with
  | zero =>
    intro k hk H locs ls hP hS hl
    obtain rfl : k = ar 0 2 := by omega
    refine lv_iload_n hx hb d_M_extract_47 rfl (lv_at hl 0 rfl) ?_
    refine lv_aload_n hx hb d_M_extract_48 rfl (lv_at hl 2 rfl) ?_
    refine mm_get hx hb hts hown hK hP (index := 125) 29 (by decide) mf_M_125 (v := .int (nI (ar 0 2))) rfl d_M_extract_49 ?_
    refine lv_icmp_ge (tgt := 119) hx hb d_M_extract_52 rfl (fun h52 => ?_) (fun h52 => absurd (Int32.le_refl _) h52)
    have hl := lv_sub (l' := [(1, .int (nI (exN ar (ar 0 2))))]) hl [1] rfl
    exact kk H locs ls hP hS hl
  | succ j ih =>
    intro k hk H locs ls hP hS hl
    have hN : k < ar 0 2 := by omega
    have hb8 := hN8.2 k (by omega)
    have hD1 : ls5 (ar 15 k) (ar 18 k) < 5003 := ls5_lt _ _
    have hD2 : ls5 (ar 16 k) (ar 19 k) < 5003 := ls5_lt _ _
    refine lv_iload_n hx hb d_M_extract_47 rfl (lv_at hl 0 rfl) ?_
    refine lv_aload_n hx hb d_M_extract_48 rfl (lv_at hl 2 rfl) ?_
    refine mm_get hx hb hts hown hK hP (index := 125) 29 (by decide) mf_M_125 (v := .int (nI (ar 0 2))) rfl d_M_extract_49 ?_
    refine lv_icmp_ge (tgt := 119) hx hb d_M_extract_52 rfl (fun h52 => absurd h52 (nI_ge hN (by omega))) (fun h52 => ?_)
    refine lv_aload_n hx hb d_M_extract_55 rfl (lv_at hl 2 rfl) ?_
    refine mm_get hx hb hts hown hK hP (index := 52) 14 (by decide) mf_M_52 (v := .ref (am 15)) rfl d_M_extract_56 ?_
    refine lv_iload_n hx hb d_M_extract_59 rfl (lv_at hl 0 rfl) ?_
    refine mm_ald hx hb hK hP 14 (by decide) rfl (k) rfl (show k < 8 from by omega) (ar 15 k) (rfl) d_M_extract_60 ?_
    refine lv_aload_n hx hb d_M_extract_61 rfl (lv_at hl 2 rfl) ?_
    refine mm_get hx hb hts hown hK hP (index := 61) 17 (by decide) mf_M_61 (v := .ref (am 18)) rfl d_M_extract_62 ?_
    refine lv_iload_n hx hb d_M_extract_65 rfl (lv_at hl 0 rfl) ?_
    refine mm_ald hx hb hK hP 17 (by decide) rfl (k) rfl (show k < 8 from by omega) (ar 18 k) (rfl) d_M_extract_66 ?_
    refine zz_cS (index := 152) (n := 2) (As := [.int (nI (ar 15 k)), .int (nI (ar 18 k))]) (rest := []) ⟨hx, hb, hml, hown, hts⟩ (k_less l (ar 15 k) (ar 18 k) (by omega) (by omega)) mk_M_152 ms_M_less mi_M mc_M_less (by decide +kernel) ⟨rfl, rfl⟩ ⟨Nat.le_trans (by decide) hRf, Nat.le_trans (by decide) hRl⟩ preEq rfl hl.1 rfl (Nat.le_of_ble_eq_true rfl) d_M_extract_67 ⟨hc, hsl⟩ ?_
    refine lv_istore_n (lv' := [(3, .int (nI (ls5 (ar 15 k) (ar 18 k)))), (2, .int (nI k)), (1, .int (nI (exN ar k))), (0, .ref (am 0))]) hx hb d_M_extract_70 rfl hl (by decide) rfl (fun ls hl => ?_)
    refine lv_iload_n hx hb d_M_extract_71 rfl (lv_at hl 0 rfl) ?_
    refine lv_if_eq (tgt := 113) hx hb d_M_extract_72 rfl (fun h72 => ?_) (fun h72 => ?_)
    · skip
      have e0 : ls5 (ar 15 k) (ar 18 k) = 0 := (zn_inj (by omega) (by decide)).mp h72
      refine lv_iinc (k := 1) (v := nI (k + 1)) (lv' := [(2, .int (nI (k + 1))), (3, .int (nI (ls5 (ar 15 k) (ar 18 k)))), (1, .int (nI (exN ar k))), (0, .ref (am 0))]) hx hb d_M_extract_113 hl rfl (nI_1 _) (by decide) rfl (fun ls hl => ?_)
      refine lv_goto (tgt := 47) hx hb d_M_extract_116 rfl ?_
      have hl : lv_has ls 5 [(2, .int (nI (k + 1))), (3, .int (nI (ls5 (ar 15 k) (ar 18 k)))), (1, .int (nI (exN ar (k + 1)))), (0, .ref (am 0))] := by rw [exN_z e0]; exact hl
      have hl := lv_sub (l' := [(2, .int (nI (k + 1))), (1, .int (nI (exN ar (k + 1)))), (0, .ref (am 0))]) hl [0, 2, 3] rfl
      exact ih (k + 1) (by omega) H locs ls (by rw [exR_z e0]; exact hP) hS hl
    · skip
      have e0 : ¬ ls5 (ar 15 k) (ar 18 k) = 0 := fun q => h72 (by rw [q]; rfl)
      refine lv_iload_n hx hb d_M_extract_75 rfl (lv_at hl 0 rfl) ?_
      refine zz_cS (index := 207) (n := 1) (As := [.int (nI (ls5 (ar 15 k) (ar 18 k)))]) (rest := []) ⟨hx, hb, hml, hown, hts⟩ (k_inverse l (ls5 (ar 15 k) (ar 18 k)) hD1) mk_M_207 ms_M_inverse mi_M mc_M_inverse (by decide +kernel) ⟨rfl, rfl⟩ ⟨Nat.le_trans (by decide) hRf, Nat.le_trans (by decide) hRl⟩ preEq rfl hl.1 rfl (Nat.le_of_ble_eq_true rfl) d_M_extract_76 ⟨hc, hsl⟩ ?_
      refine lv_istore (lv' := [(4, .int (nI (ls5 (ar 15 k) (ar 18 k) ^ 5001 % 5003))), (3, .int (nI (ls5 (ar 15 k) (ar 18 k)))), (2, .int (nI k)), (1, .int (nI (exN ar k))), (0, .ref (am 0))]) hx hb d_M_extract_79 hl (by decide) rfl (fun ls hl => ?_)
      refine lv_aload_n hx hb d_M_extract_81 rfl (lv_at hl 4 rfl) ?_
      refine mm_get hx hb hts hown hK hP (index := 46) 12 (by decide) mf_M_46 (v := .ref (am 13)) rfl d_M_extract_82 ?_
      refine lv_iload_n hx hb d_M_extract_85 rfl (lv_at hl 2 rfl) ?_
      refine lv_aload_n hx hb d_M_extract_86 rfl (lv_at hl 4 rfl) ?_
      refine mm_get hx hb hts hown hK hP (index := 55) 15 (by decide) mf_M_55 (v := .ref (am 16)) rfl d_M_extract_87 ?_
      refine lv_iload_n hx hb d_M_extract_90 rfl (lv_at hl 2 rfl) ?_
      refine mm_ald hx hb hK hP 15 (by decide) rfl (k) rfl (show k < 8 from by omega) (ar 16 k) (rfl) d_M_extract_91 ?_
      refine lv_aload_n hx hb d_M_extract_92 rfl (lv_at hl 4 rfl) ?_
      refine mm_get hx hb hts hown hK hP (index := 64) 18 (by decide) mf_M_64 (v := .ref (am 19)) rfl d_M_extract_93 ?_
      refine lv_iload_n hx hb d_M_extract_96 rfl (lv_at hl 2 rfl) ?_
      refine mm_ald hx hb hK hP 18 (by decide) rfl (k) rfl (show k < 8 from by omega) (ar 19 k) (rfl) d_M_extract_97 ?_
      refine zz_cS (index := 152) (n := 2) (As := [.int (nI (ar 16 k)), .int (nI (ar 19 k))]) (rest := [.int (nI k), .ref (am 13)]) ⟨hx, hb, hml, hown, hts⟩ (k_less l (ar 16 k) (ar 19 k) (by omega) (by omega)) mk_M_152 ms_M_less mi_M mc_M_less (by decide +kernel) ⟨rfl, rfl⟩ ⟨Nat.le_trans (by decide) hRf, Nat.le_trans (by decide) hRl⟩ preEq rfl hl.1 rfl (Nat.le_of_ble_eq_true rfl) d_M_extract_98 ⟨hc, hsl⟩ ?_
      refine lv_iload hx hb d_M_extract_101 (lv_at hl 0 rfl) ?_
      refine lv_sipush (v := 5003) hx hb d_M_extract_103 rfl ?_
      refine zz_cS (index := 92) (n := 3) (As := [.int (nI (ls5 (ar 16 k) (ar 19 k))), .int (nI (ls5 (ar 15 k) (ar 18 k) ^ 5001 % 5003)), .int 5003]) (rest := [.int (nI k), .ref (am 13)]) ⟨hx, hb, hml, hown, hts⟩ (k_times l (ls5 (ar 16 k) (ar 19 k)) (ls5 (ar 15 k) (ar 18 k) ^ 5001 % 5003) 5003 (by omega) (Nat.lt_trans (Nat.mod_lt _ (by decide)) (by decide)) (by decide) (by decide)) mk_M_92 ms_M_times mi_M mc_M_times (by decide +kernel) ⟨rfl, rfl⟩ ⟨Nat.le_trans (by decide) hRf, Nat.le_trans (by decide) hRl⟩ preEq rfl hl.1 rfl (Nat.le_of_ble_eq_true rfl) d_M_extract_106 ⟨hc, hsl⟩ ?_
      refine zz_as (y := nI (exV ar k)) (congrArg nI (by unfold exV; rfl)) ?_
      refine mm_ast hx hb hK hP hD hS 12 (by decide) rfl (k) rfl (show k < 8 from by omega) (exV ar k) (rfl) d_M_extract_109 (fun H locs hP hS => ?_)
      refine lv_iinc (k := 3) (v := nI ((exN ar k) + 1)) (lv' := [(1, .int (nI ((exN ar k) + 1))), (4, .int (nI (ls5 (ar 15 k) (ar 18 k) ^ 5001 % 5003))), (3, .int (nI (ls5 (ar 15 k) (ar 18 k)))), (2, .int (nI k)), (0, .ref (am 0))]) hx hb d_M_extract_110 hl rfl (nI_1 _) (by decide) rfl (fun ls hl => ?_)
      refine lv_iinc (k := 3) (v := nI (k + 1)) (lv' := [(2, .int (nI (k + 1))), (1, .int (nI ((exN ar k) + 1))), (4, .int (nI (ls5 (ar 15 k) (ar 18 k) ^ 5001 % 5003))), (3, .int (nI (ls5 (ar 15 k) (ar 18 k)))), (0, .ref (am 0))]) hx hb d_M_extract_113 hl rfl (nI_1 _) (by decide) rfl (fun ls hl => ?_)
      refine lv_goto (tgt := 47) hx hb d_M_extract_116 rfl ?_
      rw [zs_up] at hP
      have hl : lv_has ls 5 [(2, .int (nI (k + 1))), (1, .int (nI (exN ar (k + 1)))), (4, .int (nI (ls5 (ar 15 k) (ar 18 k) ^ 5001 % 5003))), (3, .int (nI (ls5 (ar 15 k) (ar 18 k)))), (0, .ref (am 0))] := by rw [exN_s e0]; exact hl
      have hl := lv_sub (l' := [(2, .int (nI (k + 1))), (1, .int (nI (exN ar (k + 1)))), (0, .ref (am 0))]) hl [0, 1, 4] rfl
      exact ih (k + 1) (by omega) H locs ls (by rw [exR_s e0]; exact hP) hS hl
end MX

set_option maxHeartbeats 4000000 in
set_option maxRecDepth 100000 in
/-- extract() -/
theorem k_extractM (l : Launch) (D : va_G) (ca : Nat → ClassId) (am : Nat → Nat) (ar : Nat → Nat → Nat) (hI : mI am) (hT : tT ar) (hN8 : tN ar) (hsv1 : ar 0 3 < 2) (hbs : ∀ i, i < 16 → ar 11 i < 10007) (his : ∀ i, i < 16 → ar 12 i < 10007) : Met l y_M_extract (Cond.code y_M_extract c_M_extract 5 (some .int) :: zT) ({ frames := 6, cells := 0, slots := 0, locals := 240 }) (va_Pc [.ref (am 0)] (mw D ca am ar)) (va_Qi (fun r ar1 => (ar 0 1 = 0 ∧ r = -2 ∧ ar1 = ar) ∨ (0 < ar 0 1 ∧ ∃ (h : Nat → Nat) (ok : Bool), xP ar ok ∧ ((ok = false ∧ r = -4 ∧ ar1 = va_up ar 26 h) ∨ (ok = true ∧ r = nI (exN ar (ar 0 2)) ∧ ar1 = va_up (va_up ar 26 h) 13 (exR ar (ar 0 2)))))) (mw D ca am) (mA am)) 0 0 (mA am) := by
  refine Met.ofW (cc := c_M_extract) (maxL := 5) (ret := (some .int)) (by decide) rfl ?_
  intro p e s m args below meth c s₁ B hml hv
  obtain ⟨rfl, hK, hP⟩ := hv
  have hx := B.exec
  have hb := B.bytes
  have hr := B.returns
  have hts0 := atoms_spec (ws := Cond.code y_M_extract c_M_extract 5 (some .int) :: zT) B.pre
  have hts := fun w h => hts0 w (List.mem_cons_of_mem _ h)
  have hown : s.vm.findClass R_M = some m.cls := findClass_of_methodNamed B.named
  have hlocks := B.notSynchronized
  have hD := mI_D hI
  have hS : va_S (mA am) s.heap s.heap [] := va_S.rf
  have hAA : ∀ q, mA am q → mA am q := fun _ h => h
  have hl := lv_entry ([.ref (am 0)]) (n := 5) (Nat.le_of_ble_eq_true rfl)
  rw [lg_entry_eq]
  generalize (lg_sl ([.ref (am 0)]) ++ List.replicate (5 - (lg_sl ([.ref (am 0)])).length) Slot.unset).toArray = ls at hl ⊢
  have hl : lv_has ls 5 [(0, .ref (am 0))] := hl
  skip
  refine lv_aload_n hx hb d_M_extract_0 rfl (lv_at hl 0 rfl) ?_
  refine mm_get hx hb hts hown hK hP (index := 122) 28 (by decide) mf_M_122 (v := .int (nI (ar 0 1))) rfl d_M_extract_1 ?_
  refine lv_if_ne (tgt := 10) hx hb d_M_extract_4 rfl (fun h4 => ?_) (fun h4 => ?_)
  · skip
    have z : ¬ ar 0 1 = 0 := fun q => h4 (by rw [q]; rfl)
    refine lv_aload_n hx hb d_M_extract_10 rfl (lv_at hl 0 rfl) ?_
    refine mm_get hx hb hts hown hK hP (index := 128) 30 (by decide) mf_M_128 (v := .int (nI (ar 0 3))) rfl d_M_extract_11 ?_
    refine lv_if_eq (tgt := 40) hx hb d_M_extract_14 rfl (fun h14 => ?_) (fun h14 => ?_)
    · skip
      have s0 := b_z hsv1 h14
      refine lv_bipush (v := (-4)) hx hb d_M_extract_40 rfl ?_
      exact W.iret hx hb hr (fun t ht hW => ⟨⟨_, ar, rfl, Or.inr ⟨by omega, ar 26, false, Or.inl ⟨s0, rfl⟩, Or.inl ⟨rfl, rfl, (va_up_row ar 26).symm⟩⟩, va_K.moved hW.alike hK, by rw [ht]; exact hP⟩, hS.F ht⟩) hS.2.2 d_M_extract_42
    · skip
      have s0 := b_o hsv1 h14
      refine lv_aload_n hx hb d_M_extract_17 rfl (lv_at hl 0 rfl) ?_
      refine lv_iconst (v := 0) hx hb d_M_extract_18 rfl ?_
      refine mm_ci (index := 197) (n := 1) (As := [.int 0]) (rest := []) ⟨hx, hb, hml, hown, hts⟩ (k_isAcceptedM l D ca am (ar) hI false hT hN8 (by omega) hbs his) mk_M_197 mo_M_isAccepted me_M_M_isAccepted_M mi_M mc_M_isAccepted (by decide +kernel) ⟨rfl, rfl⟩ ⟨by decide, by decide⟩ hK hP hS hAA rfl hl.1 rfl (Nat.le_of_ble_eq_true rfl) d_M_extract_19 ⟨Nat.zero_le _, Nat.zero_le _⟩ (fun r ar1 H locs hpost hP hS => ?_)
      obtain ⟨h, b0, hb0, rfl, rfl⟩ := hpost
      refine lv_if_eq (tgt := 40) hx hb d_M_extract_22 rfl (fun h22 => ?_) (fun h22 => ?_)
      · skip
        obtain rfl := zb_eq h22
        refine lv_bipush (v := (-4)) hx hb d_M_extract_40 rfl ?_
        exact W.iret hx hb hr (fun t ht hW => ⟨⟨_, va_up ar 26 h, rfl, Or.inr ⟨by omega, h, false, Or.inr ⟨s0, Or.inl ⟨hb0, rfl⟩⟩, Or.inl ⟨rfl, rfl, rfl⟩⟩, va_K.moved hW.alike hK, by rw [ht]; exact hP⟩, hS.F ht⟩) hS.2.2 d_M_extract_42
      · skip
        obtain rfl := zb_ne h22
        refine lv_aload_n hx hb d_M_extract_25 rfl (lv_at hl 0 rfl) ?_
        refine lv_iconst (v := 1) hx hb d_M_extract_26 rfl ?_
        refine mm_ci (index := 197) (n := 1) (As := [.int 1]) (rest := []) ⟨hx, hb, hml, hown, hts⟩ (k_isAcceptedM l D ca am (va_up ar 26 h) hI true hT hN8 (show 0 < ar 0 1 by omega) hbs his) mk_M_197 mo_M_isAccepted me_M_M_isAccepted_M mi_M mc_M_isAccepted (by decide +kernel) ⟨rfl, rfl⟩ ⟨by decide, by decide⟩ hK hP hS hAA rfl hl.1 rfl (Nat.le_of_ble_eq_true rfl) d_M_extract_27 ⟨Nat.zero_le _, Nat.zero_le _⟩ (fun r ar1 H locs hpost hP hS => ?_)
        obtain ⟨h9, b1, hb1, hpost, rfl⟩ := hpost
        rw [bx_uu] at hpost
        subst hpost
        have hb1 := accP_up hb1
        refine lv_if_eq (tgt := 40) hx hb d_M_extract_30 rfl (fun h30 => ?_) (fun h30 => ?_)
        · skip
          obtain rfl := zb_eq h30
          refine lv_bipush (v := (-4)) hx hb d_M_extract_40 rfl ?_
          exact W.iret hx hb hr (fun t ht hW => ⟨⟨_, va_up ar 26 h9, rfl, Or.inr ⟨by omega, h9, false, Or.inr ⟨s0, Or.inr ⟨hb0, Or.inl ⟨hb1, rfl⟩⟩⟩, Or.inl ⟨rfl, rfl, rfl⟩⟩, va_K.moved hW.alike hK, by rw [ht]; exact hP⟩, hS.F ht⟩) hS.2.2 d_M_extract_42
        · skip
          obtain rfl := zb_ne h30
          refine lv_aload_n hx hb d_M_extract_33 rfl (lv_at hl 0 rfl) ?_
          refine zz_cV (index := 204) (n := 0) (As := []) (rest := []) ⟨hx, hb, hml, hown, hts⟩ (k_sameM l D ca am (va_up ar 26 h9) hI hT.2.1 hN8 hbs) mk_M_204 mo_M_sameCommitments me_M_M_sameCommitments_M mi_M mc_M_sameCommitments (by decide +kernel) ⟨rfl, rfl⟩ ⟨by decide, by decide⟩ (mm_pre hK hP) rfl hl.1 rfl (Nat.le_of_ble_eq_true rfl) d_M_extract_34 ⟨Nat.zero_le _, Nat.zero_le _⟩ ?_
          refine zz_as (y := zb (smAll ar (ar 0 2))) (congrArg zb (smAll_up ..)) ?_
          refine lv_if_ne (tgt := 43) hx hb d_M_extract_37 rfl (fun h37 => ?_) (fun h37 => ?_)
          · skip
            have m0 := zb_ne h37
            refine lv_iconst (v := 0) hx hb d_M_extract_43 rfl ?_
            refine lv_istore_n (lv' := [(1, .int 0), (0, .ref (am 0))]) hx hb d_M_extract_44 rfl hl (by decide) rfl (fun ls hl => ?_)
            refine lv_iconst (v := 0) hx hb d_M_extract_45 rfl ?_
            refine lv_istore_n (lv' := [(2, .int 0), (1, .int 0), (0, .ref (am 0))]) hx hb d_M_extract_46 rfl hl (by decide) rfl (fun ls hl => ?_)
            have hP : va_P D zC (zl 28 am (mct ca am (va_up (va_up ar 26 h9) 13 (exR ar 0)))) H := by rw [show exR ar 0 = (va_up ar 26 h9) 13 from rfl, va_up_row]; exact hP
            have hl : lv_has ls 5 [(2, .int (nI 0)), (1, .int (nI (exN ar 0))), (0, .ref (am 0))] := hl
            refine extract_loop hx hb hml hown hts hK hD hI hAA (by decide) (by decide) (Nat.zero_le _) (Nat.zero_le _) hT.2.1 hN8 (fun H locs ls hP hS hl => ?_) (ar 0 2) 0 (Nat.zero_add _) H locs ls hP hS hl
            refine lv_iload_n hx hb d_M_extract_119 rfl (lv_at hl 0 rfl) ?_
            exact W.iret hx hb hr (fun t ht hW => ⟨⟨_, va_up (va_up ar 26 h9) 13 (exR ar (ar 0 2)), rfl, Or.inr ⟨by omega, h9, true, Or.inr ⟨s0, Or.inr ⟨hb0, Or.inr ⟨hb1, m0.symm⟩⟩⟩, Or.inr ⟨rfl, rfl, rfl⟩⟩, va_K.moved hW.alike hK, by rw [ht]; exact hP⟩, hS.F ht⟩) hS.2.2 d_M_extract_120
          · skip
            have m0 := zb_eq h37
            refine lv_bipush (v := (-4)) hx hb d_M_extract_40 rfl ?_
            exact W.iret hx hb hr (fun t ht hW => ⟨⟨_, va_up ar 26 h9, rfl, Or.inr ⟨by omega, h9, false, Or.inr ⟨s0, Or.inr ⟨hb0, Or.inr ⟨hb1, m0.symm⟩⟩⟩, Or.inl ⟨rfl, rfl, rfl⟩⟩, va_K.moved hW.alike hK, by rw [ht]; exact hP⟩, hS.F ht⟩) hS.2.2 d_M_extract_42
  · skip
    have z : ar 0 1 = 0 := (zn_inj (by have := hT.1; omega) (by decide)).mp h4
    refine lv_bipush (v := (-2)) hx hb d_M_extract_7 rfl ?_
    exact W.iret hx hb hr (fun t ht hW => ⟨⟨_, ar, rfl, Or.inl ⟨z, rfl, rfl⟩, va_K.moved hW.alike hK, by rw [ht]; exact hP⟩, hS.F ht⟩) hS.2.2 d_M_extract_9

theorem d_M_prove_0 : decode c_M_prove 0 = .ok (.aload_n 0, 1) := by decide +kernel
theorem d_M_prove_1 : decode c_M_prove 1 = .ok (.iload_n 1, 1) := by decide +kernel
theorem d_M_prove_2 : decode c_M_prove 2 = .ok (.invokevirtual 182, 3) := by decide +kernel
theorem d_M_prove_5 : decode c_M_prove 5 = .ok (.istore_n 2, 1) := by decide +kernel
theorem d_M_prove_6 : decode c_M_prove 6 = .ok (.iload_n 2, 1) := by decide +kernel
theorem d_M_prove_7 : decode c_M_prove 7 = .ok (.ifCond .ge 5, 3) := by decide +kernel
theorem d_M_prove_10 : decode c_M_prove 10 = .ok (.iload_n 2, 1) := by decide +kernel
theorem d_M_prove_11 : decode c_M_prove 11 = .ok (.ireturn, 1) := by decide +kernel
theorem d_M_prove_12 : decode c_M_prove 12 = .ok (.aload_n 0, 1) := by decide +kernel
theorem d_M_prove_13 : decode c_M_prove 13 = .ok (.invokevirtual 186, 3) := by decide +kernel
theorem d_M_prove_16 : decode c_M_prove 16 = .ok (.istore_n 3, 1) := by decide +kernel
theorem d_M_prove_17 : decode c_M_prove 17 = .ok (.aload_n 0, 1) := by decide +kernel
theorem d_M_prove_18 : decode c_M_prove 18 = .ok (.iload_n 3, 1) := by decide +kernel
theorem d_M_prove_19 : decode c_M_prove 19 = .ok (.invokevirtual 177, 3) := by decide +kernel
theorem d_M_prove_22 : decode c_M_prove 22 = .ok (.iload_n 3, 1) := by decide +kernel
theorem d_M_prove_23 : decode c_M_prove 23 = .ok (.ireturn, 1) := by decide +kernel

set_option maxHeartbeats 4000000 in
set_option maxRecDepth 100000 in
/-- prove(seed) -/
theorem k_proveM (l : Launch) (D : va_G) (ca : Nat → ClassId) (am : Nat → Nat) (ar : Nat → Nat → Nat) (hI : mI am) (sd : Nat) (lo : Nat → Nat) (hT : tT ar) (hw : ∀ i, i < 8 → ar 13 i < 2 ^ 32) (hI2 : tI (ar 7) (ar 8) (ar 9) lo (ar 0 1)) (hbs : ∀ i, i < 16 → ar 11 i < 10007) (his : ∀ i, i < 16 → ar 12 i < 10007) (hGp : ∀ (h2 : Nat → Nat) (sc ar1 : Nat → Nat → Nat), kOK ar h2 (ar 0 1) → (∀ k, k < ar 0 1 → h2 k < 2) → h2 (ar 0 1 - 1) = 1 → ar1 = cmt ar true 0 sd h2 sc 1 → ∃ G : Nat → Prop, gC (ar1 7) (ar1 8) (ar1 9) (ar1 10) (ar1 21) (ar1 22) (ar1 13) (ar1 20) (ar1 0 1) G ∧ G (ar1 0 1 - 1)) : Met l y_M_prove (Cond.code y_M_prove c_M_prove 4 (some .int) :: zT) ({ frames := 7, cells := 0, slots := 0, locals := 280 }) (va_Pc [.ref (am 0), .int (nI sd)] (mw D ca am ar)) (va_Qi (fun r ar2 => (ar 0 1 = 0 ∧ r = -2 ∧ ar2 = ar) ∨ (0 < ar 0 1 ∧ ∃ h : Nat → Nat, kOK ar h (ar 0 1) ∧ (∀ k, k < ar 0 1 → h k < 2) ∧ ((¬ h (ar 0 1 - 1) = 1 ∧ r = -3 ∧ ar2 = va_up ar 27 h) ∨ (h (ar 0 1 - 1) = 1 ∧ ∃ (h2 : Nat → Nat) (sc ar1 sc2 : Nat → Nat → Nat), kOK ar h2 (ar 0 1) ∧ (∀ k, k < ar 0 1 → h2 k < 2) ∧ ar1 = cmt ar true 0 sd h2 sc 1 ∧ r = nI (hsv ar1) ∧ ar2 = mix (rq false (ar1 7) (ar1 8) (ar1 9) (ar1 10) (ar1 21) (ar1 22) (ar1 0 1 - 1) (hsv ar1) ar1) sc2)))) (mw D ca am) (mA am)) 0 0 (mA am) := by
  refine Met.ofW (cc := c_M_prove) (maxL := 4) (ret := (some .int)) (by decide) rfl ?_
  intro p e s m args below meth c s₁ B hml hv
  obtain ⟨rfl, hK, hP⟩ := hv
  have hx := B.exec
  have hb := B.bytes
  have hr := B.returns
  have hts0 := atoms_spec (ws := Cond.code y_M_prove c_M_prove 4 (some .int) :: zT) B.pre
  have hts := fun w h => hts0 w (List.mem_cons_of_mem _ h)
  have hown : s.vm.findClass R_M = some m.cls := findClass_of_methodNamed B.named
  have hlocks := B.notSynchronized
  have hD := mI_D hI
  have hS : va_S (mA am) s.heap s.heap [] := va_S.rf
  have hAA : ∀ q, mA am q → mA am q := fun _ h => h
  have hl := lv_entry ([.ref (am 0), .int (nI sd)]) (n := 4) (Nat.le_of_ble_eq_true rfl)
  rw [lg_entry_eq]
  generalize (lg_sl ([.ref (am 0), .int (nI sd)]) ++ List.replicate (4 - (lg_sl ([.ref (am 0), .int (nI sd)])).length) Slot.unset).toArray = ls at hl ⊢
  have hl : lv_has ls 4 [(0, .ref (am 0)), (1, .int (nI sd))] := hl
  skip
  refine lv_aload_n hx hb d_M_prove_0 rfl (lv_at hl 0 rfl) ?_
  refine lv_iload_n hx hb d_M_prove_1 rfl (lv_at hl 1 rfl) ?_
  refine mm_ci (index := 182) (n := 1) (As := [.int (nI sd)]) (rest := []) ⟨hx, hb, hml, hown, hts⟩ (k_commitM l D ca am (ar) hI sd lo hT hw hI2 hbs his) mk_M_182 mo_M_commit me_M_M_commit_M mi_M mc_M_commit (by decide +kernel) ⟨rfl, rfl⟩ ⟨by decide, by decide⟩ hK hP hS hAA rfl hl.1 rfl (Nat.le_of_ble_eq_true rfl) d_M_prove_2 ⟨Nat.zero_le _, Nat.zero_le _⟩ (fun r ar1 H locs hpost hP hS => ?_)
  rcases hpost with ⟨z, rfl, e1⟩ | ⟨z, h, hk, hh, ⟨y, rfl, rfl⟩ | ⟨y, rfl, h2, sc, hk2, hh2, hA⟩⟩
  · skip
    rw [e1] at hP
    refine lv_istore_n (lv' := [(2, .int ((-2))), (0, .ref (am 0)), (1, .int (nI sd))]) hx hb d_M_prove_5 rfl hl (by decide) rfl (fun ls hl => ?_)
    refine lv_iload_n hx hb d_M_prove_6 rfl (lv_at hl 0 rfl) ?_
    refine lv_if_ge (tgt := 12) hx hb d_M_prove_7 rfl (fun h7 => absurd h7 (by decide)) (fun h7 => ?_)
    refine lv_iload_n hx hb d_M_prove_10 rfl (lv_at hl 0 rfl) ?_
    exact W.iret hx hb hr (fun t ht hW => ⟨⟨_, ar, rfl, Or.inl ⟨z, rfl, rfl⟩, va_K.moved hW.alike hK, by rw [ht]; exact hP⟩, hS.F ht⟩) hS.2.2 d_M_prove_11
  · skip
    refine lv_istore_n (lv' := [(2, .int ((-3))), (0, .ref (am 0)), (1, .int (nI sd))]) hx hb d_M_prove_5 rfl hl (by decide) rfl (fun ls hl => ?_)
    refine lv_iload_n hx hb d_M_prove_6 rfl (lv_at hl 0 rfl) ?_
    refine lv_if_ge (tgt := 12) hx hb d_M_prove_7 rfl (fun h7 => absurd h7 (by decide)) (fun h7 => ?_)
    refine lv_iload_n hx hb d_M_prove_10 rfl (lv_at hl 0 rfl) ?_
    exact W.iret hx hb hr (fun t ht hW => ⟨⟨_, va_up ar 27 h, rfl, Or.inr ⟨z, h, hk, hh, Or.inl ⟨y, rfl, rfl⟩⟩, va_K.moved hW.alike hK, by rw [ht]; exact hP⟩, hS.F ht⟩) hS.2.2 d_M_prove_11
  · skip
    have a7 : ar1 7 = ar 7 := by rw [hA]; exact cmt_row (by unfold cRow; decide) (by decide)
    have a8 : ar1 8 = ar 8 := by rw [hA]; exact cmt_row (by unfold cRow; decide) (by decide)
    have a9 : ar1 9 = ar 9 := by rw [hA]; exact cmt_row (by unfold cRow; decide) (by decide)
    have a10 : ar1 10 = ar 10 := by rw [hA]; exact cmt_row (by unfold cRow; decide) (by decide)
    have a11 : ar1 11 = ar 11 := by rw [hA]; exact cmt_row (by unfold cRow; decide) (by decide)
    have a12 : ar1 12 = ar 12 := by rw [hA]; exact cmt_row (by unfold cRow; decide) (by decide)
    have a13 : ar1 13 = ar 13 := by rw [hA]; exact cmt_row (by unfold cRow; decide) (by decide)
    have b1 : ar1 0 1 = ar 0 1 := by rw [hA]; exact cmt_0 (by decide)
    have b2 : ar1 0 2 = ar 0 2 := by rw [hA]; exact cmt_0 (by decide)
    have hT1 : tT ar1 := tT_of hT b1 b2 a7 a8 a9 a10
    obtain ⟨G, hG, hGr⟩ := hGp h2 sc ar1 hk2 hh2 (by rw [kOK_uniq hT hk hk2 _ (by omega)]; exact y) hA
    refine lv_istore_n (lv' := [(2, .int 0), (0, .ref (am 0)), (1, .int (nI sd))]) hx hb d_M_prove_5 rfl hl (by decide) rfl (fun ls hl => ?_)
    refine lv_iload_n hx hb d_M_prove_6 rfl (lv_at hl 0 rfl) ?_
    refine lv_if_ge (tgt := 12) hx hb d_M_prove_7 rfl (fun h7 => ?_) (fun h7 => absurd (by decide) h7)
    refine lv_aload_n hx hb d_M_prove_12 rfl (lv_at hl 1 rfl) ?_
    refine zz_cV (index := 186) (n := 0) (As := []) (rest := []) ⟨hx, hb, hml, hown, hts⟩ (k_hashedM l D ca am (ar1) hI hT1.2.1 (by rw [a11]; exact hbs)) mk_M_186 mo_M_hashed me_M_M_hashed_M mi_M mc_M_hashed (by decide +kernel) ⟨rfl, rfl⟩ ⟨by decide, by decide⟩ (mm_pre hK hP) rfl hl.1 rfl (Nat.le_of_ble_eq_true rfl) d_M_prove_13 ⟨Nat.zero_le _, Nat.zero_le _⟩ ?_
    refine lv_istore_n (lv' := [(3, .int (nI (hsv ar1))), (2, .int 0), (0, .ref (am 0)), (1, .int (nI sd))]) hx hb d_M_prove_16 rfl hl (by decide) rfl (fun ls hl => ?_)
    refine lv_aload_n hx hb d_M_prove_17 rfl (lv_at hl 2 rfl) ?_
    refine lv_iload_n hx hb d_M_prove_18 rfl (lv_at hl 0 rfl) ?_
    refine mm_cv (index := 177) (n := 1) (As := [.int (nI (hsv ar1))]) (rest := []) ⟨hx, hb, hml, hown, hts⟩ (k_respondTreeM l D ca am (ar1) hI (hsv ar1) lo hT1 (by rw [b1]; exact z) (by rw [a7, a8, a9, b1]; exact hI2) (Nat.mod_lt _ (by decide)) G hG hGr) mk_M_177 mo_M_respondTree me_M_M_respondTree_M mi_M mc_M_respondTree (by decide +kernel) ⟨rfl, rfl⟩ ⟨by decide, by decide⟩ hK hP hS hAA rfl hl.1 rfl (Nat.le_of_ble_eq_true rfl) d_M_prove_19 ⟨Nat.zero_le _, Nat.zero_le _⟩ (fun ar1 H locs hpost hP hS => ?_)
    obtain ⟨sc2, rfl⟩ := hpost
    refine lv_iload_n hx hb d_M_prove_22 rfl (lv_at hl 0 rfl) ?_
    exact W.iret hx hb hr (fun t ht hW => ⟨⟨_, mix (rq false (ar1 7) (ar1 8) (ar1 9) (ar1 10) (ar1 21) (ar1 22) (ar1 0 1 - 1) (hsv ar1) ar1) sc2, rfl, Or.inr ⟨z, h, hk, hh, Or.inr ⟨y, h2, sc, ar1, sc2, hk2, hh2, hA, rfl, rfl⟩⟩, va_K.moved hW.alike hK, by rw [ht]; exact hP⟩, hS.F ht⟩) hS.2.2 d_M_prove_23

theorem d_M_join_0 : decode c_M_join 0 = .ok (.aload_n 0, 1) := by decide +kernel
theorem d_M_join_1 : decode c_M_join 1 = .ok (.getfield 112, 3) := by decide +kernel
theorem d_M_join_4 : decode c_M_join 4 = .ok (.iconst 2, 1) := by decide +kernel
theorem d_M_join_5 : decode c_M_join 5 = .ok (.if_icmp .ge 5, 3) := by decide +kernel
theorem d_M_join_8 : decode c_M_join 8 = .ok (.iconst 0, 1) := by decide +kernel
theorem d_M_join_9 : decode c_M_join 9 = .ok (.ireturn, 1) := by decide +kernel
theorem d_M_join_10 : decode c_M_join 10 = .ok (.iconst 0, 1) := by decide +kernel
theorem d_M_join_11 : decode c_M_join 11 = .ok (.istore_n 2, 1) := by decide +kernel
theorem d_M_join_12 : decode c_M_join 12 = .ok (.aload_n 0, 1) := by decide +kernel
theorem d_M_join_13 : decode c_M_join 13 = .ok (.getfield 25, 3) := by decide +kernel
theorem d_M_join_16 : decode c_M_join 16 = .ok (.aload_n 0, 1) := by decide +kernel
theorem d_M_join_17 : decode c_M_join 17 = .ok (.getfield 112, 3) := by decide +kernel
theorem d_M_join_20 : decode c_M_join 20 = .ok (.iconst 2, 1) := by decide +kernel
theorem d_M_join_21 : decode c_M_join 21 = .ok (.isub, 1) := by decide +kernel
theorem d_M_join_22 : decode c_M_join 22 = .ok (.iaload, 1) := by decide +kernel
theorem d_M_join_23 : decode c_M_join 23 = .ok (.istore_n 3, 1) := by decide +kernel
theorem d_M_join_24 : decode c_M_join 24 = .ok (.iload_n 3, 1) := by decide +kernel
theorem d_M_join_25 : decode c_M_join 25 = .ok (.aload_n 0, 1) := by decide +kernel
theorem d_M_join_26 : decode c_M_join 26 = .ok (.getfield 25, 3) := by decide +kernel
theorem d_M_join_29 : decode c_M_join 29 = .ok (.aload_n 0, 1) := by decide +kernel
theorem d_M_join_30 : decode c_M_join 30 = .ok (.getfield 112, 3) := by decide +kernel
theorem d_M_join_33 : decode c_M_join 33 = .ok (.iaload, 1) := by decide +kernel
theorem d_M_join_34 : decode c_M_join 34 = .ok (.if_icmp .ge 26, 3) := by decide +kernel
theorem d_M_join_37 : decode c_M_join 37 = .ok (.iload_n 2, 1) := by decide +kernel
theorem d_M_join_38 : decode c_M_join 38 = .ok (.aload_n 0, 1) := by decide +kernel
theorem d_M_join_39 : decode c_M_join 39 = .ok (.getfield 7, 3) := by decide +kernel
theorem d_M_join_42 : decode c_M_join 42 = .ok (.iload_n 3, 1) := by decide +kernel
theorem d_M_join_43 : decode c_M_join 43 = .ok (.iaload, 1) := by decide +kernel
theorem d_M_join_44 : decode c_M_join 44 = .ok (.ifCond .ne 7, 3) := by decide +kernel
theorem d_M_join_47 : decode c_M_join 47 = .ok (.iconst 1, 1) := by decide +kernel
theorem d_M_join_48 : decode c_M_join 48 = .ok (.goto 4, 3) := by decide +kernel
theorem d_M_join_51 : decode c_M_join 51 = .ok (.iconst 0, 1) := by decide +kernel
theorem d_M_join_52 : decode c_M_join 52 = .ok (.iadd, 1) := by decide +kernel
theorem d_M_join_53 : decode c_M_join 53 = .ok (.istore_n 2, 1) := by decide +kernel
theorem d_M_join_54 : decode c_M_join 54 = .ok (.iinc 3 1, 3) := by decide +kernel
theorem d_M_join_57 : decode c_M_join 57 = .ok (.goto (-33), 3) := by decide +kernel
theorem d_M_join_60 : decode c_M_join 60 = .ok (.iload_n 2, 1) := by decide +kernel
theorem d_M_join_61 : decode c_M_join 61 = .ok (.bipush 8, 2) := by decide +kernel
theorem d_M_join_63 : decode c_M_join 63 = .ok (.if_icmp .le 5, 3) := by decide +kernel
theorem d_M_join_66 : decode c_M_join 66 = .ok (.iconst 0, 1) := by decide +kernel
theorem d_M_join_67 : decode c_M_join 67 = .ok (.ireturn, 1) := by decide +kernel
theorem d_M_join_68 : decode c_M_join 68 = .ok (.aload_n 0, 1) := by decide +kernel
theorem d_M_join_69 : decode c_M_join 69 = .ok (.getfield 25, 3) := by decide +kernel
theorem d_M_join_72 : decode c_M_join 72 = .ok (.aload_n 0, 1) := by decide +kernel
theorem d_M_join_73 : decode c_M_join 73 = .ok (.getfield 112, 3) := by decide +kernel
theorem d_M_join_76 : decode c_M_join 76 = .ok (.iaload, 1) := by decide +kernel
theorem d_M_join_77 : decode c_M_join 77 = .ok (.istore_n 3, 1) := by decide +kernel
theorem d_M_join_78 : decode c_M_join 78 = .ok (.aload_n 0, 1) := by decide +kernel
theorem d_M_join_79 : decode c_M_join 79 = .ok (.getfield 7, 3) := by decide +kernel
theorem d_M_join_82 : decode c_M_join 82 = .ok (.iload_n 3, 1) := by decide +kernel
theorem d_M_join_83 : decode c_M_join 83 = .ok (.iload_n 1, 1) := by decide +kernel
theorem d_M_join_84 : decode c_M_join 84 = .ok (.ifCond .eq 7, 3) := by decide +kernel
theorem d_M_join_87 : decode c_M_join 87 = .ok (.iconst 1, 1) := by decide +kernel
theorem d_M_join_88 : decode c_M_join 88 = .ok (.goto 4, 3) := by decide +kernel
theorem d_M_join_91 : decode c_M_join 91 = .ok (.iconst 2, 1) := by decide +kernel
theorem d_M_join_92 : decode c_M_join 92 = .ok (.iastore, 1) := by decide +kernel
theorem d_M_join_93 : decode c_M_join 93 = .ok (.aload_n 0, 1) := by decide +kernel
theorem d_M_join_94 : decode c_M_join 94 = .ok (.dup, 1) := by decide +kernel
theorem d_M_join_95 : decode c_M_join 95 = .ok (.getfield 112, 3) := by decide +kernel
theorem d_M_join_98 : decode c_M_join 98 = .ok (.iconst 1, 1) := by decide +kernel
theorem d_M_join_99 : decode c_M_join 99 = .ok (.isub, 1) := by decide +kernel
theorem d_M_join_100 : decode c_M_join 100 = .ok (.putfield 112, 3) := by decide +kernel
theorem d_M_join_103 : decode c_M_join 103 = .ok (.aload_n 0, 1) := by decide +kernel
theorem d_M_join_104 : decode c_M_join 104 = .ok (.getfield 25, 3) := by decide +kernel
theorem d_M_join_107 : decode c_M_join 107 = .ok (.aload_n 0, 1) := by decide +kernel
theorem d_M_join_108 : decode c_M_join 108 = .ok (.getfield 112, 3) := by decide +kernel
theorem d_M_join_111 : decode c_M_join 111 = .ok (.iload_n 3, 1) := by decide +kernel
theorem d_M_join_112 : decode c_M_join 112 = .ok (.iconst 1, 1) := by decide +kernel
theorem d_M_join_113 : decode c_M_join 113 = .ok (.iadd, 1) := by decide +kernel
theorem d_M_join_114 : decode c_M_join 114 = .ok (.iastore, 1) := by decide +kernel
theorem d_M_join_115 : decode c_M_join 115 = .ok (.iconst 1, 1) := by decide +kernel
theorem d_M_join_116 : decode c_M_join 116 = .ok (.ireturn, 1) := by decide +kernel

section MN
variable {p : Program} {l : Launch} {e : Env} {R : Room} {s : State} {m : MethodId} {args : Array Value} {below : List Frame} {meth : Method} {c : Code} {H0 : Heap} {cells slots : Nat} {Q : State → Prop} {A : Nat → Prop} {D : va_G} {ca : Nat → ClassId} {am : Nat → Nat} {ar : Nat → Nat → Nat}
set_option maxHeartbeats 4000000 in
set_option maxRecDepth 100000 in
theorem join_loop (hx : p.tables.exec = Jvm.exec) (hb : c.code = c_M_join) (hml : c.maxLocals = 4) (hown : s.vm.findClass R_M = some m.cls) (hts : ∀ w ∈ zT, w.before args s = true) (hK : va_K D zC (zty ca) s) (hD : zD A 28 am) (all : Bool) {b0 : Nat} (ht : ar 0 0 ≤ 6) (he : ar 6 (ar 0 0) ≤ 90) (hkd : ∀ i, i < 90 → ar 1 i < 3) {H : Heap} {locs : List Loc} (hP : va_P D zC (zl 28 am (mct ca am (ar))) H) (kk : ∀ (ls : Array Slot), lv_has ls 4 [(2, .int (nI (cl (ar 1) (ar 6 (ar 0 0)) - cl (ar 1) b0))), (1, .int (zb all)), (0, .ref (am 0))] → W p l e R s m args below meth c H locs cells slots Q (F0 m 60 ls [])) : ∀ (j k : Nat), b0 ≤ k → k + j = ar 6 (ar 0 0) → ∀ (ls : Array Slot), lv_has ls 4 [(3, .int (nI k)), (2, .int (nI (cl (ar 1) k - cl (ar 1) b0))), (1, .int (zb all)), (0, .ref (am 0))] → W p l e R s m args below meth c H locs cells slots Q (F0 m 24 ls []) := by
  intro j
  induction j with
  | zero =>
    intro k hbk hk ls hl
    obtain rfl : k = ar 6 (ar 0 0) := by omega
    refine lv_iload_n hx hb d_M_join_24 rfl (lv_at hl 0 rfl) ?_
    refine lv_aload_n hx hb d_M_join_25 rfl (lv_at hl 3 rfl) ?_
    refine mm_get hx hb hts hown hK hP (index := 25) 5 (by decide) mf_M_25 (v := .ref (am 6)) rfl d_M_join_26 ?_
    refine lv_aload_n hx hb d_M_join_29 rfl (lv_at hl 3 rfl) ?_
    refine mm_get hx hb hts hown hK hP (index := 112) 27 (by decide) mf_M_112 (v := .int (nI (ar 0 0))) rfl d_M_join_30 ?_
    refine mm_ald hx hb hK hP 5 (by decide) rfl (ar 0 0) rfl (show ar 0 0 < 7 from by omega) (ar 6 (ar 0 0)) (rfl) d_M_join_33 ?_
    refine lv_icmp_ge (tgt := 60) hx hb d_M_join_34 rfl (fun h34 => ?_) (fun h34 => absurd (Int32.le_refl _) h34)
    have hl := lv_sub (l' := [(2, .int (nI (cl (ar 1) (ar 6 (ar 0 0)) - cl (ar 1) b0))), (1, .int (zb all)), (0, .ref (am 0))]) hl [1, 2, 3] rfl
    exact kk ls hl
  | succ j ih =>
    intro k hbk hk ls hl
    have hm := cl_mono (kd := ar 1) hbk
    have hk3 := hkd k (by omega)
    refine lv_iload_n hx hb d_M_join_24 rfl (lv_at hl 0 rfl) ?_
    refine lv_aload_n hx hb d_M_join_25 rfl (lv_at hl 3 rfl) ?_
    refine mm_get hx hb hts hown hK hP (index := 25) 5 (by decide) mf_M_25 (v := .ref (am 6)) rfl d_M_join_26 ?_
    refine lv_aload_n hx hb d_M_join_29 rfl (lv_at hl 3 rfl) ?_
    refine mm_get hx hb hts hown hK hP (index := 112) 27 (by decide) mf_M_112 (v := .int (nI (ar 0 0))) rfl d_M_join_30 ?_
    refine mm_ald hx hb hK hP 5 (by decide) rfl (ar 0 0) rfl (show ar 0 0 < 7 from by omega) (ar 6 (ar 0 0)) (rfl) d_M_join_33 ?_
    refine lv_icmp_ge (tgt := 60) hx hb d_M_join_34 rfl (fun h34 => absurd h34 (nI_ge (by omega) (by omega))) (fun h34 => ?_)
    refine lv_iload_n hx hb d_M_join_37 rfl (lv_at hl 1 rfl) ?_
    refine lv_aload_n hx hb d_M_join_38 rfl (lv_at hl 3 rfl) ?_
    refine mm_get hx hb hts hown hK hP (index := 7) 0 (by decide) mf_M_7 (v := .ref (am 1)) rfl d_M_join_39 ?_
    refine lv_iload_n hx hb d_M_join_42 rfl (lv_at hl 0 rfl) ?_
    refine mm_ald hx hb hK hP 0 (by decide) rfl (k) rfl (show k < 90 from by omega) (ar 1 k) (rfl) d_M_join_43 ?_
    refine lv_if_ne (tgt := 51) hx hb d_M_join_44 rfl (fun h44 => ?_) (fun h44 => ?_)
    · skip
      have e0 : ¬ ar 1 k = 0 := fun q => h44 (by rw [q]; rfl)
      have hq : cl (ar 1) (k + 1) - cl (ar 1) b0 = cl (ar 1) k - cl (ar 1) b0 + 0 := by rw [cl_join e0]; rfl
      refine lv_iconst (v := 0) hx hb d_M_join_51 rfl ?_
      refine lv_iadd hx hb d_M_join_52 ?_
      refine zz_as (y := nI ((cl (ar 1) k - cl (ar 1) b0) + 0)) (nI_add (cl (ar 1) k - cl (ar 1) b0) 0) ?_
      refine lv_istore_n (lv' := [(2, .int (nI ((cl (ar 1) k - cl (ar 1) b0) + 0))), (3, .int (nI k)), (1, .int (zb all)), (0, .ref (am 0))]) hx hb d_M_join_53 rfl hl (by decide) rfl (fun ls hl => ?_)
      refine lv_iinc (k := 1) (v := nI (k + 1)) (lv' := [(3, .int (nI (k + 1))), (2, .int (nI ((cl (ar 1) k - cl (ar 1) b0) + 0))), (1, .int (zb all)), (0, .ref (am 0))]) hx hb d_M_join_54 hl rfl (nI_1 _) (by decide) rfl (fun ls hl => ?_)
      refine lv_goto (tgt := 24) hx hb d_M_join_57 rfl ?_
      have hl : lv_has ls 4 [(3, .int (nI (k + 1))), (2, .int (nI (cl (ar 1) (k + 1) - cl (ar 1) b0))), (1, .int (zb all)), (0, .ref (am 0))] := by rw [hq]; exact hl
      have hl := lv_sub (l' := [(3, .int (nI (k + 1))), (2, .int (nI (cl (ar 1) (k + 1) - cl (ar 1) b0))), (1, .int (zb all)), (0, .ref (am 0))]) hl [0, 1, 2, 3] rfl
      exact ih (k + 1) (by omega) (by omega) ls hl
    · skip
      have e0 : ar 1 k = 0 := (zn_inj (by omega) (by decide)).mp h44
      have hq : cl (ar 1) (k + 1) - cl (ar 1) b0 = cl (ar 1) k - cl (ar 1) b0 + 1 := by rw [cl_leaf e0]; omega
      refine lv_iconst (v := 1) hx hb d_M_join_47 rfl ?_
      refine lv_goto (tgt := 52) hx hb d_M_join_48 rfl ?_
      refine lv_iadd hx hb d_M_join_52 ?_
      refine zz_as (y := nI ((cl (ar 1) k - cl (ar 1) b0) + 1)) (nI_add (cl (ar 1) k - cl (ar 1) b0) 1) ?_
      refine lv_istore_n (lv' := [(2, .int (nI ((cl (ar 1) k - cl (ar 1) b0) + 1))), (3, .int (nI k)), (1, .int (zb all)), (0, .ref (am 0))]) hx hb d_M_join_53 rfl hl (by decide) rfl (fun ls hl => ?_)
      refine lv_iinc (k := 1) (v := nI (k + 1)) (lv' := [(3, .int (nI (k + 1))), (2, .int (nI ((cl (ar 1) k - cl (ar 1) b0) + 1))), (1, .int (zb all)), (0, .ref (am 0))]) hx hb d_M_join_54 hl rfl (nI_1 _) (by decide) rfl (fun ls hl => ?_)
      refine lv_goto (tgt := 24) hx hb d_M_join_57 rfl ?_
      have hl : lv_has ls 4 [(3, .int (nI (k + 1))), (2, .int (nI (cl (ar 1) (k + 1) - cl (ar 1) b0))), (1, .int (zb all)), (0, .ref (am 0))] := by rw [hq]; exact hl
      have hl := lv_sub (l' := [(3, .int (nI (k + 1))), (2, .int (nI (cl (ar 1) (k + 1) - cl (ar 1) b0))), (1, .int (zb all)), (0, .ref (am 0))]) hl [0, 1, 2, 3] rfl
      exact ih (k + 1) (by omega) (by omega) ls hl
end MN

def jnB (ar : Nat → Nat → Nat) : Bool := decide (2 ≤ ar 0 0) && decide (cl (ar 1) (ar 6 (ar 0 0)) - cl (ar 1) (ar 6 (ar 0 0 - 2)) ≤ 8)
def jn (ar : Nat → Nat → Nat) (all : Bool) : Nat → Nat → Nat := zs (zs (zs ar 1 (ar 6 (ar 0 0)) (if all then 1 else 2)) 0 0 (ar 0 0 - 1)) 6 (ar 0 0 - 1) (ar 6 (ar 0 0) + 1)

theorem cl_le (kd : Nat → Nat) (n : Nat) : cl kd n ≤ n := by
  induction n with
  | zero => exact Nat.le_refl _
  | succ n ih => unfold cl; split <;> omega

set_option maxHeartbeats 4000000 in
set_option maxRecDepth 100000 in
/-- join(all) -/
theorem k_joinM (l : Launch) (D : va_G) (ca : Nat → ClassId) (am : Nat → Nat) (ar : Nat → Nat → Nat) (hI : mI am) (all : Bool) (ht : ar 0 0 ≤ 6) (hst : 2 ≤ ar 0 0 → ar 6 (ar 0 0 - 2) ≤ ar 6 (ar 0 0) ∧ ar 6 (ar 0 0) ≤ 90 ∧ (cl (ar 1) (ar 6 (ar 0 0)) - cl (ar 1) (ar 6 (ar 0 0 - 2)) ≤ 8 → ar 6 (ar 0 0) < 90)) (hkd : ∀ i, i < 90 → ar 1 i < 3) : Met l y_M_join (Cond.code y_M_join c_M_join 4 (some .boolean) :: zT) ({ frames := 1, cells := 0, slots := 0, locals := 40 }) (va_Pc [.ref (am 0), .int (zb all)] (mw D ca am ar)) (va_Qi (fun r ar1 => r = zb (jnB ar) ∧ ar1 = if jnB ar then jn ar all else ar) (mw D ca am) (mA am)) 0 0 (mA am) := by
  refine Met.ofW (cc := c_M_join) (maxL := 4) (ret := (some .boolean)) (by decide) rfl ?_
  intro p e s m args below meth c s₁ B hml hv
  obtain ⟨rfl, hK, hP⟩ := hv
  have hx := B.exec
  have hb := B.bytes
  have hr := B.returns
  have hts0 := atoms_spec (ws := Cond.code y_M_join c_M_join 4 (some .boolean) :: zT) B.pre
  have hts := fun w h => hts0 w (List.mem_cons_of_mem _ h)
  have hown : s.vm.findClass R_M = some m.cls := findClass_of_methodNamed B.named
  have hlocks := B.notSynchronized
  have hD := mI_D hI
  have hS : va_S (mA am) s.heap s.heap [] := va_S.rf
  have hAA : ∀ q, mA am q → mA am q := fun _ h => h
  have hl := lv_entry ([.ref (am 0), .int (zb all)]) (n := 4) (Nat.le_of_ble_eq_true rfl)
  rw [lg_entry_eq]
  generalize (lg_sl ([.ref (am 0), .int (zb all)]) ++ List.replicate (4 - (lg_sl ([.ref (am 0), .int (zb all)])).length) Slot.unset).toArray = ls at hl ⊢
  have hl : lv_has ls 4 [(0, .ref (am 0)), (1, .int (zb all))] := hl
  skip
  refine lv_aload_n hx hb d_M_join_0 rfl (lv_at hl 0 rfl) ?_
  refine mm_get hx hb hts hown hK hP (index := 112) 27 (by decide) mf_M_112 (v := .int (nI (ar 0 0))) rfl d_M_join_1 ?_
  refine lv_iconst (v := 2) hx hb d_M_join_4 rfl ?_
  refine lv_icmp_ge (tgt := 10) hx hb d_M_join_5 rfl (fun h5 => ?_) (fun h5 => ?_)
  · skip
    have z : 2 ≤ ar 0 0 := (nI_leI (a := 2) (by decide) (by omega)).mp h5
    obtain ⟨s1, s2, s3⟩ := hst z
    have hcl := cl_le (ar 1) (ar 6 (ar 0 0))
    refine lv_iconst (v := 0) hx hb d_M_join_10 rfl ?_
    refine lv_istore_n (lv' := [(2, .int 0), (0, .ref (am 0)), (1, .int (zb all))]) hx hb d_M_join_11 rfl hl (by decide) rfl (fun ls hl => ?_)
    refine lv_aload_n hx hb d_M_join_12 rfl (lv_at hl 1 rfl) ?_
    refine mm_get hx hb hts hown hK hP (index := 25) 5 (by decide) mf_M_25 (v := .ref (am 6)) rfl d_M_join_13 ?_
    refine lv_aload_n hx hb d_M_join_16 rfl (lv_at hl 1 rfl) ?_
    refine mm_get hx hb hts hown hK hP (index := 112) 27 (by decide) mf_M_112 (v := .int (nI (ar 0 0))) rfl d_M_join_17 ?_
    refine lv_iconst (v := 2) hx hb d_M_join_20 rfl ?_
    refine lv_isub hx hb d_M_join_21 ?_
    refine zz_as (y := nI ((ar 0 0) - 2)) (pk_sub (a := ar 0 0) (b := 2) (by omega)) ?_
    refine mm_ald hx hb hK hP 5 (by decide) rfl ((ar 0 0) - 2) rfl (show (ar 0 0) - 2 < 7 from by omega) (ar 6 ((ar 0 0) - 2)) (rfl) d_M_join_22 ?_
    refine lv_istore_n (lv' := [(3, .int (nI (ar 6 ((ar 0 0) - 2)))), (2, .int 0), (0, .ref (am 0)), (1, .int (zb all))]) hx hb d_M_join_23 rfl hl (by decide) rfl (fun ls hl => ?_)
    have hl : lv_has ls 4 [(3, .int (nI (ar 6 (ar 0 0 - 2)))), (2, .int (nI (cl (ar 1) (ar 6 (ar 0 0 - 2)) - cl (ar 1) (ar 6 (ar 0 0 - 2))))), (1, .int (zb all)), (0, .ref (am 0))] := by rw [Nat.sub_self]; exact lv_sub hl [0, 1, 3, 2] rfl
    refine join_loop hx hb hml hown hts hK hD all ht s2 hkd hP (fun ls hl => ?_) (ar 6 (ar 0 0) - ar 6 (ar 0 0 - 2)) _ (Nat.le_refl _) (by omega) ls hl
    refine lv_iload_n hx hb d_M_join_60 rfl (lv_at hl 0 rfl) ?_
    refine lv_bipush (v := 8) hx hb d_M_join_61 rfl ?_
    refine lv_icmp_le (tgt := 68) hx hb d_M_join_63 rfl (fun h63 => ?_) (fun h63 => ?_)
    · skip
      have y : cl (ar 1) (ar 6 (ar 0 0)) - cl (ar 1) (ar 6 (ar 0 0 - 2)) ≤ 8 := (nI_leI (b := 8) (by omega) (by decide)).mp h63
      have hq : jnB ar = true := by unfold jnB; rw [decide_eq_true z, decide_eq_true y]; rfl
      have s4 := s3 y
      refine lv_aload_n hx hb d_M_join_68 rfl (lv_at hl 2 rfl) ?_
      refine mm_get hx hb hts hown hK hP (index := 25) 5 (by decide) mf_M_25 (v := .ref (am 6)) rfl d_M_join_69 ?_
      refine lv_aload_n hx hb d_M_join_72 rfl (lv_at hl 2 rfl) ?_
      refine mm_get hx hb hts hown hK hP (index := 112) 27 (by decide) mf_M_112 (v := .int (nI (ar 0 0))) rfl d_M_join_73 ?_
      refine mm_ald hx hb hK hP 5 (by decide) rfl (ar 0 0) rfl (show ar 0 0 < 7 from by omega) (ar 6 (ar 0 0)) (rfl) d_M_join_76 ?_
      refine lv_istore_n (lv' := [(3, .int (nI (ar 6 (ar 0 0)))), (2, .int (nI (cl (ar 1) (ar 6 (ar 0 0)) - cl (ar 1) (ar 6 (ar 0 0 - 2))))), (1, .int (zb all)), (0, .ref (am 0))]) hx hb d_M_join_77 rfl hl (by decide) rfl (fun ls hl => ?_)
      refine lv_aload_n hx hb d_M_join_78 rfl (lv_at hl 3 rfl) ?_
      refine mm_get hx hb hts hown hK hP (index := 7) 0 (by decide) mf_M_7 (v := .ref (am 1)) rfl d_M_join_79 ?_
      refine lv_iload_n hx hb d_M_join_82 rfl (lv_at hl 0 rfl) ?_
      refine lv_iload_n hx hb d_M_join_83 rfl (lv_at hl 2 rfl) ?_
      refine lv_if_eq (tgt := 91) hx hb d_M_join_84 rfl (fun h84 => ?_) (fun h84 => ?_)
      · skip
        obtain rfl := zb_eq h84
        refine lv_iconst (v := 2) hx hb d_M_join_91 rfl ?_
        refine mm_ast hx hb hK hP hD hS 0 (by decide) rfl (ar 6 (ar 0 0)) rfl (show ar 6 (ar 0 0) < 90 from by omega) (2) (rfl) d_M_join_92 (fun H locs hP hS => ?_)
        refine lv_aload_n hx hb d_M_join_93 rfl (lv_at hl 3 rfl) ?_
        refine lv_dup hx hb d_M_join_94 rfl ?_
        refine mm_get hx hb hts hown hK hP (index := 112) 27 (by decide) mf_M_112 (v := .int (nI (ar 0 0))) rfl d_M_join_95 ?_
        refine lv_iconst (v := 1) hx hb d_M_join_98 rfl ?_
        refine lv_isub hx hb d_M_join_99 ?_
        refine zz_as (y := nI ((ar 0 0) - 1)) (pk_sub (a := ar 0 0) (b := 1) (by omega)) ?_
        refine mm_put hx hb hts hown hK hP hD hS (index := 112) 0 (by decide) mf_M_112 ((ar 0 0) - 1) (rfl) rfl rfl d_M_join_100 (fun H locs hP hS => ?_)
        refine lv_aload_n hx hb d_M_join_103 rfl (lv_at hl 3 rfl) ?_
        refine mm_get hx hb hts hown hK hP (index := 25) 5 (by decide) mf_M_25 (v := .ref (am 6)) rfl d_M_join_104 ?_
        refine lv_aload_n hx hb d_M_join_107 rfl (lv_at hl 3 rfl) ?_
        refine mm_get hx hb hts hown hK hP (index := 112) 27 (by decide) mf_M_112 (v := .int (nI ((ar 0 0) - 1))) rfl d_M_join_108 ?_
        refine lv_iload_n hx hb d_M_join_111 rfl (lv_at hl 0 rfl) ?_
        refine lv_iconst (v := 1) hx hb d_M_join_112 rfl ?_
        refine lv_iadd hx hb d_M_join_113 ?_
        refine zz_as (y := nI ((ar 6 (ar 0 0)) + 1)) (nI_add (ar 6 (ar 0 0)) 1) ?_
        refine mm_ast hx hb hK hP hD hS 5 (by decide) rfl ((ar 0 0) - 1) rfl (show (ar 0 0) - 1 < 7 from by omega) ((ar 6 (ar 0 0)) + 1) (rfl) d_M_join_114 (fun H locs hP hS => ?_)
        refine lv_iconst (v := 1) hx hb d_M_join_115 rfl ?_
        exact W.zret hx hb hr (rfl) (fun t ht hW => ⟨⟨_, zs (zs (zs ar 1 (ar 6 (ar 0 0)) 2) 0 0 ((ar 0 0) - 1)) 6 ((ar 0 0) - 1) ((ar 6 (ar 0 0)) + 1), rfl, ⟨by rw [hq]; rfl, by rw [hq]; rfl⟩, va_K.moved hW.alike hK, by rw [ht]; exact hP⟩, hS.F ht⟩) hS.2.2 d_M_join_116
      · skip
        obtain rfl := zb_ne h84
        refine lv_iconst (v := 1) hx hb d_M_join_87 rfl ?_
        refine lv_goto (tgt := 92) hx hb d_M_join_88 rfl ?_
        refine mm_ast hx hb hK hP hD hS 0 (by decide) rfl (ar 6 (ar 0 0)) rfl (show ar 6 (ar 0 0) < 90 from by omega) (1) (rfl) d_M_join_92 (fun H locs hP hS => ?_)
        refine lv_aload_n hx hb d_M_join_93 rfl (lv_at hl 3 rfl) ?_
        refine lv_dup hx hb d_M_join_94 rfl ?_
        refine mm_get hx hb hts hown hK hP (index := 112) 27 (by decide) mf_M_112 (v := .int (nI (ar 0 0))) rfl d_M_join_95 ?_
        refine lv_iconst (v := 1) hx hb d_M_join_98 rfl ?_
        refine lv_isub hx hb d_M_join_99 ?_
        refine zz_as (y := nI ((ar 0 0) - 1)) (pk_sub (a := ar 0 0) (b := 1) (by omega)) ?_
        refine mm_put hx hb hts hown hK hP hD hS (index := 112) 0 (by decide) mf_M_112 ((ar 0 0) - 1) (rfl) rfl rfl d_M_join_100 (fun H locs hP hS => ?_)
        refine lv_aload_n hx hb d_M_join_103 rfl (lv_at hl 3 rfl) ?_
        refine mm_get hx hb hts hown hK hP (index := 25) 5 (by decide) mf_M_25 (v := .ref (am 6)) rfl d_M_join_104 ?_
        refine lv_aload_n hx hb d_M_join_107 rfl (lv_at hl 3 rfl) ?_
        refine mm_get hx hb hts hown hK hP (index := 112) 27 (by decide) mf_M_112 (v := .int (nI ((ar 0 0) - 1))) rfl d_M_join_108 ?_
        refine lv_iload_n hx hb d_M_join_111 rfl (lv_at hl 0 rfl) ?_
        refine lv_iconst (v := 1) hx hb d_M_join_112 rfl ?_
        refine lv_iadd hx hb d_M_join_113 ?_
        refine zz_as (y := nI ((ar 6 (ar 0 0)) + 1)) (nI_add (ar 6 (ar 0 0)) 1) ?_
        refine mm_ast hx hb hK hP hD hS 5 (by decide) rfl ((ar 0 0) - 1) rfl (show (ar 0 0) - 1 < 7 from by omega) ((ar 6 (ar 0 0)) + 1) (rfl) d_M_join_114 (fun H locs hP hS => ?_)
        refine lv_iconst (v := 1) hx hb d_M_join_115 rfl ?_
        exact W.zret hx hb hr (rfl) (fun t ht hW => ⟨⟨_, zs (zs (zs ar 1 (ar 6 (ar 0 0)) 1) 0 0 ((ar 0 0) - 1)) 6 ((ar 0 0) - 1) ((ar 6 (ar 0 0)) + 1), rfl, ⟨by rw [hq]; rfl, by rw [hq]; rfl⟩, va_K.moved hW.alike hK, by rw [ht]; exact hP⟩, hS.F ht⟩) hS.2.2 d_M_join_116
    · skip
      have y : ¬ cl (ar 1) (ar 6 (ar 0 0)) - cl (ar 1) (ar 6 (ar 0 0 - 2)) ≤ 8 := fun q => h63 (nI_le q (by decide))
      have hq : jnB ar = false := by unfold jnB; rw [decide_eq_false y, Bool.and_false]
      refine lv_iconst (v := 0) hx hb d_M_join_66 rfl ?_
      exact W.zret hx hb hr (rfl) (fun t ht hW => ⟨⟨_, ar, rfl, ⟨by rw [hq]; rfl, by rw [hq]; rfl⟩, va_K.moved hW.alike hK, by rw [ht]; exact hP⟩, hS.F ht⟩) hS.2.2 d_M_join_67
  · skip
    have z : ¬ 2 ≤ ar 0 0 := fun q => h5 (nI_le q (by omega))
    have hq : jnB ar = false := by unfold jnB; rw [decide_eq_false z, Bool.false_and]
    refine lv_iconst (v := 0) hx hb d_M_join_8 rfl ?_
    exact W.zret hx hb hr (rfl) (fun t ht hW => ⟨⟨_, ar, rfl, ⟨by rw [hq]; rfl, by rw [hq]; rfl⟩, va_K.moved hW.alike hK, by rw [ht]; exact hP⟩, hS.F ht⟩) hS.2.2 d_M_join_9
