/-! the model's commitLeaf, commitOr -/
def cOr (ar : Nat → Nat → Nat) (k : Nat) (real : Bool) (c : Nat) : Nat → Nat → Nat := lat (lat (cmO k (real && decide (ar 27 (ar 8 k) = 1)) ar) (ar 9 k) (if real && !(real && decide (ar 27 (ar 8 k) = 1)) then 1 else 0) (if real then dv (dr (ar 0 5)) else ls5 c (dv (dr (ar 0 5))))) (ar 8 k) (if real && decide (ar 27 (ar 8 k) = 1) then 1 else 0) (dv (dr (ar 0 5)))

theorem d_M_commitLeaf_0 : decode c_M_commitLeaf 0 = .ok (.aload_n 0, 1) := by decide +kernel
theorem d_M_commitLeaf_1 : decode c_M_commitLeaf 1 = .ok (.invokevirtual 148, 3) := by decide +kernel
theorem d_M_commitLeaf_4 : decode c_M_commitLeaf 4 = .ok (.istore 4, 2) := by decide +kernel
theorem d_M_commitLeaf_6 : decode c_M_commitLeaf 6 = .ok (.aload_n 0, 1) := by decide +kernel
theorem d_M_commitLeaf_7 : decode c_M_commitLeaf 7 = .ok (.getfield 67, 3) := by decide +kernel
theorem d_M_commitLeaf_10 : decode c_M_commitLeaf 10 = .ok (.iload_n 1, 1) := by decide +kernel
theorem d_M_commitLeaf_11 : decode c_M_commitLeaf 11 = .ok (.iload 4, 2) := by decide +kernel
theorem d_M_commitLeaf_13 : decode c_M_commitLeaf 13 = .ok (.iastore, 1) := by decide +kernel
theorem d_M_commitLeaf_14 : decode c_M_commitLeaf 14 = .ok (.aload_n 0, 1) := by decide +kernel
theorem d_M_commitLeaf_15 : decode c_M_commitLeaf 15 = .ok (.getfield 52, 3) := by decide +kernel
theorem d_M_commitLeaf_18 : decode c_M_commitLeaf 18 = .ok (.iload_n 1, 1) := by decide +kernel
theorem d_M_commitLeaf_19 : decode c_M_commitLeaf 19 = .ok (.iload_n 2, 1) := by decide +kernel
theorem d_M_commitLeaf_20 : decode c_M_commitLeaf 20 = .ok (.ifCond .eq 7, 3) := by decide +kernel
theorem d_M_commitLeaf_23 : decode c_M_commitLeaf 23 = .ok (.iconst 0, 1) := by decide +kernel
theorem d_M_commitLeaf_24 : decode c_M_commitLeaf 24 = .ok (.goto 4, 3) := by decide +kernel
theorem d_M_commitLeaf_27 : decode c_M_commitLeaf 27 = .ok (.iload_n 3, 1) := by decide +kernel
theorem d_M_commitLeaf_28 : decode c_M_commitLeaf 28 = .ok (.iastore, 1) := by decide +kernel
theorem d_M_commitLeaf_29 : decode c_M_commitLeaf 29 = .ok (.aload_n 0, 1) := by decide +kernel
theorem d_M_commitLeaf_30 : decode c_M_commitLeaf 30 = .ok (.getfield 55, 3) := by decide +kernel
theorem d_M_commitLeaf_33 : decode c_M_commitLeaf 33 = .ok (.iload_n 1, 1) := by decide +kernel
theorem d_M_commitLeaf_34 : decode c_M_commitLeaf 34 = .ok (.iload_n 2, 1) := by decide +kernel
theorem d_M_commitLeaf_35 : decode c_M_commitLeaf 35 = .ok (.ifCond .eq 7, 3) := by decide +kernel
theorem d_M_commitLeaf_38 : decode c_M_commitLeaf 38 = .ok (.iconst 0, 1) := by decide +kernel
theorem d_M_commitLeaf_39 : decode c_M_commitLeaf 39 = .ok (.goto 5, 3) := by decide +kernel
theorem d_M_commitLeaf_42 : decode c_M_commitLeaf 42 = .ok (.iload 4, 2) := by decide +kernel
theorem d_M_commitLeaf_44 : decode c_M_commitLeaf 44 = .ok (.iastore, 1) := by decide +kernel
theorem d_M_commitLeaf_45 : decode c_M_commitLeaf 45 = .ok (.iconst 0, 1) := by decide +kernel
theorem d_M_commitLeaf_46 : decode c_M_commitLeaf 46 = .ok (.istore 5, 2) := by decide +kernel
theorem d_M_commitLeaf_48 : decode c_M_commitLeaf 48 = .ok (.iload 5, 2) := by decide +kernel
theorem d_M_commitLeaf_50 : decode c_M_commitLeaf 50 = .ok (.iconst 2, 1) := by decide +kernel
theorem d_M_commitLeaf_51 : decode c_M_commitLeaf 51 = .ok (.if_icmp .ge 87, 3) := by decide +kernel
theorem d_M_commitLeaf_54 : decode c_M_commitLeaf 54 = .ok (.aload_n 0, 1) := by decide +kernel
theorem d_M_commitLeaf_55 : decode c_M_commitLeaf 55 = .ok (.iload_n 1, 1) := by decide +kernel
theorem d_M_commitLeaf_56 : decode c_M_commitLeaf 56 = .ok (.iload 5, 2) := by decide +kernel
theorem d_M_commitLeaf_58 : decode c_M_commitLeaf 58 = .ok (.invokevirtual 138, 3) := by decide +kernel
theorem d_M_commitLeaf_61 : decode c_M_commitLeaf 61 = .ok (.ifCond .eq 71, 3) := by decide +kernel
theorem d_M_commitLeaf_64 : decode c_M_commitLeaf 64 = .ok (.iload_n 2, 1) := by decide +kernel
theorem d_M_commitLeaf_65 : decode c_M_commitLeaf 65 = .ok (.ifCond .eq 7, 3) := by decide +kernel
theorem d_M_commitLeaf_68 : decode c_M_commitLeaf 68 = .ok (.iconst 1, 1) := by decide +kernel
theorem d_M_commitLeaf_69 : decode c_M_commitLeaf 69 = .ok (.goto 26, 3) := by decide +kernel
theorem d_M_commitLeaf_72 : decode c_M_commitLeaf 72 = .ok (.aload_n 0, 1) := by decide +kernel
theorem d_M_commitLeaf_73 : decode c_M_commitLeaf 73 = .ok (.getfield 43, 3) := by decide +kernel
theorem d_M_commitLeaf_76 : decode c_M_commitLeaf 76 = .ok (.iconst 2, 1) := by decide +kernel
theorem d_M_commitLeaf_77 : decode c_M_commitLeaf 77 = .ok (.iload_n 1, 1) := by decide +kernel
theorem d_M_commitLeaf_78 : decode c_M_commitLeaf 78 = .ok (.imul, 1) := by decide +kernel
theorem d_M_commitLeaf_79 : decode c_M_commitLeaf 79 = .ok (.iload 5, 2) := by decide +kernel
theorem d_M_commitLeaf_81 : decode c_M_commitLeaf 81 = .ok (.iadd, 1) := by decide +kernel
theorem d_M_commitLeaf_82 : decode c_M_commitLeaf 82 = .ok (.iaload, 1) := by decide +kernel
theorem d_M_commitLeaf_83 : decode c_M_commitLeaf 83 = .ok (.sipush 5003, 3) := by decide +kernel
theorem d_M_commitLeaf_86 : decode c_M_commitLeaf 86 = .ok (.iload_n 3, 1) := by decide +kernel
theorem d_M_commitLeaf_87 : decode c_M_commitLeaf 87 = .ok (.isub, 1) := by decide +kernel
theorem d_M_commitLeaf_88 : decode c_M_commitLeaf 88 = .ok (.sipush 5003, 3) := by decide +kernel
theorem d_M_commitLeaf_91 : decode c_M_commitLeaf 91 = .ok (.irem, 1) := by decide +kernel
theorem d_M_commitLeaf_92 : decode c_M_commitLeaf 92 = .ok (.invokestatic 96, 3) := by decide +kernel
theorem d_M_commitLeaf_95 : decode c_M_commitLeaf 95 = .ok (.istore 6, 2) := by decide +kernel
theorem d_M_commitLeaf_97 : decode c_M_commitLeaf 97 = .ok (.aload_n 0, 1) := by decide +kernel
theorem d_M_commitLeaf_98 : decode c_M_commitLeaf 98 = .ok (.getfield 49, 3) := by decide +kernel
theorem d_M_commitLeaf_101 : decode c_M_commitLeaf 101 = .ok (.iconst 2, 1) := by decide +kernel
theorem d_M_commitLeaf_102 : decode c_M_commitLeaf 102 = .ok (.iload_n 1, 1) := by decide +kernel
theorem d_M_commitLeaf_103 : decode c_M_commitLeaf 103 = .ok (.imul, 1) := by decide +kernel
theorem d_M_commitLeaf_104 : decode c_M_commitLeaf 104 = .ok (.iload 5, 2) := by decide +kernel
theorem d_M_commitLeaf_106 : decode c_M_commitLeaf 106 = .ok (.iadd, 1) := by decide +kernel
theorem d_M_commitLeaf_107 : decode c_M_commitLeaf 107 = .ok (.aload_n 0, 1) := by decide +kernel
theorem d_M_commitLeaf_108 : decode c_M_commitLeaf 108 = .ok (.getfield 40, 3) := by decide +kernel
theorem d_M_commitLeaf_111 : decode c_M_commitLeaf 111 = .ok (.iconst 2, 1) := by decide +kernel
theorem d_M_commitLeaf_112 : decode c_M_commitLeaf 112 = .ok (.iload_n 1, 1) := by decide +kernel
theorem d_M_commitLeaf_113 : decode c_M_commitLeaf 113 = .ok (.imul, 1) := by decide +kernel
theorem d_M_commitLeaf_114 : decode c_M_commitLeaf 114 = .ok (.iload 5, 2) := by decide +kernel
theorem d_M_commitLeaf_116 : decode c_M_commitLeaf 116 = .ok (.iadd, 1) := by decide +kernel
theorem d_M_commitLeaf_117 : decode c_M_commitLeaf 117 = .ok (.iaload, 1) := by decide +kernel
theorem d_M_commitLeaf_118 : decode c_M_commitLeaf 118 = .ok (.iload 4, 2) := by decide +kernel
theorem d_M_commitLeaf_120 : decode c_M_commitLeaf 120 = .ok (.invokestatic 96, 3) := by decide +kernel
theorem d_M_commitLeaf_123 : decode c_M_commitLeaf 123 = .ok (.iload 6, 2) := by decide +kernel
theorem d_M_commitLeaf_125 : decode c_M_commitLeaf 125 = .ok (.sipush 10007, 3) := by decide +kernel
theorem d_M_commitLeaf_128 : decode c_M_commitLeaf 128 = .ok (.invokestatic 92, 3) := by decide +kernel
theorem d_M_commitLeaf_131 : decode c_M_commitLeaf 131 = .ok (.iastore, 1) := by decide +kernel
theorem d_M_commitLeaf_132 : decode c_M_commitLeaf 132 = .ok (.iinc 5 1, 3) := by decide +kernel
theorem d_M_commitLeaf_135 : decode c_M_commitLeaf 135 = .ok (.goto (-87), 3) := by decide +kernel
theorem d_M_commitLeaf_138 : decode c_M_commitLeaf 138 = .ok (.return_, 1) := by decide +kernel

set_option maxHeartbeats 4000000 in
set_option maxRecDepth 100000 in
/-- commitLeaf(n, real, c) -/
theorem k_commitLeafM (l : Launch) (D : va_G) (ca : Nat → ClassId) (am : Nat → Nat) (ar : Nat → Nat → Nat) (hI : mI am) (n : Nat) (real : Bool) (c0 : Nat) (hn : n < ar 0 2) (hl2 : ar 0 2 ≤ 8) (hc0 : c0 < 5003) (hbs : ∀ i, i < 16 → ar 11 i < 10007) (his : ∀ i, i < 16 → ar 12 i < 10007) : Met l y_M_commitLeaf (Cond.code y_M_commitLeaf c_M_commitLeaf 7 none :: zT) ({ frames := 4, cells := 0, slots := 0, locals := 160 }) (va_Pc [.ref (am 0), .int (nI n), .int (zb real), .int (nI c0)] (mw D ca am ar)) (va_Qv (fun ar1 => ar1 = cmL n real c0 ar) (mw D ca am) (mA am)) 0 0 (mA am) := by
  refine Met.ofW (cc := c_M_commitLeaf) (maxL := 7) (ret := none) (by decide) rfl ?_
  intro p e s m args below meth c s₁ B hml hv
  obtain ⟨rfl, hK, hP⟩ := hv
  have hx := B.exec
  have hb := B.bytes
  have hr := B.returns
  have hts0 := atoms_spec (ws := Cond.code y_M_commitLeaf c_M_commitLeaf 7 none :: zT) B.pre
  have hts := fun w h => hts0 w (List.mem_cons_of_mem _ h)
  have hown : s.vm.findClass R_M = some m.cls := findClass_of_methodNamed B.named
  have hlocks := B.notSynchronized
  have hD := mI_D hI
  have hS : va_S (mA am) s.heap s.heap [] := va_S.rf
  have hAA : ∀ q, mA am q → mA am q := fun _ h => h
  have hl := lv_entry ([.ref (am 0), .int (nI n), .int (zb real), .int (nI c0)]) (n := 7) (Nat.le_of_ble_eq_true rfl)
  rw [lg_entry_eq]
  generalize (lg_sl ([.ref (am 0), .int (nI n), .int (zb real), .int (nI c0)]) ++ List.replicate (7 - (lg_sl ([.ref (am 0), .int (nI n), .int (zb real), .int (nI c0)])).length) Slot.unset).toArray = ls at hl ⊢
  have hl : lv_has ls 7 [(0, .ref (am 0)), (1, .int (nI n)), (2, .int (zb real)), (3, .int (nI c0))] := hl
  skip
  cases real with
  | false =>
    refine lv_aload_n hx hb d_M_commitLeaf_0 rfl (lv_at hl 0 rfl) ?_
    refine mm_ci (index := 148) (n := 0) (As := []) (rest := []) ⟨hx, hb, hml, hown, hts⟩ (k_drawM l D ca am (ar) hI) mk_M_148 mo_M_draw me_M_M_draw_M mi_M mc_M_draw (by decide +kernel) ⟨rfl, rfl⟩ ⟨by decide, by decide⟩ hK hP hS hAA rfl hl.1 rfl (Nat.le_of_ble_eq_true rfl) d_M_commitLeaf_1 ⟨Nat.zero_le _, Nat.zero_le _⟩ (fun r ar1 H locs hpost hP hS => ?_)
    obtain ⟨hr1, har⟩ := hpost
    obtain ⟨d0, hd0⟩ : ∃ d, dr (ar 0 5) = d := ⟨_, rfl⟩
    rw [hd0] at hr1 har
    obtain ⟨x0, hx0⟩ : ∃ x, dv d0 = x := ⟨_, rfl⟩
    have hx1 : x0 < 5003 := by rw [← hx0]; exact dv_lt _
    rw [hx0] at hr1
    subst hr1 har
    refine lv_istore (lv' := [(4, .int (nI x0)), (0, .ref (am 0)), (1, .int (nI n)), (2, .int (zb false)), (3, .int (nI c0))]) hx hb d_M_commitLeaf_4 hl (by decide) rfl (fun ls hl => ?_)
    refine lv_aload_n hx hb d_M_commitLeaf_6 rfl (lv_at hl 1 rfl) ?_
    refine mm_get hx hb hts hown hK hP (index := 67) 19 (by decide) mf_M_67 (v := .ref (am 20)) rfl d_M_commitLeaf_7 ?_
    refine lv_iload_n hx hb d_M_commitLeaf_10 rfl (lv_at hl 2 rfl) ?_
    refine lv_iload hx hb d_M_commitLeaf_11 (lv_at hl 0 rfl) ?_
    refine mm_ast hx hb hK hP hD hS 19 (by decide) rfl (n) rfl (show n < 8 from by omega) (x0) (rfl) d_M_commitLeaf_13 (fun H locs hP hS => ?_)
    refine lv_aload_n hx hb d_M_commitLeaf_14 rfl (lv_at hl 1 rfl) ?_
    refine mm_get hx hb hts hown hK hP (index := 52) 14 (by decide) mf_M_52 (v := .ref (am 15)) rfl d_M_commitLeaf_15 ?_
    refine lv_iload_n hx hb d_M_commitLeaf_18 rfl (lv_at hl 2 rfl) ?_
    refine lv_iload_n hx hb d_M_commitLeaf_19 rfl (lv_at hl 3 rfl) ?_
    refine lv_if_eq (tgt := 27) hx hb d_M_commitLeaf_20 rfl (fun h20 => ?_) (fun h20 => absurd (rfl) h20)
    refine lv_iload_n hx hb d_M_commitLeaf_27 rfl (lv_at hl 4 rfl) ?_
    refine mm_ast hx hb hK hP hD hS 14 (by decide) rfl (n) rfl (show n < 8 from by omega) (c0) (rfl) d_M_commitLeaf_28 (fun H locs hP hS => ?_)
    refine lv_aload_n hx hb d_M_commitLeaf_29 rfl (lv_at hl 1 rfl) ?_
    refine mm_get hx hb hts hown hK hP (index := 55) 15 (by decide) mf_M_55 (v := .ref (am 16)) rfl d_M_commitLeaf_30 ?_
    refine lv_iload_n hx hb d_M_commitLeaf_33 rfl (lv_at hl 2 rfl) ?_
    refine lv_iload_n hx hb d_M_commitLeaf_34 rfl (lv_at hl 3 rfl) ?_
    refine lv_if_eq (tgt := 42) hx hb d_M_commitLeaf_35 rfl (fun h35 => ?_) (fun h35 => absurd (rfl) h35)
    refine lv_iload hx hb d_M_commitLeaf_42 (lv_at hl 0 rfl) ?_
    refine mm_ast hx hb hK hP hD hS 15 (by decide) rfl (n) rfl (show n < 8 from by omega) (x0) (rfl) d_M_commitLeaf_44 (fun H locs hP hS => ?_)
    refine lv_iconst (v := 0) hx hb d_M_commitLeaf_45 rfl ?_
    refine lv_istore (lv' := [(5, .int 0), (4, .int (nI x0)), (0, .ref (am 0)), (1, .int (nI n)), (2, .int (zb false)), (3, .int (nI c0))]) hx hb d_M_commitLeaf_46 hl (by decide) rfl (fun ls hl => ?_)
    have hl : lv_has ls 7 [(5, .int 0), (4, .int (nI x0)), (0, .ref (am 0)), (1, .int (nI n)), (2, .int (zb false)), (3, .int (nI c0))] := hl
    refine lv_iload hx hb d_M_commitLeaf_48 (lv_at hl 0 rfl) ?_
    refine lv_iconst (v := 2) hx hb d_M_commitLeaf_50 rfl ?_
    refine lv_icmp_ge (tgt := 138) hx hb d_M_commitLeaf_51 rfl (fun h51 => absurd h51 (by decide)) (fun h51 => ?_)
    refine lv_aload_n hx hb d_M_commitLeaf_54 rfl (lv_at hl 2 rfl) ?_
    refine lv_iload_n hx hb d_M_commitLeaf_55 rfl (lv_at hl 3 rfl) ?_
    refine lv_iload hx hb d_M_commitLeaf_56 (lv_at hl 0 rfl) ?_
    refine zz_cV (index := 138) (n := 2) (As := [.int (nI n), .int 0]) (rest := []) ⟨hx, hb, hml, hown, hts⟩ (k_isPairM l D ca am (zs (zs (zs (zs ar 0 5 d0) 20 n x0) 15 n c0) 16 n x0) n 0 (by omega) (by decide) hl2 hbs) mk_M_138 mo_M_isPair me_M_M_isPair_M mi_M mc_M_isPair (by decide +kernel) ⟨rfl, rfl⟩ ⟨by decide, by decide⟩ (mm_pre hK hP) rfl hl.1 rfl (Nat.le_of_ble_eq_true rfl) d_M_commitLeaf_58 ⟨Nat.zero_le _, Nat.zero_le _⟩ ?_
    refine lv_if_eq (tgt := 132) hx hb d_M_commitLeaf_61 rfl (fun h61 => ?_) (fun h61 => ?_)
    · skip
      have hp0 : ¬ 0 < ar 11 (2 * n + 0) := pairB_f hn (zb_eq (b := pairB ar n 0) h61)
      refine lv_iinc (k := 0) (v := nI (0 + 1)) (lv' := [(5, .int (nI (0 + 1))), (4, .int (nI x0)), (0, .ref (am 0)), (1, .int (nI n)), (2, .int (zb false)), (3, .int (nI c0))]) hx hb d_M_commitLeaf_132 hl rfl (nI_1 _) (by decide) rfl (fun ls hl => ?_)
      refine lv_goto (tgt := 48) hx hb d_M_commitLeaf_135 rfl ?_
      have hl : lv_has ls 7 [(5, .int 1), (4, .int (nI x0)), (0, .ref (am 0)), (1, .int (nI n)), (2, .int (zb false)), (3, .int (nI c0))] := hl
      refine lv_iload hx hb d_M_commitLeaf_48 (lv_at hl 0 rfl) ?_
      refine lv_iconst (v := 2) hx hb d_M_commitLeaf_50 rfl ?_
      refine lv_icmp_ge (tgt := 138) hx hb d_M_commitLeaf_51 rfl (fun h51 => absurd h51 (by decide)) (fun h51 => ?_)
      refine lv_aload_n hx hb d_M_commitLeaf_54 rfl (lv_at hl 2 rfl) ?_
      refine lv_iload_n hx hb d_M_commitLeaf_55 rfl (lv_at hl 3 rfl) ?_
      refine lv_iload hx hb d_M_commitLeaf_56 (lv_at hl 0 rfl) ?_
      refine zz_cV (index := 138) (n := 2) (As := [.int (nI n), .int 1]) (rest := []) ⟨hx, hb, hml, hown, hts⟩ (k_isPairM l D ca am (zs (zs (zs (zs ar 0 5 d0) 20 n x0) 15 n c0) 16 n x0) n 1 (by omega) (by decide) hl2 hbs) mk_M_138 mo_M_isPair me_M_M_isPair_M mi_M mc_M_isPair (by decide +kernel) ⟨rfl, rfl⟩ ⟨by decide, by decide⟩ (mm_pre hK hP) rfl hl.1 rfl (Nat.le_of_ble_eq_true rfl) d_M_commitLeaf_58 ⟨Nat.zero_le _, Nat.zero_le _⟩ ?_
      refine lv_if_eq (tgt := 132) hx hb d_M_commitLeaf_61 rfl (fun h61 => ?_) (fun h61 => ?_)
      · skip
        have hp1 : ¬ 0 < ar 11 (2 * n + 1) := pairB_f hn (zb_eq (b := pairB ar n 1) h61)
        refine lv_iinc (k := 0) (v := nI (1 + 1)) (lv' := [(5, .int (nI (1 + 1))), (4, .int (nI x0)), (0, .ref (am 0)), (1, .int (nI n)), (2, .int (zb false)), (3, .int (nI c0))]) hx hb d_M_commitLeaf_132 hl rfl (nI_1 _) (by decide) rfl (fun ls hl => ?_)
        refine lv_goto (tgt := 48) hx hb d_M_commitLeaf_135 rfl ?_
        have hl : lv_has ls 7 [(5, .int 2), (4, .int (nI x0)), (0, .ref (am 0)), (1, .int (nI n)), (2, .int (zb false)), (3, .int (nI c0))] := hl
        refine lv_iload hx hb d_M_commitLeaf_48 (lv_at hl 0 rfl) ?_
        refine lv_iconst (v := 2) hx hb d_M_commitLeaf_50 rfl ?_
        refine lv_icmp_ge (tgt := 138) hx hb d_M_commitLeaf_51 rfl (fun h51 => ?_) (fun h51 => absurd (by decide) h51)
        exact W.vret hx hb hr (fun t ht hW => ⟨⟨zs (zs (zs (zs ar 0 5 d0) 20 n x0) 15 n c0) 16 n x0, rfl, by simp only [cmL, cv, hd0, hx0, Nat.add_zero] at hp0 hp1 ⊢; simp only [if_neg hp0, if_neg hp1, if_true, if_false, Bool.false_eq_true], va_K.moved hW.alike hK, by rw [ht]; exact hP⟩, hS.F ht⟩) hS.2.2 d_M_commitLeaf_138
      · skip
        have hp1 : 0 < ar 11 (2 * n + 1) := (pairB_t (zb_ne (b := pairB ar n 1) h61)).2
        have hbp := hbs (2 * n + 1) (by omega)
        have hip := his (2 * n + 1) (by omega)
        refine lv_iload_n hx hb d_M_commitLeaf_64 rfl (lv_at hl 4 rfl) ?_
        refine lv_if_eq (tgt := 72) hx hb d_M_commitLeaf_65 rfl (fun h65 => ?_) (fun h65 => absurd (rfl) h65)
        refine lv_aload_n hx hb d_M_commitLeaf_72 rfl (lv_at hl 2 rfl) ?_
        refine mm_get hx hb hts hown hK hP (index := 43) 11 (by decide) mf_M_43 (v := .ref (am 12)) rfl d_M_commitLeaf_73 ?_
        refine lv_iconst (v := 2) hx hb d_M_commitLeaf_76 rfl ?_
        refine lv_iload_n hx hb d_M_commitLeaf_77 rfl (lv_at hl 3 rfl) ?_
        refine lv_imul hx hb d_M_commitLeaf_78 ?_
        refine zz_as (y := nI (2 * n)) (pk_mul 2 n) ?_
        refine lv_iload hx hb d_M_commitLeaf_79 (lv_at hl 0 rfl) ?_
        refine lv_iadd hx hb d_M_commitLeaf_81 ?_
        refine zz_as (y := nI ((2 * n) + 1)) (nI_add (2 * n) 1) ?_
        refine mm_ald hx hb hK hP 11 (by decide) rfl ((2 * n) + 1) rfl (show (2 * n) + 1 < 16 from by omega) (ar 12 ((2 * n) + 1)) (rfl) d_M_commitLeaf_82 ?_
        refine lv_sipush (v := 5003) hx hb d_M_commitLeaf_83 rfl ?_
        refine lv_iload_n hx hb d_M_commitLeaf_86 rfl (lv_at hl 5 rfl) ?_
        refine lv_isub hx hb d_M_commitLeaf_87 ?_
        refine zz_as (y := nI (5003 - c0)) (pk_sub (a := 5003) (b := c0) (by omega)) ?_
        refine lv_sipush (v := 5003) hx hb d_M_commitLeaf_88 rfl ?_
        refine lv_irem hx hb d_M_commitLeaf_91 (by decide) ?_
        refine zz_as (y := nI ((5003 - c0) % 5003)) (pk_rem (d := 5003) (by omega) (by decide) (by decide)) ?_
        refine zz_cS (index := 96) (n := 2) (As := [.int (nI (ar 12 (2 * n + 1))), .int (nI ((5003 - c0) % 5003))]) (rest := []) ⟨hx, hb, hml, hown, hts⟩ (k_raised l (ar 12 (2 * n + 1)) ((5003 - c0) % 5003) hip (Nat.lt_trans (Nat.mod_lt _ (by decide)) (by decide))) mk_M_96 ms_M_raised mi_M mc_M_raised (by decide +kernel) ⟨rfl, rfl⟩ ⟨by decide, by decide⟩ preEq rfl hl.1 rfl (Nat.le_of_ble_eq_true rfl) d_M_commitLeaf_92 ⟨Nat.zero_le _, Nat.zero_le _⟩ ?_
        refine lv_istore (lv' := [(6, .int (nI (ar 12 (2 * n + 1) ^ ((5003 - c0) % 5003) % 10007))), (5, .int 1), (4, .int (nI x0)), (0, .ref (am 0)), (1, .int (nI n)), (2, .int (zb false)), (3, .int (nI c0))]) hx hb d_M_commitLeaf_95 hl (by decide) rfl (fun ls hl => ?_)
        refine lv_aload_n hx hb d_M_commitLeaf_97 rfl (lv_at hl 3 rfl) ?_
        refine mm_get hx hb hts hown hK hP (index := 49) 13 (by decide) mf_M_49 (v := .ref (am 14)) rfl d_M_commitLeaf_98 ?_
        refine lv_iconst (v := 2) hx hb d_M_commitLeaf_101 rfl ?_
        refine lv_iload_n hx hb d_M_commitLeaf_102 rfl (lv_at hl 4 rfl) ?_
        refine lv_imul hx hb d_M_commitLeaf_103 ?_
        refine zz_as (y := nI (2 * n)) (pk_mul 2 n) ?_
        refine lv_iload hx hb d_M_commitLeaf_104 (lv_at hl 1 rfl) ?_
        refine lv_iadd hx hb d_M_commitLeaf_106 ?_
        refine zz_as (y := nI ((2 * n) + 1)) (nI_add (2 * n) 1) ?_
        refine lv_aload_n hx hb d_M_commitLeaf_107 rfl (lv_at hl 3 rfl) ?_
        refine mm_get hx hb hts hown hK hP (index := 40) 10 (by decide) mf_M_40 (v := .ref (am 11)) rfl d_M_commitLeaf_108 ?_
        refine lv_iconst (v := 2) hx hb d_M_commitLeaf_111 rfl ?_
        refine lv_iload_n hx hb d_M_commitLeaf_112 rfl (lv_at hl 4 rfl) ?_
        refine lv_imul hx hb d_M_commitLeaf_113 ?_
        refine zz_as (y := nI (2 * n)) (pk_mul 2 n) ?_
        refine lv_iload hx hb d_M_commitLeaf_114 (lv_at hl 1 rfl) ?_
        refine lv_iadd hx hb d_M_commitLeaf_116 ?_
        refine zz_as (y := nI ((2 * n) + 1)) (nI_add (2 * n) 1) ?_
        refine mm_ald hx hb hK hP 10 (by decide) rfl ((2 * n) + 1) rfl (show (2 * n) + 1 < 16 from by omega) (ar 11 ((2 * n) + 1)) (rfl) d_M_commitLeaf_117 ?_
        refine lv_iload hx hb d_M_commitLeaf_118 (lv_at hl 2 rfl) ?_
        refine zz_cS (index := 96) (n := 2) (As := [.int (nI (ar 11 (2 * n + 1))), .int (nI x0)]) (rest := [.int (nI ((2 * n) + 1)), .ref (am 14)]) ⟨hx, hb, hml, hown, hts⟩ (k_raised l (ar 11 (2 * n + 1)) x0 hbp (by omega)) mk_M_96 ms_M_raised mi_M mc_M_raised (by decide +kernel) ⟨rfl, rfl⟩ ⟨by decide, by decide⟩ preEq rfl hl.1 rfl (Nat.le_of_ble_eq_true rfl) d_M_commitLeaf_120 ⟨Nat.zero_le _, Nat.zero_le _⟩ ?_
        refine lv_iload hx hb d_M_commitLeaf_123 (lv_at hl 0 rfl) ?_
        refine lv_sipush (v := 10007) hx hb d_M_commitLeaf_125 rfl ?_
        refine zz_cS (index := 92) (n := 3) (As := [.int (nI (ar 11 (2 * n + 1) ^ x0 % 10007)), .int (nI (ar 12 (2 * n + 1) ^ ((5003 - c0) % 5003) % 10007)), .int 10007]) (rest := [.int (nI ((2 * n) + 1)), .ref (am 14)]) ⟨hx, hb, hml, hown, hts⟩ (k_times l (ar 11 (2 * n + 1) ^ x0 % 10007) (ar 12 (2 * n + 1) ^ ((5003 - c0) % 5003) % 10007) 10007 (Nat.lt_trans (Nat.mod_lt _ (by decide)) (by decide)) (Nat.lt_trans (Nat.mod_lt _ (by decide)) (by decide)) (by decide) (by decide)) mk_M_92 ms_M_times mi_M mc_M_times (by decide +kernel) ⟨rfl, rfl⟩ ⟨by decide, by decide⟩ preEq rfl hl.1 rfl (Nat.le_of_ble_eq_true rfl) d_M_commitLeaf_128 ⟨Nat.zero_le _, Nat.zero_le _⟩ ?_
        obtain ⟨v1, hv1⟩ : ∃ v, (ar 11 (2 * n + 1) ^ x0 % 10007) * (ar 12 (2 * n + 1) ^ ((5003 - c0) % 5003) % 10007) % 10007 = v := ⟨_, rfl⟩
        refine zz_as (y := nI v1) (congrArg nI hv1) ?_
        refine mm_ast hx hb hK hP hD hS 13 (by decide) rfl ((2 * n) + 1) rfl (show (2 * n) + 1 < 16 from by omega) (v1) (rfl) d_M_commitLeaf_131 (fun H locs hP hS => ?_)
        refine lv_iinc (k := 1) (v := nI (1 + 1)) (lv' := [(5, .int (nI (1 + 1))), (6, .int (nI (ar 12 (2 * n + 1) ^ ((5003 - c0) % 5003) % 10007))), (4, .int (nI x0)), (0, .ref (am 0)), (1, .int (nI n)), (2, .int (zb false)), (3, .int (nI c0))]) hx hb d_M_commitLeaf_132 hl rfl (nI_1 _) (by decide) rfl (fun ls hl => ?_)
        refine lv_goto (tgt := 48) hx hb d_M_commitLeaf_135 rfl ?_
        have hl : lv_has ls 7 [(5, .int 2), (6, .int (nI (ar 12 (2 * n + 1) ^ ((5003 - c0) % 5003) % 10007))), (4, .int (nI x0)), (0, .ref (am 0)), (1, .int (nI n)), (2, .int (zb false)), (3, .int (nI c0))] := hl
        refine lv_iload hx hb d_M_commitLeaf_48 (lv_at hl 0 rfl) ?_
        refine lv_iconst (v := 2) hx hb d_M_commitLeaf_50 rfl ?_
        refine lv_icmp_ge (tgt := 138) hx hb d_M_commitLeaf_51 rfl (fun h51 => ?_) (fun h51 => absurd (by decide) h51)
        exact W.vret hx hb hr (fun t ht hW => ⟨⟨zs (zs (zs (zs (zs ar 0 5 d0) 20 n x0) 15 n c0) 16 n x0) 14 ((2 * n) + 1) v1, rfl, by rw [← hv1]; simp only [cmL, cv, hd0, hx0, Nat.add_zero] at hp0 hp1 ⊢; simp only [if_neg hp0, if_pos hp1, if_true, if_false, Bool.false_eq_true], va_K.moved hW.alike hK, by rw [ht]; exact hP⟩, hS.F ht⟩) hS.2.2 d_M_commitLeaf_138
    · skip
      have hp0 : 0 < ar 11 (2 * n + 0) := (pairB_t (zb_ne (b := pairB ar n 0) h61)).2
      have hbp := hbs (2 * n + 0) (by omega)
      have hip := his (2 * n + 0) (by omega)
      refine lv_iload_n hx hb d_M_commitLeaf_64 rfl (lv_at hl 4 rfl) ?_
      refine lv_if_eq (tgt := 72) hx hb d_M_commitLeaf_65 rfl (fun h65 => ?_) (fun h65 => absurd (rfl) h65)
      refine lv_aload_n hx hb d_M_commitLeaf_72 rfl (lv_at hl 2 rfl) ?_
      refine mm_get hx hb hts hown hK hP (index := 43) 11 (by decide) mf_M_43 (v := .ref (am 12)) rfl d_M_commitLeaf_73 ?_
      refine lv_iconst (v := 2) hx hb d_M_commitLeaf_76 rfl ?_
      refine lv_iload_n hx hb d_M_commitLeaf_77 rfl (lv_at hl 3 rfl) ?_
      refine lv_imul hx hb d_M_commitLeaf_78 ?_
      refine zz_as (y := nI (2 * n)) (pk_mul 2 n) ?_
      refine lv_iload hx hb d_M_commitLeaf_79 (lv_at hl 0 rfl) ?_
      refine lv_iadd hx hb d_M_commitLeaf_81 ?_
      refine zz_as (y := nI ((2 * n) + 0)) (nI_add (2 * n) 0) ?_
      refine mm_ald hx hb hK hP 11 (by decide) rfl ((2 * n) + 0) rfl (show (2 * n) + 0 < 16 from by omega) (ar 12 ((2 * n) + 0)) (rfl) d_M_commitLeaf_82 ?_
      refine lv_sipush (v := 5003) hx hb d_M_commitLeaf_83 rfl ?_
      refine lv_iload_n hx hb d_M_commitLeaf_86 rfl (lv_at hl 5 rfl) ?_
      refine lv_isub hx hb d_M_commitLeaf_87 ?_
      refine zz_as (y := nI (5003 - c0)) (pk_sub (a := 5003) (b := c0) (by omega)) ?_
      refine lv_sipush (v := 5003) hx hb d_M_commitLeaf_88 rfl ?_
      refine lv_irem hx hb d_M_commitLeaf_91 (by decide) ?_
      refine zz_as (y := nI ((5003 - c0) % 5003)) (pk_rem (d := 5003) (by omega) (by decide) (by decide)) ?_
      refine zz_cS (index := 96) (n := 2) (As := [.int (nI (ar 12 (2 * n + 0))), .int (nI ((5003 - c0) % 5003))]) (rest := []) ⟨hx, hb, hml, hown, hts⟩ (k_raised l (ar 12 (2 * n + 0)) ((5003 - c0) % 5003) hip (Nat.lt_trans (Nat.mod_lt _ (by decide)) (by decide))) mk_M_96 ms_M_raised mi_M mc_M_raised (by decide +kernel) ⟨rfl, rfl⟩ ⟨by decide, by decide⟩ preEq rfl hl.1 rfl (Nat.le_of_ble_eq_true rfl) d_M_commitLeaf_92 ⟨Nat.zero_le _, Nat.zero_le _⟩ ?_
      refine lv_istore (lv' := [(6, .int (nI (ar 12 (2 * n + 0) ^ ((5003 - c0) % 5003) % 10007))), (5, .int 0), (4, .int (nI x0)), (0, .ref (am 0)), (1, .int (nI n)), (2, .int (zb false)), (3, .int (nI c0))]) hx hb d_M_commitLeaf_95 hl (by decide) rfl (fun ls hl => ?_)
      refine lv_aload_n hx hb d_M_commitLeaf_97 rfl (lv_at hl 3 rfl) ?_
      refine mm_get hx hb hts hown hK hP (index := 49) 13 (by decide) mf_M_49 (v := .ref (am 14)) rfl d_M_commitLeaf_98 ?_
      refine lv_iconst (v := 2) hx hb d_M_commitLeaf_101 rfl ?_
      refine lv_iload_n hx hb d_M_commitLeaf_102 rfl (lv_at hl 4 rfl) ?_
      refine lv_imul hx hb d_M_commitLeaf_103 ?_
      refine zz_as (y := nI (2 * n)) (pk_mul 2 n) ?_
      refine lv_iload hx hb d_M_commitLeaf_104 (lv_at hl 1 rfl) ?_
      refine lv_iadd hx hb d_M_commitLeaf_106 ?_
      refine zz_as (y := nI ((2 * n) + 0)) (nI_add (2 * n) 0) ?_
      refine lv_aload_n hx hb d_M_commitLeaf_107 rfl (lv_at hl 3 rfl) ?_
      refine mm_get hx hb hts hown hK hP (index := 40) 10 (by decide) mf_M_40 (v := .ref (am 11)) rfl d_M_commitLeaf_108 ?_
      refine lv_iconst (v := 2) hx hb d_M_commitLeaf_111 rfl ?_
      refine lv_iload_n hx hb d_M_commitLeaf_112 rfl (lv_at hl 4 rfl) ?_
      refine lv_imul hx hb d_M_commitLeaf_113 ?_
      refine zz_as (y := nI (2 * n)) (pk_mul 2 n) ?_
      refine lv_iload hx hb d_M_commitLeaf_114 (lv_at hl 1 rfl) ?_
      refine lv_iadd hx hb d_M_commitLeaf_116 ?_
      refine zz_as (y := nI ((2 * n) + 0)) (nI_add (2 * n) 0) ?_
      refine mm_ald hx hb hK hP 10 (by decide) rfl ((2 * n) + 0) rfl (show (2 * n) + 0 < 16 from by omega) (ar 11 ((2 * n) + 0)) (rfl) d_M_commitLeaf_117 ?_
      refine lv_iload hx hb d_M_commitLeaf_118 (lv_at hl 2 rfl) ?_
      refine zz_cS (index := 96) (n := 2) (As := [.int (nI (ar 11 (2 * n + 0))), .int (nI x0)]) (rest := [.int (nI ((2 * n) + 0)), .ref (am 14)]) ⟨hx, hb, hml, hown, hts⟩ (k_raised l (ar 11 (2 * n + 0)) x0 hbp (by omega)) mk_M_96 ms_M_raised mi_M mc_M_raised (by decide +kernel) ⟨rfl, rfl⟩ ⟨by decide, by decide⟩ preEq rfl hl.1 rfl (Nat.le_of_ble_eq_true rfl) d_M_commitLeaf_120 ⟨Nat.zero_le _, Nat.zero_le _⟩ ?_
      refine lv_iload hx hb d_M_commitLeaf_123 (lv_at hl 0 rfl) ?_
      refine lv_sipush (v := 10007) hx hb d_M_commitLeaf_125 rfl ?_
      refine zz_cS (index := 92) (n := 3) (As := [.int (nI (ar 11 (2 * n + 0) ^ x0 % 10007)), .int (nI (ar 12 (2 * n + 0) ^ ((5003 - c0) % 5003) % 10007)), .int 10007]) (rest := [.int (nI ((2 * n) + 0)), .ref (am 14)]) ⟨hx, hb, hml, hown, hts⟩ (k_times l (ar 11 (2 * n + 0) ^ x0 % 10007) (ar 12 (2 * n + 0) ^ ((5003 - c0) % 5003) % 10007) 10007 (Nat.lt_trans (Nat.mod_lt _ (by decide)) (by decide)) (Nat.lt_trans (Nat.mod_lt _ (by decide)) (by decide)) (by decide) (by decide)) mk_M_92 ms_M_times mi_M mc_M_times (by decide +kernel) ⟨rfl, rfl⟩ ⟨by decide, by decide⟩ preEq rfl hl.1 rfl (Nat.le_of_ble_eq_true rfl) d_M_commitLeaf_128 ⟨Nat.zero_le _, Nat.zero_le _⟩ ?_
      obtain ⟨v0, hv0⟩ : ∃ v, (ar 11 (2 * n + 0) ^ x0 % 10007) * (ar 12 (2 * n + 0) ^ ((5003 - c0) % 5003) % 10007) % 10007 = v := ⟨_, rfl⟩
      refine zz_as (y := nI v0) (congrArg nI hv0) ?_
      refine mm_ast hx hb hK hP hD hS 13 (by decide) rfl ((2 * n) + 0) rfl (show (2 * n) + 0 < 16 from by omega) (v0) (rfl) d_M_commitLeaf_131 (fun H locs hP hS => ?_)
      refine lv_iinc (k := 1) (v := nI (0 + 1)) (lv' := [(5, .int (nI (0 + 1))), (6, .int (nI (ar 12 (2 * n + 0) ^ ((5003 - c0) % 5003) % 10007))), (4, .int (nI x0)), (0, .ref (am 0)), (1, .int (nI n)), (2, .int (zb false)), (3, .int (nI c0))]) hx hb d_M_commitLeaf_132 hl rfl (nI_1 _) (by decide) rfl (fun ls hl => ?_)
      refine lv_goto (tgt := 48) hx hb d_M_commitLeaf_135 rfl ?_
      have hl : lv_has ls 7 [(5, .int 1), (6, .int (nI (ar 12 (2 * n + 0) ^ ((5003 - c0) % 5003) % 10007))), (4, .int (nI x0)), (0, .ref (am 0)), (1, .int (nI n)), (2, .int (zb false)), (3, .int (nI c0))] := hl
      refine lv_iload hx hb d_M_commitLeaf_48 (lv_at hl 0 rfl) ?_
      refine lv_iconst (v := 2) hx hb d_M_commitLeaf_50 rfl ?_
      refine lv_icmp_ge (tgt := 138) hx hb d_M_commitLeaf_51 rfl (fun h51 => absurd h51 (by decide)) (fun h51 => ?_)
      refine lv_aload_n hx hb d_M_commitLeaf_54 rfl (lv_at hl 3 rfl) ?_
      refine lv_iload_n hx hb d_M_commitLeaf_55 rfl (lv_at hl 4 rfl) ?_
      refine lv_iload hx hb d_M_commitLeaf_56 (lv_at hl 0 rfl) ?_
      refine zz_cV (index := 138) (n := 2) (As := [.int (nI n), .int 1]) (rest := []) ⟨hx, hb, hml, hown, hts⟩ (k_isPairM l D ca am (zs (zs (zs (zs (zs ar 0 5 d0) 20 n x0) 15 n c0) 16 n x0) 14 ((2 * n) + 0) v0) n 1 (by omega) (by decide) hl2 hbs) mk_M_138 mo_M_isPair me_M_M_isPair_M mi_M mc_M_isPair (by decide +kernel) ⟨rfl, rfl⟩ ⟨by decide, by decide⟩ (mm_pre hK hP) rfl hl.1 rfl (Nat.le_of_ble_eq_true rfl) d_M_commitLeaf_58 ⟨Nat.zero_le _, Nat.zero_le _⟩ ?_
      refine lv_if_eq (tgt := 132) hx hb d_M_commitLeaf_61 rfl (fun h61 => ?_) (fun h61 => ?_)
      · skip
        have hp1 : ¬ 0 < ar 11 (2 * n + 1) := pairB_f hn (zb_eq (b := pairB ar n 1) h61)
        refine lv_iinc (k := 0) (v := nI (1 + 1)) (lv' := [(5, .int (nI (1 + 1))), (6, .int (nI (ar 12 (2 * n + 0) ^ ((5003 - c0) % 5003) % 10007))), (4, .int (nI x0)), (0, .ref (am 0)), (1, .int (nI n)), (2, .int (zb false)), (3, .int (nI c0))]) hx hb d_M_commitLeaf_132 hl rfl (nI_1 _) (by decide) rfl (fun ls hl => ?_)
        refine lv_goto (tgt := 48) hx hb d_M_commitLeaf_135 rfl ?_
        have hl : lv_has ls 7 [(5, .int 2), (6, .int (nI (ar 12 (2 * n + 0) ^ ((5003 - c0) % 5003) % 10007))), (4, .int (nI x0)), (0, .ref (am 0)), (1, .int (nI n)), (2, .int (zb false)), (3, .int (nI c0))] := hl
        refine lv_iload hx hb d_M_commitLeaf_48 (lv_at hl 0 rfl) ?_
        refine lv_iconst (v := 2) hx hb d_M_commitLeaf_50 rfl ?_
        refine lv_icmp_ge (tgt := 138) hx hb d_M_commitLeaf_51 rfl (fun h51 => ?_) (fun h51 => absurd (by decide) h51)
        exact W.vret hx hb hr (fun t ht hW => ⟨⟨zs (zs (zs (zs (zs ar 0 5 d0) 20 n x0) 15 n c0) 16 n x0) 14 ((2 * n) + 0) v0, rfl, by rw [← hv0]; simp only [cmL, cv, hd0, hx0, Nat.add_zero] at hp0 hp1 ⊢; simp only [if_pos hp0, if_neg hp1, if_true, if_false, Bool.false_eq_true], va_K.moved hW.alike hK, by rw [ht]; exact hP⟩, hS.F ht⟩) hS.2.2 d_M_commitLeaf_138
      · skip
        have hp1 : 0 < ar 11 (2 * n + 1) := (pairB_t (zb_ne (b := pairB ar n 1) h61)).2
        have hbp := hbs (2 * n + 1) (by omega)
        have hip := his (2 * n + 1) (by omega)
        refine lv_iload_n hx hb d_M_commitLeaf_64 rfl (lv_at hl 5 rfl) ?_
        refine lv_if_eq (tgt := 72) hx hb d_M_commitLeaf_65 rfl (fun h65 => ?_) (fun h65 => absurd (rfl) h65)
        refine lv_aload_n hx hb d_M_commitLeaf_72 rfl (lv_at hl 3 rfl) ?_
        refine mm_get hx hb hts hown hK hP (index := 43) 11 (by decide) mf_M_43 (v := .ref (am 12)) rfl d_M_commitLeaf_73 ?_
        refine lv_iconst (v := 2) hx hb d_M_commitLeaf_76 rfl ?_
        refine lv_iload_n hx hb d_M_commitLeaf_77 rfl (lv_at hl 4 rfl) ?_
        refine lv_imul hx hb d_M_commitLeaf_78 ?_
        refine zz_as (y := nI (2 * n)) (pk_mul 2 n) ?_
        refine lv_iload hx hb d_M_commitLeaf_79 (lv_at hl 0 rfl) ?_
        refine lv_iadd hx hb d_M_commitLeaf_81 ?_
        refine zz_as (y := nI ((2 * n) + 1)) (nI_add (2 * n) 1) ?_
        refine mm_ald hx hb hK hP 11 (by decide) rfl ((2 * n) + 1) rfl (show (2 * n) + 1 < 16 from by omega) (ar 12 ((2 * n) + 1)) (rfl) d_M_commitLeaf_82 ?_
        refine lv_sipush (v := 5003) hx hb d_M_commitLeaf_83 rfl ?_
        refine lv_iload_n hx hb d_M_commitLeaf_86 rfl (lv_at hl 6 rfl) ?_
        refine lv_isub hx hb d_M_commitLeaf_87 ?_
        refine zz_as (y := nI (5003 - c0)) (pk_sub (a := 5003) (b := c0) (by omega)) ?_
        refine lv_sipush (v := 5003) hx hb d_M_commitLeaf_88 rfl ?_
        refine lv_irem hx hb d_M_commitLeaf_91 (by decide) ?_
        refine zz_as (y := nI ((5003 - c0) % 5003)) (pk_rem (d := 5003) (by omega) (by decide) (by decide)) ?_
        refine zz_cS (index := 96) (n := 2) (As := [.int (nI (ar 12 (2 * n + 1))), .int (nI ((5003 - c0) % 5003))]) (rest := []) ⟨hx, hb, hml, hown, hts⟩ (k_raised l (ar 12 (2 * n + 1)) ((5003 - c0) % 5003) hip (Nat.lt_trans (Nat.mod_lt _ (by decide)) (by decide))) mk_M_96 ms_M_raised mi_M mc_M_raised (by decide +kernel) ⟨rfl, rfl⟩ ⟨by decide, by decide⟩ preEq rfl hl.1 rfl (Nat.le_of_ble_eq_true rfl) d_M_commitLeaf_92 ⟨Nat.zero_le _, Nat.zero_le _⟩ ?_
        refine lv_istore (lv' := [(6, .int (nI (ar 12 (2 * n + 1) ^ ((5003 - c0) % 5003) % 10007))), (5, .int 1), (4, .int (nI x0)), (0, .ref (am 0)), (1, .int (nI n)), (2, .int (zb false)), (3, .int (nI c0))]) hx hb d_M_commitLeaf_95 hl (by decide) rfl (fun ls hl => ?_)
        refine lv_aload_n hx hb d_M_commitLeaf_97 rfl (lv_at hl 3 rfl) ?_
        refine mm_get hx hb hts hown hK hP (index := 49) 13 (by decide) mf_M_49 (v := .ref (am 14)) rfl d_M_commitLeaf_98 ?_
        refine lv_iconst (v := 2) hx hb d_M_commitLeaf_101 rfl ?_
        refine lv_iload_n hx hb d_M_commitLeaf_102 rfl (lv_at hl 4 rfl) ?_
        refine lv_imul hx hb d_M_commitLeaf_103 ?_
        refine zz_as (y := nI (2 * n)) (pk_mul 2 n) ?_
        refine lv_iload hx hb d_M_commitLeaf_104 (lv_at hl 1 rfl) ?_
        refine lv_iadd hx hb d_M_commitLeaf_106 ?_
        refine zz_as (y := nI ((2 * n) + 1)) (nI_add (2 * n) 1) ?_
        refine lv_aload_n hx hb d_M_commitLeaf_107 rfl (lv_at hl 3 rfl) ?_
        refine mm_get hx hb hts hown hK hP (index := 40) 10 (by decide) mf_M_40 (v := .ref (am 11)) rfl d_M_commitLeaf_108 ?_
        refine lv_iconst (v := 2) hx hb d_M_commitLeaf_111 rfl ?_
        refine lv_iload_n hx hb d_M_commitLeaf_112 rfl (lv_at hl 4 rfl) ?_
        refine lv_imul hx hb d_M_commitLeaf_113 ?_
        refine zz_as (y := nI (2 * n)) (pk_mul 2 n) ?_
        refine lv_iload hx hb d_M_commitLeaf_114 (lv_at hl 1 rfl) ?_
        refine lv_iadd hx hb d_M_commitLeaf_116 ?_
        refine zz_as (y := nI ((2 * n) + 1)) (nI_add (2 * n) 1) ?_
        refine mm_ald hx hb hK hP 10 (by decide) rfl ((2 * n) + 1) rfl (show (2 * n) + 1 < 16 from by omega) (ar 11 ((2 * n) + 1)) (rfl) d_M_commitLeaf_117 ?_
        refine lv_iload hx hb d_M_commitLeaf_118 (lv_at hl 2 rfl) ?_
        refine zz_cS (index := 96) (n := 2) (As := [.int (nI (ar 11 (2 * n + 1))), .int (nI x0)]) (rest := [.int (nI ((2 * n) + 1)), .ref (am 14)]) ⟨hx, hb, hml, hown, hts⟩ (k_raised l (ar 11 (2 * n + 1)) x0 hbp (by omega)) mk_M_96 ms_M_raised mi_M mc_M_raised (by decide +kernel) ⟨rfl, rfl⟩ ⟨by decide, by decide⟩ preEq rfl hl.1 rfl (Nat.le_of_ble_eq_true rfl) d_M_commitLeaf_120 ⟨Nat.zero_le _, Nat.zero_le _⟩ ?_
        refine lv_iload hx hb d_M_commitLeaf_123 (lv_at hl 0 rfl) ?_
        refine lv_sipush (v := 10007) hx hb d_M_commitLeaf_125 rfl ?_
        refine zz_cS (index := 92) (n := 3) (As := [.int (nI (ar 11 (2 * n + 1) ^ x0 % 10007)), .int (nI (ar 12 (2 * n + 1) ^ ((5003 - c0) % 5003) % 10007)), .int 10007]) (rest := [.int (nI ((2 * n) + 1)), .ref (am 14)]) ⟨hx, hb, hml, hown, hts⟩ (k_times l (ar 11 (2 * n + 1) ^ x0 % 10007) (ar 12 (2 * n + 1) ^ ((5003 - c0) % 5003) % 10007) 10007 (Nat.lt_trans (Nat.mod_lt _ (by decide)) (by decide)) (Nat.lt_trans (Nat.mod_lt _ (by decide)) (by decide)) (by decide) (by decide)) mk_M_92 ms_M_times mi_M mc_M_times (by decide +kernel) ⟨rfl, rfl⟩ ⟨by decide, by decide⟩ preEq rfl hl.1 rfl (Nat.le_of_ble_eq_true rfl) d_M_commitLeaf_128 ⟨Nat.zero_le _, Nat.zero_le _⟩ ?_
        obtain ⟨v1, hv1⟩ : ∃ v, (ar 11 (2 * n + 1) ^ x0 % 10007) * (ar 12 (2 * n + 1) ^ ((5003 - c0) % 5003) % 10007) % 10007 = v := ⟨_, rfl⟩
        refine zz_as (y := nI v1) (congrArg nI hv1) ?_
        refine mm_ast hx hb hK hP hD hS 13 (by decide) rfl ((2 * n) + 1) rfl (show (2 * n) + 1 < 16 from by omega) (v1) (rfl) d_M_commitLeaf_131 (fun H locs hP hS => ?_)
        refine lv_iinc (k := 1) (v := nI (1 + 1)) (lv' := [(5, .int (nI (1 + 1))), (6, .int (nI (ar 12 (2 * n + 1) ^ ((5003 - c0) % 5003) % 10007))), (4, .int (nI x0)), (0, .ref (am 0)), (1, .int (nI n)), (2, .int (zb false)), (3, .int (nI c0))]) hx hb d_M_commitLeaf_132 hl rfl (nI_1 _) (by decide) rfl (fun ls hl => ?_)
        refine lv_goto (tgt := 48) hx hb d_M_commitLeaf_135 rfl ?_
        have hl : lv_has ls 7 [(5, .int 2), (6, .int (nI (ar 12 (2 * n + 1) ^ ((5003 - c0) % 5003) % 10007))), (4, .int (nI x0)), (0, .ref (am 0)), (1, .int (nI n)), (2, .int (zb false)), (3, .int (nI c0))] := hl
        refine lv_iload hx hb d_M_commitLeaf_48 (lv_at hl 0 rfl) ?_
        refine lv_iconst (v := 2) hx hb d_M_commitLeaf_50 rfl ?_
        refine lv_icmp_ge (tgt := 138) hx hb d_M_commitLeaf_51 rfl (fun h51 => ?_) (fun h51 => absurd (by decide) h51)
        exact W.vret hx hb hr (fun t ht hW => ⟨⟨zs (zs (zs (zs (zs (zs ar 0 5 d0) 20 n x0) 15 n c0) 16 n x0) 14 ((2 * n) + 0) v0) 14 ((2 * n) + 1) v1, rfl, by rw [← hv1]; rw [← hv0]; simp only [cmL, cv, hd0, hx0, Nat.add_zero] at hp0 hp1 ⊢; simp only [if_pos hp0, if_pos hp1, if_true, if_false, Bool.false_eq_true], va_K.moved hW.alike hK, by rw [ht]; exact hP⟩, hS.F ht⟩) hS.2.2 d_M_commitLeaf_138
  | true =>
    refine lv_aload_n hx hb d_M_commitLeaf_0 rfl (lv_at hl 0 rfl) ?_
    refine mm_ci (index := 148) (n := 0) (As := []) (rest := []) ⟨hx, hb, hml, hown, hts⟩ (k_drawM l D ca am (ar) hI) mk_M_148 mo_M_draw me_M_M_draw_M mi_M mc_M_draw (by decide +kernel) ⟨rfl, rfl⟩ ⟨by decide, by decide⟩ hK hP hS hAA rfl hl.1 rfl (Nat.le_of_ble_eq_true rfl) d_M_commitLeaf_1 ⟨Nat.zero_le _, Nat.zero_le _⟩ (fun r ar1 H locs hpost hP hS => ?_)
    obtain ⟨hr1, har⟩ := hpost
    obtain ⟨d0, hd0⟩ : ∃ d, dr (ar 0 5) = d := ⟨_, rfl⟩
    rw [hd0] at hr1 har
    obtain ⟨x0, hx0⟩ : ∃ x, dv d0 = x := ⟨_, rfl⟩
    have hx1 : x0 < 5003 := by rw [← hx0]; exact dv_lt _
    rw [hx0] at hr1
    subst hr1 har
    refine lv_istore (lv' := [(4, .int (nI x0)), (0, .ref (am 0)), (1, .int (nI n)), (2, .int (zb true)), (3, .int (nI c0))]) hx hb d_M_commitLeaf_4 hl (by decide) rfl (fun ls hl => ?_)
    refine lv_aload_n hx hb d_M_commitLeaf_6 rfl (lv_at hl 1 rfl) ?_
    refine mm_get hx hb hts hown hK hP (index := 67) 19 (by decide) mf_M_67 (v := .ref (am 20)) rfl d_M_commitLeaf_7 ?_
    refine lv_iload_n hx hb d_M_commitLeaf_10 rfl (lv_at hl 2 rfl) ?_
    refine lv_iload hx hb d_M_commitLeaf_11 (lv_at hl 0 rfl) ?_
    refine mm_ast hx hb hK hP hD hS 19 (by decide) rfl (n) rfl (show n < 8 from by omega) (x0) (rfl) d_M_commitLeaf_13 (fun H locs hP hS => ?_)
    refine lv_aload_n hx hb d_M_commitLeaf_14 rfl (lv_at hl 1 rfl) ?_
    refine mm_get hx hb hts hown hK hP (index := 52) 14 (by decide) mf_M_52 (v := .ref (am 15)) rfl d_M_commitLeaf_15 ?_
    refine lv_iload_n hx hb d_M_commitLeaf_18 rfl (lv_at hl 2 rfl) ?_
    refine lv_iload_n hx hb d_M_commitLeaf_19 rfl (lv_at hl 3 rfl) ?_
    refine lv_if_eq (tgt := 27) hx hb d_M_commitLeaf_20 rfl (fun h20 => absurd h20 (by decide)) (fun h20 => ?_)
    refine lv_iconst (v := 0) hx hb d_M_commitLeaf_23 rfl ?_
    refine lv_goto (tgt := 28) hx hb d_M_commitLeaf_24 rfl ?_
    refine mm_ast hx hb hK hP hD hS 14 (by decide) rfl (n) rfl (show n < 8 from by omega) (0) (rfl) d_M_commitLeaf_28 (fun H locs hP hS => ?_)
    refine lv_aload_n hx hb d_M_commitLeaf_29 rfl (lv_at hl 1 rfl) ?_
    refine mm_get hx hb hts hown hK hP (index := 55) 15 (by decide) mf_M_55 (v := .ref (am 16)) rfl d_M_commitLeaf_30 ?_
    refine lv_iload_n hx hb d_M_commitLeaf_33 rfl (lv_at hl 2 rfl) ?_
    refine lv_iload_n hx hb d_M_commitLeaf_34 rfl (lv_at hl 3 rfl) ?_
    refine lv_if_eq (tgt := 42) hx hb d_M_commitLeaf_35 rfl (fun h35 => absurd h35 (by decide)) (fun h35 => ?_)
    refine lv_iconst (v := 0) hx hb d_M_commitLeaf_38 rfl ?_
    refine lv_goto (tgt := 44) hx hb d_M_commitLeaf_39 rfl ?_
    refine mm_ast hx hb hK hP hD hS 15 (by decide) rfl (n) rfl (show n < 8 from by omega) (0) (rfl) d_M_commitLeaf_44 (fun H locs hP hS => ?_)
    refine lv_iconst (v := 0) hx hb d_M_commitLeaf_45 rfl ?_
    refine lv_istore (lv' := [(5, .int 0), (4, .int (nI x0)), (0, .ref (am 0)), (1, .int (nI n)), (2, .int (zb true)), (3, .int (nI c0))]) hx hb d_M_commitLeaf_46 hl (by decide) rfl (fun ls hl => ?_)
    have hl : lv_has ls 7 [(5, .int 0), (4, .int (nI x0)), (0, .ref (am 0)), (1, .int (nI n)), (2, .int (zb true)), (3, .int (nI c0))] := hl
    refine lv_iload hx hb d_M_commitLeaf_48 (lv_at hl 0 rfl) ?_
    refine lv_iconst (v := 2) hx hb d_M_commitLeaf_50 rfl ?_
    refine lv_icmp_ge (tgt := 138) hx hb d_M_commitLeaf_51 rfl (fun h51 => absurd h51 (by decide)) (fun h51 => ?_)
    refine lv_aload_n hx hb d_M_commitLeaf_54 rfl (lv_at hl 2 rfl) ?_
    refine lv_iload_n hx hb d_M_commitLeaf_55 rfl (lv_at hl 3 rfl) ?_
    refine lv_iload hx hb d_M_commitLeaf_56 (lv_at hl 0 rfl) ?_
    refine zz_cV (index := 138) (n := 2) (As := [.int (nI n), .int 0]) (rest := []) ⟨hx, hb, hml, hown, hts⟩ (k_isPairM l D ca am (zs (zs (zs (zs ar 0 5 d0) 20 n x0) 15 n 0) 16 n 0) n 0 (by omega) (by decide) hl2 hbs) mk_M_138 mo_M_isPair me_M_M_isPair_M mi_M mc_M_isPair (by decide +kernel) ⟨rfl, rfl⟩ ⟨by decide, by decide⟩ (mm_pre hK hP) rfl hl.1 rfl (Nat.le_of_ble_eq_true rfl) d_M_commitLeaf_58 ⟨Nat.zero_le _, Nat.zero_le _⟩ ?_
    refine lv_if_eq (tgt := 132) hx hb d_M_commitLeaf_61 rfl (fun h61 => ?_) (fun h61 => ?_)
    · skip
      have hp0 : ¬ 0 < ar 11 (2 * n + 0) := pairB_f hn (zb_eq (b := pairB ar n 0) h61)
      refine lv_iinc (k := 0) (v := nI (0 + 1)) (lv' := [(5, .int (nI (0 + 1))), (4, .int (nI x0)), (0, .ref (am 0)), (1, .int (nI n)), (2, .int (zb true)), (3, .int (nI c0))]) hx hb d_M_commitLeaf_132 hl rfl (nI_1 _) (by decide) rfl (fun ls hl => ?_)
      refine lv_goto (tgt := 48) hx hb d_M_commitLeaf_135 rfl ?_
      have hl : lv_has ls 7 [(5, .int 1), (4, .int (nI x0)), (0, .ref (am 0)), (1, .int (nI n)), (2, .int (zb true)), (3, .int (nI c0))] := hl
      refine lv_iload hx hb d_M_commitLeaf_48 (lv_at hl 0 rfl) ?_
      refine lv_iconst (v := 2) hx hb d_M_commitLeaf_50 rfl ?_
      refine lv_icmp_ge (tgt := 138) hx hb d_M_commitLeaf_51 rfl (fun h51 => absurd h51 (by decide)) (fun h51 => ?_)
      refine lv_aload_n hx hb d_M_commitLeaf_54 rfl (lv_at hl 2 rfl) ?_
      refine lv_iload_n hx hb d_M_commitLeaf_55 rfl (lv_at hl 3 rfl) ?_
      refine lv_iload hx hb d_M_commitLeaf_56 (lv_at hl 0 rfl) ?_
      refine zz_cV (index := 138) (n := 2) (As := [.int (nI n), .int 1]) (rest := []) ⟨hx, hb, hml, hown, hts⟩ (k_isPairM l D ca am (zs (zs (zs (zs ar 0 5 d0) 20 n x0) 15 n 0) 16 n 0) n 1 (by omega) (by decide) hl2 hbs) mk_M_138 mo_M_isPair me_M_M_isPair_M mi_M mc_M_isPair (by decide +kernel) ⟨rfl, rfl⟩ ⟨by decide, by decide⟩ (mm_pre hK hP) rfl hl.1 rfl (Nat.le_of_ble_eq_true rfl) d_M_commitLeaf_58 ⟨Nat.zero_le _, Nat.zero_le _⟩ ?_
      refine lv_if_eq (tgt := 132) hx hb d_M_commitLeaf_61 rfl (fun h61 => ?_) (fun h61 => ?_)
      · skip
        have hp1 : ¬ 0 < ar 11 (2 * n + 1) := pairB_f hn (zb_eq (b := pairB ar n 1) h61)
        refine lv_iinc (k := 0) (v := nI (1 + 1)) (lv' := [(5, .int (nI (1 + 1))), (4, .int (nI x0)), (0, .ref (am 0)), (1, .int (nI n)), (2, .int (zb true)), (3, .int (nI c0))]) hx hb d_M_commitLeaf_132 hl rfl (nI_1 _) (by decide) rfl (fun ls hl => ?_)
        refine lv_goto (tgt := 48) hx hb d_M_commitLeaf_135 rfl ?_
        have hl : lv_has ls 7 [(5, .int 2), (4, .int (nI x0)), (0, .ref (am 0)), (1, .int (nI n)), (2, .int (zb true)), (3, .int (nI c0))] := hl
        refine lv_iload hx hb d_M_commitLeaf_48 (lv_at hl 0 rfl) ?_
        refine lv_iconst (v := 2) hx hb d_M_commitLeaf_50 rfl ?_
        refine lv_icmp_ge (tgt := 138) hx hb d_M_commitLeaf_51 rfl (fun h51 => ?_) (fun h51 => absurd (by decide) h51)
        exact W.vret hx hb hr (fun t ht hW => ⟨⟨zs (zs (zs (zs ar 0 5 d0) 20 n x0) 15 n 0) 16 n 0, rfl, by simp only [cmL, cv, hd0, hx0, Nat.add_zero] at hp0 hp1 ⊢; simp only [if_neg hp0, if_neg hp1, if_true, if_false, Bool.false_eq_true], va_K.moved hW.alike hK, by rw [ht]; exact hP⟩, hS.F ht⟩) hS.2.2 d_M_commitLeaf_138
      · skip
        have hp1 : 0 < ar 11 (2 * n + 1) := (pairB_t (zb_ne (b := pairB ar n 1) h61)).2
        have hbp := hbs (2 * n + 1) (by omega)
        have hip := his (2 * n + 1) (by omega)
        refine lv_iload_n hx hb d_M_commitLeaf_64 rfl (lv_at hl 4 rfl) ?_
        refine lv_if_eq (tgt := 72) hx hb d_M_commitLeaf_65 rfl (fun h65 => absurd h65 (by decide)) (fun h65 => ?_)
        refine lv_iconst (v := 1) hx hb d_M_commitLeaf_68 rfl ?_
        refine lv_goto (tgt := 95) hx hb d_M_commitLeaf_69 rfl ?_
        refine lv_istore (lv' := [(6, .int 1), (5, .int 1), (4, .int (nI x0)), (0, .ref (am 0)), (1, .int (nI n)), (2, .int (zb true)), (3, .int (nI c0))]) hx hb d_M_commitLeaf_95 hl (by decide) rfl (fun ls hl => ?_)
        refine lv_aload_n hx hb d_M_commitLeaf_97 rfl (lv_at hl 3 rfl) ?_
        refine mm_get hx hb hts hown hK hP (index := 49) 13 (by decide) mf_M_49 (v := .ref (am 14)) rfl d_M_commitLeaf_98 ?_
        refine lv_iconst (v := 2) hx hb d_M_commitLeaf_101 rfl ?_
        refine lv_iload_n hx hb d_M_commitLeaf_102 rfl (lv_at hl 4 rfl) ?_
        refine lv_imul hx hb d_M_commitLeaf_103 ?_
        refine zz_as (y := nI (2 * n)) (pk_mul 2 n) ?_
        refine lv_iload hx hb d_M_commitLeaf_104 (lv_at hl 1 rfl) ?_
        refine lv_iadd hx hb d_M_commitLeaf_106 ?_
        refine zz_as (y := nI ((2 * n) + 1)) (nI_add (2 * n) 1) ?_
        refine lv_aload_n hx hb d_M_commitLeaf_107 rfl (lv_at hl 3 rfl) ?_
        refine mm_get hx hb hts hown hK hP (index := 40) 10 (by decide) mf_M_40 (v := .ref (am 11)) rfl d_M_commitLeaf_108 ?_
        refine lv_iconst (v := 2) hx hb d_M_commitLeaf_111 rfl ?_
        refine lv_iload_n hx hb d_M_commitLeaf_112 rfl (lv_at hl 4 rfl) ?_
        refine lv_imul hx hb d_M_commitLeaf_113 ?_
        refine zz_as (y := nI (2 * n)) (pk_mul 2 n) ?_
        refine lv_iload hx hb d_M_commitLeaf_114 (lv_at hl 1 rfl) ?_
        refine lv_iadd hx hb d_M_commitLeaf_116 ?_
        refine zz_as (y := nI ((2 * n) + 1)) (nI_add (2 * n) 1) ?_
        refine mm_ald hx hb hK hP 10 (by decide) rfl ((2 * n) + 1) rfl (show (2 * n) + 1 < 16 from by omega) (ar 11 ((2 * n) + 1)) (rfl) d_M_commitLeaf_117 ?_
        refine lv_iload hx hb d_M_commitLeaf_118 (lv_at hl 2 rfl) ?_
        refine zz_cS (index := 96) (n := 2) (As := [.int (nI (ar 11 (2 * n + 1))), .int (nI x0)]) (rest := [.int (nI ((2 * n) + 1)), .ref (am 14)]) ⟨hx, hb, hml, hown, hts⟩ (k_raised l (ar 11 (2 * n + 1)) x0 hbp (by omega)) mk_M_96 ms_M_raised mi_M mc_M_raised (by decide +kernel) ⟨rfl, rfl⟩ ⟨by decide, by decide⟩ preEq rfl hl.1 rfl (Nat.le_of_ble_eq_true rfl) d_M_commitLeaf_120 ⟨Nat.zero_le _, Nat.zero_le _⟩ ?_
        refine lv_iload hx hb d_M_commitLeaf_123 (lv_at hl 0 rfl) ?_
        refine lv_sipush (v := 10007) hx hb d_M_commitLeaf_125 rfl ?_
        refine zz_cS (index := 92) (n := 3) (As := [.int (nI (ar 11 (2 * n + 1) ^ x0 % 10007)), .int 1, .int 10007]) (rest := [.int (nI ((2 * n) + 1)), .ref (am 14)]) ⟨hx, hb, hml, hown, hts⟩ (k_times l (ar 11 (2 * n + 1) ^ x0 % 10007) (1) 10007 (Nat.lt_trans (Nat.mod_lt _ (by decide)) (by decide)) (by decide) (by decide) (by decide)) mk_M_92 ms_M_times mi_M mc_M_times (by decide +kernel) ⟨rfl, rfl⟩ ⟨by decide, by decide⟩ preEq rfl hl.1 rfl (Nat.le_of_ble_eq_true rfl) d_M_commitLeaf_128 ⟨Nat.zero_le _, Nat.zero_le _⟩ ?_
        obtain ⟨v1, hv1⟩ : ∃ v, (ar 11 (2 * n + 1) ^ x0 % 10007) * 1 % 10007 = v := ⟨_, rfl⟩
        refine zz_as (y := nI v1) (congrArg nI hv1) ?_
        refine mm_ast hx hb hK hP hD hS 13 (by decide) rfl ((2 * n) + 1) rfl (show (2 * n) + 1 < 16 from by omega) (v1) (rfl) d_M_commitLeaf_131 (fun H locs hP hS => ?_)
        refine lv_iinc (k := 1) (v := nI (1 + 1)) (lv' := [(5, .int (nI (1 + 1))), (6, .int 1), (4, .int (nI x0)), (0, .ref (am 0)), (1, .int (nI n)), (2, .int (zb true)), (3, .int (nI c0))]) hx hb d_M_commitLeaf_132 hl rfl (nI_1 _) (by decide) rfl (fun ls hl => ?_)
        refine lv_goto (tgt := 48) hx hb d_M_commitLeaf_135 rfl ?_
        have hl : lv_has ls 7 [(5, .int 2), (6, .int 1), (4, .int (nI x0)), (0, .ref (am 0)), (1, .int (nI n)), (2, .int (zb true)), (3, .int (nI c0))] := hl
        refine lv_iload hx hb d_M_commitLeaf_48 (lv_at hl 0 rfl) ?_
        refine lv_iconst (v := 2) hx hb d_M_commitLeaf_50 rfl ?_
        refine lv_icmp_ge (tgt := 138) hx hb d_M_commitLeaf_51 rfl (fun h51 => ?_) (fun h51 => absurd (by decide) h51)
        exact W.vret hx hb hr (fun t ht hW => ⟨⟨zs (zs (zs (zs (zs ar 0 5 d0) 20 n x0) 15 n 0) 16 n 0) 14 ((2 * n) + 1) v1, rfl, by rw [← hv1]; simp only [cmL, cv, hd0, hx0, Nat.add_zero] at hp0 hp1 ⊢; simp only [if_neg hp0, if_pos hp1, if_true, if_false, Bool.false_eq_true], va_K.moved hW.alike hK, by rw [ht]; exact hP⟩, hS.F ht⟩) hS.2.2 d_M_commitLeaf_138
    · skip
      have hp0 : 0 < ar 11 (2 * n + 0) := (pairB_t (zb_ne (b := pairB ar n 0) h61)).2
      have hbp := hbs (2 * n + 0) (by omega)
      have hip := his (2 * n + 0) (by omega)
      refine lv_iload_n hx hb d_M_commitLeaf_64 rfl (lv_at hl 4 rfl) ?_
      refine lv_if_eq (tgt := 72) hx hb d_M_commitLeaf_65 rfl (fun h65 => absurd h65 (by decide)) (fun h65 => ?_)
      refine lv_iconst (v := 1) hx hb d_M_commitLeaf_68 rfl ?_
      refine lv_goto (tgt := 95) hx hb d_M_commitLeaf_69 rfl ?_
      refine lv_istore (lv' := [(6, .int 1), (5, .int 0), (4, .int (nI x0)), (0, .ref (am 0)), (1, .int (nI n)), (2, .int (zb true)), (3, .int (nI c0))]) hx hb d_M_commitLeaf_95 hl (by decide) rfl (fun ls hl => ?_)
      refine lv_aload_n hx hb d_M_commitLeaf_97 rfl (lv_at hl 3 rfl) ?_
      refine mm_get hx hb hts hown hK hP (index := 49) 13 (by decide) mf_M_49 (v := .ref (am 14)) rfl d_M_commitLeaf_98 ?_
      refine lv_iconst (v := 2) hx hb d_M_commitLeaf_101 rfl ?_
      refine lv_iload_n hx hb d_M_commitLeaf_102 rfl (lv_at hl 4 rfl) ?_
      refine lv_imul hx hb d_M_commitLeaf_103 ?_
      refine zz_as (y := nI (2 * n)) (pk_mul 2 n) ?_
      refine lv_iload hx hb d_M_commitLeaf_104 (lv_at hl 1 rfl) ?_
      refine lv_iadd hx hb d_M_commitLeaf_106 ?_
      refine zz_as (y := nI ((2 * n) + 0)) (nI_add (2 * n) 0) ?_
      refine lv_aload_n hx hb d_M_commitLeaf_107 rfl (lv_at hl 3 rfl) ?_
      refine mm_get hx hb hts hown hK hP (index := 40) 10 (by decide) mf_M_40 (v := .ref (am 11)) rfl d_M_commitLeaf_108 ?_
      refine lv_iconst (v := 2) hx hb d_M_commitLeaf_111 rfl ?_
      refine lv_iload_n hx hb d_M_commitLeaf_112 rfl (lv_at hl 4 rfl) ?_
      refine lv_imul hx hb d_M_commitLeaf_113 ?_
      refine zz_as (y := nI (2 * n)) (pk_mul 2 n) ?_
      refine lv_iload hx hb d_M_commitLeaf_114 (lv_at hl 1 rfl) ?_
      refine lv_iadd hx hb d_M_commitLeaf_116 ?_
      refine zz_as (y := nI ((2 * n) + 0)) (nI_add (2 * n) 0) ?_
      refine mm_ald hx hb hK hP 10 (by decide) rfl ((2 * n) + 0) rfl (show (2 * n) + 0 < 16 from by omega) (ar 11 ((2 * n) + 0)) (rfl) d_M_commitLeaf_117 ?_
      refine lv_iload hx hb d_M_commitLeaf_118 (lv_at hl 2 rfl) ?_
      refine zz_cS (index := 96) (n := 2) (As := [.int (nI (ar 11 (2 * n + 0))), .int (nI x0)]) (rest := [.int (nI ((2 * n) + 0)), .ref (am 14)]) ⟨hx, hb, hml, hown, hts⟩ (k_raised l (ar 11 (2 * n + 0)) x0 hbp (by omega)) mk_M_96 ms_M_raised mi_M mc_M_raised (by decide +kernel) ⟨rfl, rfl⟩ ⟨by decide, by decide⟩ preEq rfl hl.1 rfl (Nat.le_of_ble_eq_true rfl) d_M_commitLeaf_120 ⟨Nat.zero_le _, Nat.zero_le _⟩ ?_
      refine lv_iload hx hb d_M_commitLeaf_123 (lv_at hl 0 rfl) ?_
      refine lv_sipush (v := 10007) hx hb d_M_commitLeaf_125 rfl ?_
      refine zz_cS (index := 92) (n := 3) (As := [.int (nI (ar 11 (2 * n + 0) ^ x0 % 10007)), .int 1, .int 10007]) (rest := [.int (nI ((2 * n) + 0)), .ref (am 14)]) ⟨hx, hb, hml, hown, hts⟩ (k_times l (ar 11 (2 * n + 0) ^ x0 % 10007) (1) 10007 (Nat.lt_trans (Nat.mod_lt _ (by decide)) (by decide)) (by decide) (by decide) (by decide)) mk_M_92 ms_M_times mi_M mc_M_times (by decide +kernel) ⟨rfl, rfl⟩ ⟨by decide, by decide⟩ preEq rfl hl.1 rfl (Nat.le_of_ble_eq_true rfl) d_M_commitLeaf_128 ⟨Nat.zero_le _, Nat.zero_le _⟩ ?_
      obtain ⟨v0, hv0⟩ : ∃ v, (ar 11 (2 * n + 0) ^ x0 % 10007) * 1 % 10007 = v := ⟨_, rfl⟩
      refine zz_as (y := nI v0) (congrArg nI hv0) ?_
      refine mm_ast hx hb hK hP hD hS 13 (by decide) rfl ((2 * n) + 0) rfl (show (2 * n) + 0 < 16 from by omega) (v0) (rfl) d_M_commitLeaf_131 (fun H locs hP hS => ?_)
      refine lv_iinc (k := 1) (v := nI (0 + 1)) (lv' := [(5, .int (nI (0 + 1))), (6, .int 1), (4, .int (nI x0)), (0, .ref (am 0)), (1, .int (nI n)), (2, .int (zb true)), (3, .int (nI c0))]) hx hb d_M_commitLeaf_132 hl rfl (nI_1 _) (by decide) rfl (fun ls hl => ?_)
      refine lv_goto (tgt := 48) hx hb d_M_commitLeaf_135 rfl ?_
      have hl : lv_has ls 7 [(5, .int 1), (6, .int 1), (4, .int (nI x0)), (0, .ref (am 0)), (1, .int (nI n)), (2, .int (zb true)), (3, .int (nI c0))] := hl
      refine lv_iload hx hb d_M_commitLeaf_48 (lv_at hl 0 rfl) ?_
      refine lv_iconst (v := 2) hx hb d_M_commitLeaf_50 rfl ?_
      refine lv_icmp_ge (tgt := 138) hx hb d_M_commitLeaf_51 rfl (fun h51 => absurd h51 (by decide)) (fun h51 => ?_)
      refine lv_aload_n hx hb d_M_commitLeaf_54 rfl (lv_at hl 3 rfl) ?_
      refine lv_iload_n hx hb d_M_commitLeaf_55 rfl (lv_at hl 4 rfl) ?_
      refine lv_iload hx hb d_M_commitLeaf_56 (lv_at hl 0 rfl) ?_
      refine zz_cV (index := 138) (n := 2) (As := [.int (nI n), .int 1]) (rest := []) ⟨hx, hb, hml, hown, hts⟩ (k_isPairM l D ca am (zs (zs (zs (zs (zs ar 0 5 d0) 20 n x0) 15 n 0) 16 n 0) 14 ((2 * n) + 0) v0) n 1 (by omega) (by decide) hl2 hbs) mk_M_138 mo_M_isPair me_M_M_isPair_M mi_M mc_M_isPair (by decide +kernel) ⟨rfl, rfl⟩ ⟨by decide, by decide⟩ (mm_pre hK hP) rfl hl.1 rfl (Nat.le_of_ble_eq_true rfl) d_M_commitLeaf_58 ⟨Nat.zero_le _, Nat.zero_le _⟩ ?_
      refine lv_if_eq (tgt := 132) hx hb d_M_commitLeaf_61 rfl (fun h61 => ?_) (fun h61 => ?_)
      · skip
        have hp1 : ¬ 0 < ar 11 (2 * n + 1) := pairB_f hn (zb_eq (b := pairB ar n 1) h61)
        refine lv_iinc (k := 0) (v := nI (1 + 1)) (lv' := [(5, .int (nI (1 + 1))), (6, .int 1), (4, .int (nI x0)), (0, .ref (am 0)), (1, .int (nI n)), (2, .int (zb true)), (3, .int (nI c0))]) hx hb d_M_commitLeaf_132 hl rfl (nI_1 _) (by decide) rfl (fun ls hl => ?_)
        refine lv_goto (tgt := 48) hx hb d_M_commitLeaf_135 rfl ?_
        have hl : lv_has ls 7 [(5, .int 2), (6, .int 1), (4, .int (nI x0)), (0, .ref (am 0)), (1, .int (nI n)), (2, .int (zb true)), (3, .int (nI c0))] := hl
        refine lv_iload hx hb d_M_commitLeaf_48 (lv_at hl 0 rfl) ?_
        refine lv_iconst (v := 2) hx hb d_M_commitLeaf_50 rfl ?_
        refine lv_icmp_ge (tgt := 138) hx hb d_M_commitLeaf_51 rfl (fun h51 => ?_) (fun h51 => absurd (by decide) h51)
        exact W.vret hx hb hr (fun t ht hW => ⟨⟨zs (zs (zs (zs (zs ar 0 5 d0) 20 n x0) 15 n 0) 16 n 0) 14 ((2 * n) + 0) v0, rfl, by rw [← hv0]; simp only [cmL, cv, hd0, hx0, Nat.add_zero] at hp0 hp1 ⊢; simp only [if_pos hp0, if_neg hp1, if_true, if_false, Bool.false_eq_true], va_K.moved hW.alike hK, by rw [ht]; exact hP⟩, hS.F ht⟩) hS.2.2 d_M_commitLeaf_138
      · skip
        have hp1 : 0 < ar 11 (2 * n + 1) := (pairB_t (zb_ne (b := pairB ar n 1) h61)).2
        have hbp := hbs (2 * n + 1) (by omega)
        have hip := his (2 * n + 1) (by omega)
        refine lv_iload_n hx hb d_M_commitLeaf_64 rfl (lv_at hl 5 rfl) ?_
        refine lv_if_eq (tgt := 72) hx hb d_M_commitLeaf_65 rfl (fun h65 => absurd h65 (by decide)) (fun h65 => ?_)
        refine lv_iconst (v := 1) hx hb d_M_commitLeaf_68 rfl ?_
        refine lv_goto (tgt := 95) hx hb d_M_commitLeaf_69 rfl ?_
        refine lv_istore (lv' := [(6, .int 1), (5, .int 1), (4, .int (nI x0)), (0, .ref (am 0)), (1, .int (nI n)), (2, .int (zb true)), (3, .int (nI c0))]) hx hb d_M_commitLeaf_95 hl (by decide) rfl (fun ls hl => ?_)
        refine lv_aload_n hx hb d_M_commitLeaf_97 rfl (lv_at hl 3 rfl) ?_
        refine mm_get hx hb hts hown hK hP (index := 49) 13 (by decide) mf_M_49 (v := .ref (am 14)) rfl d_M_commitLeaf_98 ?_
        refine lv_iconst (v := 2) hx hb d_M_commitLeaf_101 rfl ?_
        refine lv_iload_n hx hb d_M_commitLeaf_102 rfl (lv_at hl 4 rfl) ?_
        refine lv_imul hx hb d_M_commitLeaf_103 ?_
        refine zz_as (y := nI (2 * n)) (pk_mul 2 n) ?_
        refine lv_iload hx hb d_M_commitLeaf_104 (lv_at hl 1 rfl) ?_
        refine lv_iadd hx hb d_M_commitLeaf_106 ?_
        refine zz_as (y := nI ((2 * n) + 1)) (nI_add (2 * n) 1) ?_
        refine lv_aload_n hx hb d_M_commitLeaf_107 rfl (lv_at hl 3 rfl) ?_
        refine mm_get hx hb hts hown hK hP (index := 40) 10 (by decide) mf_M_40 (v := .ref (am 11)) rfl d_M_commitLeaf_108 ?_
        refine lv_iconst (v := 2) hx hb d_M_commitLeaf_111 rfl ?_
        refine lv_iload_n hx hb d_M_commitLeaf_112 rfl (lv_at hl 4 rfl) ?_
        refine lv_imul hx hb d_M_commitLeaf_113 ?_
        refine zz_as (y := nI (2 * n)) (pk_mul 2 n) ?_
        refine lv_iload hx hb d_M_commitLeaf_114 (lv_at hl 1 rfl) ?_
        refine lv_iadd hx hb d_M_commitLeaf_116 ?_
        refine zz_as (y := nI ((2 * n) + 1)) (nI_add (2 * n) 1) ?_
        refine mm_ald hx hb hK hP 10 (by decide) rfl ((2 * n) + 1) rfl (show (2 * n) + 1 < 16 from by omega) (ar 11 ((2 * n) + 1)) (rfl) d_M_commitLeaf_117 ?_
        refine lv_iload hx hb d_M_commitLeaf_118 (lv_at hl 2 rfl) ?_
        refine zz_cS (index := 96) (n := 2) (As := [.int (nI (ar 11 (2 * n + 1))), .int (nI x0)]) (rest := [.int (nI ((2 * n) + 1)), .ref (am 14)]) ⟨hx, hb, hml, hown, hts⟩ (k_raised l (ar 11 (2 * n + 1)) x0 hbp (by omega)) mk_M_96 ms_M_raised mi_M mc_M_raised (by decide +kernel) ⟨rfl, rfl⟩ ⟨by decide, by decide⟩ preEq rfl hl.1 rfl (Nat.le_of_ble_eq_true rfl) d_M_commitLeaf_120 ⟨Nat.zero_le _, Nat.zero_le _⟩ ?_
        refine lv_iload hx hb d_M_commitLeaf_123 (lv_at hl 0 rfl) ?_
        refine lv_sipush (v := 10007) hx hb d_M_commitLeaf_125 rfl ?_
        refine zz_cS (index := 92) (n := 3) (As := [.int (nI (ar 11 (2 * n + 1) ^ x0 % 10007)), .int 1, .int 10007]) (rest := [.int (nI ((2 * n) + 1)), .ref (am 14)]) ⟨hx, hb, hml, hown, hts⟩ (k_times l (ar 11 (2 * n + 1) ^ x0 % 10007) (1) 10007 (Nat.lt_trans (Nat.mod_lt _ (by decide)) (by decide)) (by decide) (by decide) (by decide)) mk_M_92 ms_M_times mi_M mc_M_times (by decide +kernel) ⟨rfl, rfl⟩ ⟨by decide, by decide⟩ preEq rfl hl.1 rfl (Nat.le_of_ble_eq_true rfl) d_M_commitLeaf_128 ⟨Nat.zero_le _, Nat.zero_le _⟩ ?_
        obtain ⟨v1, hv1⟩ : ∃ v, (ar 11 (2 * n + 1) ^ x0 % 10007) * 1 % 10007 = v := ⟨_, rfl⟩
        refine zz_as (y := nI v1) (congrArg nI hv1) ?_
        refine mm_ast hx hb hK hP hD hS 13 (by decide) rfl ((2 * n) + 1) rfl (show (2 * n) + 1 < 16 from by omega) (v1) (rfl) d_M_commitLeaf_131 (fun H locs hP hS => ?_)
        refine lv_iinc (k := 1) (v := nI (1 + 1)) (lv' := [(5, .int (nI (1 + 1))), (6, .int 1), (4, .int (nI x0)), (0, .ref (am 0)), (1, .int (nI n)), (2, .int (zb true)), (3, .int (nI c0))]) hx hb d_M_commitLeaf_132 hl rfl (nI_1 _) (by decide) rfl (fun ls hl => ?_)
        refine lv_goto (tgt := 48) hx hb d_M_commitLeaf_135 rfl ?_
        have hl : lv_has ls 7 [(5, .int 2), (6, .int 1), (4, .int (nI x0)), (0, .ref (am 0)), (1, .int (nI n)), (2, .int (zb true)), (3, .int (nI c0))] := hl
        refine lv_iload hx hb d_M_commitLeaf_48 (lv_at hl 0 rfl) ?_
        refine lv_iconst (v := 2) hx hb d_M_commitLeaf_50 rfl ?_
        refine lv_icmp_ge (tgt := 138) hx hb d_M_commitLeaf_51 rfl (fun h51 => ?_) (fun h51 => absurd (by decide) h51)
        exact W.vret hx hb hr (fun t ht hW => ⟨⟨zs (zs (zs (zs (zs (zs ar 0 5 d0) 20 n x0) 15 n 0) 16 n 0) 14 ((2 * n) + 0) v0) 14 ((2 * n) + 1) v1, rfl, by rw [← hv1]; rw [← hv0]; simp only [cmL, cv, hd0, hx0, Nat.add_zero] at hp0 hp1 ⊢; simp only [if_pos hp0, if_pos hp1, if_true, if_false, Bool.false_eq_true], va_K.moved hW.alike hK, by rw [ht]; exact hP⟩, hS.F ht⟩) hS.2.2 d_M_commitLeaf_138

theorem d_M_commitOr_0 : decode c_M_commitOr 0 = .ok (.aload_n 0, 1) := by decide +kernel
theorem d_M_commitOr_1 : decode c_M_commitOr 1 = .ok (.invokevirtual 148, 3) := by decide +kernel
theorem d_M_commitOr_4 : decode c_M_commitOr 4 = .ok (.istore 4, 2) := by decide +kernel
theorem d_M_commitOr_6 : decode c_M_commitOr 6 = .ok (.aload_n 0, 1) := by decide +kernel
theorem d_M_commitOr_7 : decode c_M_commitOr 7 = .ok (.getfield 74, 3) := by decide +kernel
theorem d_M_commitOr_10 : decode c_M_commitOr 10 = .ok (.iload_n 1, 1) := by decide +kernel
theorem d_M_commitOr_11 : decode c_M_commitOr 11 = .ok (.iload 4, 2) := by decide +kernel
theorem d_M_commitOr_13 : decode c_M_commitOr 13 = .ok (.iastore, 1) := by decide +kernel
theorem d_M_commitOr_14 : decode c_M_commitOr 14 = .ok (.aload_n 0, 1) := by decide +kernel
theorem d_M_commitOr_15 : decode c_M_commitOr 15 = .ok (.getfield 70, 3) := by decide +kernel
theorem d_M_commitOr_18 : decode c_M_commitOr 18 = .ok (.iload_n 1, 1) := by decide +kernel
theorem d_M_commitOr_19 : decode c_M_commitOr 19 = .ok (.iload_n 2, 1) := by decide +kernel
theorem d_M_commitOr_20 : decode c_M_commitOr 20 = .ok (.ifCond .eq 21, 3) := by decide +kernel
theorem d_M_commitOr_23 : decode c_M_commitOr 23 = .ok (.aload_n 0, 1) := by decide +kernel
theorem d_M_commitOr_24 : decode c_M_commitOr 24 = .ok (.getfield 89, 3) := by decide +kernel
theorem d_M_commitOr_27 : decode c_M_commitOr 27 = .ok (.aload_n 0, 1) := by decide +kernel
theorem d_M_commitOr_28 : decode c_M_commitOr 28 = .ok (.getfield 31, 3) := by decide +kernel
theorem d_M_commitOr_31 : decode c_M_commitOr 31 = .ok (.iload_n 1, 1) := by decide +kernel
theorem d_M_commitOr_32 : decode c_M_commitOr 32 = .ok (.iaload, 1) := by decide +kernel
theorem d_M_commitOr_33 : decode c_M_commitOr 33 = .ok (.baload, 1) := by decide +kernel
theorem d_M_commitOr_34 : decode c_M_commitOr 34 = .ok (.ifCond .eq 7, 3) := by decide +kernel
theorem d_M_commitOr_37 : decode c_M_commitOr 37 = .ok (.iconst 1, 1) := by decide +kernel
theorem d_M_commitOr_38 : decode c_M_commitOr 38 = .ok (.goto 4, 3) := by decide +kernel
theorem d_M_commitOr_41 : decode c_M_commitOr 41 = .ok (.iconst 0, 1) := by decide +kernel
theorem d_M_commitOr_42 : decode c_M_commitOr 42 = .ok (.bastore, 1) := by decide +kernel
theorem d_M_commitOr_43 : decode c_M_commitOr 43 = .ok (.iload_n 2, 1) := by decide +kernel
theorem d_M_commitOr_44 : decode c_M_commitOr 44 = .ok (.ifCond .eq 16, 3) := by decide +kernel
theorem d_M_commitOr_47 : decode c_M_commitOr 47 = .ok (.aload_n 0, 1) := by decide +kernel
theorem d_M_commitOr_48 : decode c_M_commitOr 48 = .ok (.getfield 70, 3) := by decide +kernel
theorem d_M_commitOr_51 : decode c_M_commitOr 51 = .ok (.iload_n 1, 1) := by decide +kernel
theorem d_M_commitOr_52 : decode c_M_commitOr 52 = .ok (.baload, 1) := by decide +kernel
theorem d_M_commitOr_53 : decode c_M_commitOr 53 = .ok (.ifCond .ne 7, 3) := by decide +kernel
theorem d_M_commitOr_56 : decode c_M_commitOr 56 = .ok (.iconst 1, 1) := by decide +kernel
theorem d_M_commitOr_57 : decode c_M_commitOr 57 = .ok (.goto 4, 3) := by decide +kernel
theorem d_M_commitOr_60 : decode c_M_commitOr 60 = .ok (.iconst 0, 1) := by decide +kernel
theorem d_M_commitOr_61 : decode c_M_commitOr 61 = .ok (.istore 5, 2) := by decide +kernel
theorem d_M_commitOr_63 : decode c_M_commitOr 63 = .ok (.aload_n 0, 1) := by decide +kernel
theorem d_M_commitOr_64 : decode c_M_commitOr 64 = .ok (.aload_n 0, 1) := by decide +kernel
theorem d_M_commitOr_65 : decode c_M_commitOr 65 = .ok (.getfield 34, 3) := by decide +kernel
theorem d_M_commitOr_68 : decode c_M_commitOr 68 = .ok (.iload_n 1, 1) := by decide +kernel
theorem d_M_commitOr_69 : decode c_M_commitOr 69 = .ok (.iaload, 1) := by decide +kernel
theorem d_M_commitOr_70 : decode c_M_commitOr 70 = .ok (.iload 5, 2) := by decide +kernel
theorem d_M_commitOr_72 : decode c_M_commitOr 72 = .ok (.iload_n 2, 1) := by decide +kernel
theorem d_M_commitOr_73 : decode c_M_commitOr 73 = .ok (.ifCond .eq 8, 3) := by decide +kernel
theorem d_M_commitOr_76 : decode c_M_commitOr 76 = .ok (.iload 4, 2) := by decide +kernel
theorem d_M_commitOr_78 : decode c_M_commitOr 78 = .ok (.goto 9, 3) := by decide +kernel
theorem d_M_commitOr_81 : decode c_M_commitOr 81 = .ok (.iload_n 3, 1) := by decide +kernel
theorem d_M_commitOr_82 : decode c_M_commitOr 82 = .ok (.iload 4, 2) := by decide +kernel
theorem d_M_commitOr_84 : decode c_M_commitOr 84 = .ok (.invokestatic 152, 3) := by decide +kernel
theorem d_M_commitOr_87 : decode c_M_commitOr 87 = .ok (.invokevirtual 155, 3) := by decide +kernel
theorem d_M_commitOr_90 : decode c_M_commitOr 90 = .ok (.aload_n 0, 1) := by decide +kernel
theorem d_M_commitOr_91 : decode c_M_commitOr 91 = .ok (.aload_n 0, 1) := by decide +kernel
theorem d_M_commitOr_92 : decode c_M_commitOr 92 = .ok (.getfield 31, 3) := by decide +kernel
theorem d_M_commitOr_95 : decode c_M_commitOr 95 = .ok (.iload_n 1, 1) := by decide +kernel
theorem d_M_commitOr_96 : decode c_M_commitOr 96 = .ok (.iaload, 1) := by decide +kernel
theorem d_M_commitOr_97 : decode c_M_commitOr 97 = .ok (.aload_n 0, 1) := by decide +kernel
theorem d_M_commitOr_98 : decode c_M_commitOr 98 = .ok (.getfield 70, 3) := by decide +kernel
theorem d_M_commitOr_101 : decode c_M_commitOr 101 = .ok (.iload_n 1, 1) := by decide +kernel
theorem d_M_commitOr_102 : decode c_M_commitOr 102 = .ok (.baload, 1) := by decide +kernel
theorem d_M_commitOr_103 : decode c_M_commitOr 103 = .ok (.iload 4, 2) := by decide +kernel
theorem d_M_commitOr_105 : decode c_M_commitOr 105 = .ok (.invokevirtual 155, 3) := by decide +kernel
theorem d_M_commitOr_108 : decode c_M_commitOr 108 = .ok (.return_, 1) := by decide +kernel

set_option maxHeartbeats 4000000 in
set_option maxRecDepth 100000 in
/-- commitOr(k, real, c) -/
theorem k_commitOrM (l : Launch) (D : va_G) (ca : Nat → ClassId) (am : Nat → Nat) (ar : Nat → Nat → Nat) (hI : mI am) (k : Nat) (real : Bool) (c0 : Nat) (hk : k < 15) (hch : ar 8 k < k ∧ ar 9 k < k) (hh : ar 27 (ar 8 k) < 2) (hc0 : c0 < 5003) (ht : ar 0 6 + 1 < 15) : Met l y_M_commitOr (Cond.code y_M_commitOr c_M_commitOr 6 none :: zT) ({ frames := 3, cells := 0, slots := 0, locals := 120 }) (va_Pc [.ref (am 0), .int (nI k), .int (zb real), .int (nI c0)] (mw D ca am ar)) (va_Qv (fun ar1 => ar1 = cOr ar k real c0) (mw D ca am) (mA am)) 0 0 (mA am) := by
  refine Met.ofW (cc := c_M_commitOr) (maxL := 6) (ret := none) (by decide) rfl ?_
  intro p e s m args below meth c s₁ B hml hv
  obtain ⟨rfl, hK, hP⟩ := hv
  have hx := B.exec
  have hb := B.bytes
  have hr := B.returns
  have hts0 := atoms_spec (ws := Cond.code y_M_commitOr c_M_commitOr 6 none :: zT) B.pre
  have hts := fun w h => hts0 w (List.mem_cons_of_mem _ h)
  have hown : s.vm.findClass R_M = some m.cls := findClass_of_methodNamed B.named
  have hlocks := B.notSynchronized
  have hD := mI_D hI
  have hS : va_S (mA am) s.heap s.heap [] := va_S.rf
  have hAA : ∀ q, mA am q → mA am q := fun _ h => h
  have hl := lv_entry ([.ref (am 0), .int (nI k), .int (zb real), .int (nI c0)]) (n := 6) (Nat.le_of_ble_eq_true rfl)
  rw [lg_entry_eq]
  generalize (lg_sl ([.ref (am 0), .int (nI k), .int (zb real), .int (nI c0)]) ++ List.replicate (6 - (lg_sl ([.ref (am 0), .int (nI k), .int (zb real), .int (nI c0)])).length) Slot.unset).toArray = ls at hl ⊢
  have hl : lv_has ls 6 [(0, .ref (am 0)), (1, .int (nI k)), (2, .int (zb real)), (3, .int (nI c0))] := hl
  skip
  cases real with
  | false =>
    refine lv_aload_n hx hb d_M_commitOr_0 rfl (lv_at hl 0 rfl) ?_
    refine mm_ci (index := 148) (n := 0) (As := []) (rest := []) ⟨hx, hb, hml, hown, hts⟩ (k_drawM l D ca am (ar) hI) mk_M_148 mo_M_draw me_M_M_draw_M mi_M mc_M_draw (by decide +kernel) ⟨rfl, rfl⟩ ⟨by decide, by decide⟩ hK hP hS hAA rfl hl.1 rfl (Nat.le_of_ble_eq_true rfl) d_M_commitOr_1 ⟨Nat.zero_le _, Nat.zero_le _⟩ (fun r ar1 H locs hpost hP hS => ?_)
    obtain ⟨hr1, har⟩ := hpost
    obtain ⟨d0, hd0⟩ : ∃ d, dr (ar 0 5) = d := ⟨_, rfl⟩
    rw [hd0] at hr1 har
    obtain ⟨x0, hx0⟩ : ∃ x, dv d0 = x := ⟨_, rfl⟩
    have hx1 : x0 < 5003 := by rw [← hx0]; exact dv_lt _
    rw [hx0] at hr1
    subst hr1 har
    refine lv_istore (lv' := [(4, .int (nI x0)), (0, .ref (am 0)), (1, .int (nI k)), (2, .int (zb false)), (3, .int (nI c0))]) hx hb d_M_commitOr_4 hl (by decide) rfl (fun ls hl => ?_)
    refine lv_aload_n hx hb d_M_commitOr_6 rfl (lv_at hl 1 rfl) ?_
    refine mm_get hx hb hts hown hK hP (index := 74) 21 (by decide) mf_M_74 (v := .ref (am 22)) rfl d_M_commitOr_7 ?_
    refine lv_iload_n hx hb d_M_commitOr_10 rfl (lv_at hl 2 rfl) ?_
    refine lv_iload hx hb d_M_commitOr_11 (lv_at hl 0 rfl) ?_
    refine mm_ast hx hb hK hP hD hS 21 (by decide) rfl (k) rfl (show k < 15 from by omega) (x0) (rfl) d_M_commitOr_13 (fun H locs hP hS => ?_)
    refine lv_aload_n hx hb d_M_commitOr_14 rfl (lv_at hl 1 rfl) ?_
    refine mm_get hx hb hts hown hK hP (index := 70) 20 (by decide) mf_M_70 (v := .ref (am 21)) rfl d_M_commitOr_15 ?_
    refine lv_iload_n hx hb d_M_commitOr_18 rfl (lv_at hl 2 rfl) ?_
    refine lv_iload_n hx hb d_M_commitOr_19 rfl (lv_at hl 3 rfl) ?_
    refine lv_if_eq (tgt := 41) hx hb d_M_commitOr_20 rfl (fun h20 => ?_) (fun h20 => absurd (rfl) h20)
    refine lv_iconst (v := 0) hx hb d_M_commitOr_41 rfl ?_
    refine mm_zast hx hb hK hP hD hS 20 (by decide) rfl (k) rfl (show k < 15 from by omega) (0) (rfl) (by decide) d_M_commitOr_42 (fun H locs hP hS => ?_)
    refine lv_iload_n hx hb d_M_commitOr_43 rfl (lv_at hl 3 rfl) ?_
    refine lv_if_eq (tgt := 60) hx hb d_M_commitOr_44 rfl (fun h44 => ?_) (fun h44 => absurd (rfl) h44)
    refine lv_iconst (v := 0) hx hb d_M_commitOr_60 rfl ?_
    refine lv_istore (lv' := [(5, .int 0), (4, .int (nI x0)), (0, .ref (am 0)), (1, .int (nI k)), (2, .int (zb false)), (3, .int (nI c0))]) hx hb d_M_commitOr_61 hl (by decide) rfl (fun ls hl => ?_)
    refine lv_aload_n hx hb d_M_commitOr_63 rfl (lv_at hl 2 rfl) ?_
    refine lv_aload_n hx hb d_M_commitOr_64 rfl (lv_at hl 2 rfl) ?_
    refine mm_get hx hb hts hown hK hP (index := 34) 8 (by decide) mf_M_34 (v := .ref (am 9)) rfl d_M_commitOr_65 ?_
    refine lv_iload_n hx hb d_M_commitOr_68 rfl (lv_at hl 3 rfl) ?_
    refine mm_ald hx hb hK hP 8 (by decide) rfl (k) rfl (show k < 15 from by omega) (ar 9 k) (rfl) d_M_commitOr_69 ?_
    refine lv_iload hx hb d_M_commitOr_70 (lv_at hl 0 rfl) ?_
    refine lv_iload_n hx hb d_M_commitOr_72 rfl (lv_at hl 4 rfl) ?_
    refine lv_if_eq (tgt := 81) hx hb d_M_commitOr_73 rfl (fun h73 => ?_) (fun h73 => absurd (rfl) h73)
    refine lv_iload_n hx hb d_M_commitOr_81 rfl (lv_at hl 5 rfl) ?_
    refine lv_iload hx hb d_M_commitOr_82 (lv_at hl 1 rfl) ?_
    refine zz_cS (index := 152) (n := 2) (As := [.int (nI c0), .int (nI x0)]) (rest := [.int 0, .int (nI (ar 9 k)), .ref (am 0)]) ⟨hx, hb, hml, hown, hts⟩ (k_less l c0 x0 hc0 hx1) mk_M_152 ms_M_less mi_M mc_M_less (by decide +kernel) ⟨rfl, rfl⟩ ⟨by decide, by decide⟩ preEq rfl hl.1 rfl (Nat.le_of_ble_eq_true rfl) d_M_commitOr_84 ⟨Nat.zero_le _, Nat.zero_le _⟩ ?_
    refine mm_cv (index := 155) (n := 3) (As := [.int (nI (ar 9 k)), .int (nI 0), .int (nI (ls5 c0 x0))]) (rest := []) ⟨hx, hb, hml, hown, hts⟩ (k_laterM l D ca am (zs (zs (zs ar 0 5 d0) 22 k x0) 21 k 0) hI (ar 9 k) 0 (ls5 c0 x0) (by omega) (by decide) (show _ < 15 from by show ar 0 6 < 15; omega)) mk_M_155 mo_M_later me_M_M_later_M mi_M mc_M_later (by decide +kernel) ⟨rfl, rfl⟩ ⟨by decide, by decide⟩ hK hP hS hAA rfl hl.1 rfl (Nat.le_of_ble_eq_true rfl) d_M_commitOr_87 ⟨Nat.zero_le _, Nat.zero_le _⟩ (fun ar1 H locs hpost hP hS => ?_)
    subst hpost
    refine lv_aload_n hx hb d_M_commitOr_90 rfl (lv_at hl 2 rfl) ?_
    refine lv_aload_n hx hb d_M_commitOr_91 rfl (lv_at hl 2 rfl) ?_
    refine mm_get hx hb hts hown hK hP (index := 31) 7 (by decide) mf_M_31 (v := .ref (am 8)) rfl d_M_commitOr_92 ?_
    refine lv_iload_n hx hb d_M_commitOr_95 rfl (lv_at hl 3 rfl) ?_
    refine mm_ald hx hb hK hP 7 (by decide) rfl (k) rfl (show k < 15 from by omega) (ar 8 k) (rfl) d_M_commitOr_96 ?_
    refine lv_aload_n hx hb d_M_commitOr_97 rfl (lv_at hl 2 rfl) ?_
    refine mm_get hx hb hts hown hK hP (index := 70) 20 (by decide) mf_M_70 (v := .ref (am 21)) rfl d_M_commitOr_98 ?_
    refine lv_iload_n hx hb d_M_commitOr_101 rfl (lv_at hl 3 rfl) ?_
    refine mm_zald hx hb hK hP 20 (by decide) rfl (k) rfl (show k < 15 from by omega) (0) (by simp [lat, zs_at]) d_M_commitOr_102 ?_
    refine lv_iload hx hb d_M_commitOr_103 (lv_at hl 1 rfl) ?_
    refine mm_cv (index := 155) (n := 3) (As := [.int (nI (ar 8 k)), .int (nI 0), .int (nI x0)]) (rest := []) ⟨hx, hb, hml, hown, hts⟩ (k_laterM l D ca am (lat (zs (zs (zs ar 0 5 d0) 22 k x0) 21 k 0) (ar 9 k) 0 (ls5 c0 x0)) hI (ar 8 k) 0 x0 (by omega) (by decide) (show _ < 15 from by show ar 0 6 + 1 < 15; omega)) mk_M_155 mo_M_later me_M_M_later_M mi_M mc_M_later (by decide +kernel) ⟨rfl, rfl⟩ ⟨by decide, by decide⟩ hK hP hS hAA rfl hl.1 rfl (Nat.le_of_ble_eq_true rfl) d_M_commitOr_105 ⟨Nat.zero_le _, Nat.zero_le _⟩ (fun ar1 H locs hpost hP hS => ?_)
    subst hpost
    exact W.vret hx hb hr (fun t ht hW => ⟨⟨lat (lat (zs (zs (zs ar 0 5 d0) 22 k x0) 21 k 0) (ar 9 k) 0 (ls5 c0 x0)) (ar 8 k) 0 x0, rfl, by simp only [cOr, cmO, hd0, hx0, Bool.false_and, if_false, Bool.false_eq_true], va_K.moved hW.alike hK, by rw [ht]; exact hP⟩, hS.F ht⟩) hS.2.2 d_M_commitOr_108
  | true =>
    refine lv_aload_n hx hb d_M_commitOr_0 rfl (lv_at hl 0 rfl) ?_
    refine mm_ci (index := 148) (n := 0) (As := []) (rest := []) ⟨hx, hb, hml, hown, hts⟩ (k_drawM l D ca am (ar) hI) mk_M_148 mo_M_draw me_M_M_draw_M mi_M mc_M_draw (by decide +kernel) ⟨rfl, rfl⟩ ⟨by decide, by decide⟩ hK hP hS hAA rfl hl.1 rfl (Nat.le_of_ble_eq_true rfl) d_M_commitOr_1 ⟨Nat.zero_le _, Nat.zero_le _⟩ (fun r ar1 H locs hpost hP hS => ?_)
    obtain ⟨hr1, har⟩ := hpost
    obtain ⟨d0, hd0⟩ : ∃ d, dr (ar 0 5) = d := ⟨_, rfl⟩
    rw [hd0] at hr1 har
    obtain ⟨x0, hx0⟩ : ∃ x, dv d0 = x := ⟨_, rfl⟩
    have hx1 : x0 < 5003 := by rw [← hx0]; exact dv_lt _
    rw [hx0] at hr1
    subst hr1 har
    refine lv_istore (lv' := [(4, .int (nI x0)), (0, .ref (am 0)), (1, .int (nI k)), (2, .int (zb true)), (3, .int (nI c0))]) hx hb d_M_commitOr_4 hl (by decide) rfl (fun ls hl => ?_)
    refine lv_aload_n hx hb d_M_commitOr_6 rfl (lv_at hl 1 rfl) ?_
    refine mm_get hx hb hts hown hK hP (index := 74) 21 (by decide) mf_M_74 (v := .ref (am 22)) rfl d_M_commitOr_7 ?_
    refine lv_iload_n hx hb d_M_commitOr_10 rfl (lv_at hl 2 rfl) ?_
    refine lv_iload hx hb d_M_commitOr_11 (lv_at hl 0 rfl) ?_
    refine mm_ast hx hb hK hP hD hS 21 (by decide) rfl (k) rfl (show k < 15 from by omega) (x0) (rfl) d_M_commitOr_13 (fun H locs hP hS => ?_)
    refine lv_aload_n hx hb d_M_commitOr_14 rfl (lv_at hl 1 rfl) ?_
    refine mm_get hx hb hts hown hK hP (index := 70) 20 (by decide) mf_M_70 (v := .ref (am 21)) rfl d_M_commitOr_15 ?_
    refine lv_iload_n hx hb d_M_commitOr_18 rfl (lv_at hl 2 rfl) ?_
    refine lv_iload_n hx hb d_M_commitOr_19 rfl (lv_at hl 3 rfl) ?_
    refine lv_if_eq (tgt := 41) hx hb d_M_commitOr_20 rfl (fun h20 => absurd h20 (by decide)) (fun h20 => ?_)
    refine lv_aload_n hx hb d_M_commitOr_23 rfl (lv_at hl 1 rfl) ?_
    refine mm_get hx hb hts hown hK hP (index := 89) 26 (by decide) mf_M_89 (v := .ref (am 27)) rfl d_M_commitOr_24 ?_
    refine lv_aload_n hx hb d_M_commitOr_27 rfl (lv_at hl 1 rfl) ?_
    refine mm_get hx hb hts hown hK hP (index := 31) 7 (by decide) mf_M_31 (v := .ref (am 8)) rfl d_M_commitOr_28 ?_
    refine lv_iload_n hx hb d_M_commitOr_31 rfl (lv_at hl 2 rfl) ?_
    refine mm_ald hx hb hK hP 7 (by decide) rfl (k) rfl (show k < 15 from by omega) (ar 8 k) (rfl) d_M_commitOr_32 ?_
    refine mm_zald hx hb hK hP 26 (by decide) rfl (ar 8 k) rfl (show ar 8 k < 15 from by omega) (ar 27 (ar 8 k)) (rfl) d_M_commitOr_33 ?_
    refine lv_if_eq (tgt := 41) hx hb d_M_commitOr_34 rfl (fun h34 => ?_) (fun h34 => ?_)
    · skip
      have hlr : ar 27 (ar 8 k) = 0 := b_z hh h34
      refine lv_iconst (v := 0) hx hb d_M_commitOr_41 rfl ?_
      refine mm_zast hx hb hK hP hD hS 20 (by decide) rfl (k) rfl (show k < 15 from by omega) (0) (rfl) (by decide) d_M_commitOr_42 (fun H locs hP hS => ?_)
      refine lv_iload_n hx hb d_M_commitOr_43 rfl (lv_at hl 3 rfl) ?_
      refine lv_if_eq (tgt := 60) hx hb d_M_commitOr_44 rfl (fun h44 => absurd h44 (by decide)) (fun h44 => ?_)
      refine lv_aload_n hx hb d_M_commitOr_47 rfl (lv_at hl 1 rfl) ?_
      refine mm_get hx hb hts hown hK hP (index := 70) 20 (by decide) mf_M_70 (v := .ref (am 21)) rfl d_M_commitOr_48 ?_
      refine lv_iload_n hx hb d_M_commitOr_51 rfl (lv_at hl 2 rfl) ?_
      refine mm_zald hx hb hK hP 20 (by decide) rfl (k) rfl (show k < 15 from by omega) (0) (zs_eq _ _ _ _) d_M_commitOr_52 ?_
      refine lv_if_ne (tgt := 60) hx hb d_M_commitOr_53 rfl (fun h53 => absurd (rfl) h53) (fun h53 => ?_)
      refine lv_iconst (v := 1) hx hb d_M_commitOr_56 rfl ?_
      refine lv_goto (tgt := 61) hx hb d_M_commitOr_57 rfl ?_
      refine lv_istore (lv' := [(5, .int 1), (4, .int (nI x0)), (0, .ref (am 0)), (1, .int (nI k)), (2, .int (zb true)), (3, .int (nI c0))]) hx hb d_M_commitOr_61 hl (by decide) rfl (fun ls hl => ?_)
      refine lv_aload_n hx hb d_M_commitOr_63 rfl (lv_at hl 2 rfl) ?_
      refine lv_aload_n hx hb d_M_commitOr_64 rfl (lv_at hl 2 rfl) ?_
      refine mm_get hx hb hts hown hK hP (index := 34) 8 (by decide) mf_M_34 (v := .ref (am 9)) rfl d_M_commitOr_65 ?_
      refine lv_iload_n hx hb d_M_commitOr_68 rfl (lv_at hl 3 rfl) ?_
      refine mm_ald hx hb hK hP 8 (by decide) rfl (k) rfl (show k < 15 from by omega) (ar 9 k) (rfl) d_M_commitOr_69 ?_
      refine lv_iload hx hb d_M_commitOr_70 (lv_at hl 0 rfl) ?_
      refine lv_iload_n hx hb d_M_commitOr_72 rfl (lv_at hl 4 rfl) ?_
      refine lv_if_eq (tgt := 81) hx hb d_M_commitOr_73 rfl (fun h73 => absurd h73 (by decide)) (fun h73 => ?_)
      refine lv_iload hx hb d_M_commitOr_76 (lv_at hl 1 rfl) ?_
      refine lv_goto (tgt := 87) hx hb d_M_commitOr_78 rfl ?_
      refine mm_cv (index := 155) (n := 3) (As := [.int (nI (ar 9 k)), .int (nI 1), .int (nI x0)]) (rest := []) ⟨hx, hb, hml, hown, hts⟩ (k_laterM l D ca am (zs (zs (zs ar 0 5 d0) 22 k x0) 21 k 0) hI (ar 9 k) 1 x0 (by omega) (by decide) (show _ < 15 from by show ar 0 6 < 15; omega)) mk_M_155 mo_M_later me_M_M_later_M mi_M mc_M_later (by decide +kernel) ⟨rfl, rfl⟩ ⟨by decide, by decide⟩ hK hP hS hAA rfl hl.1 rfl (Nat.le_of_ble_eq_true rfl) d_M_commitOr_87 ⟨Nat.zero_le _, Nat.zero_le _⟩ (fun ar1 H locs hpost hP hS => ?_)
      subst hpost
      refine lv_aload_n hx hb d_M_commitOr_90 rfl (lv_at hl 2 rfl) ?_
      refine lv_aload_n hx hb d_M_commitOr_91 rfl (lv_at hl 2 rfl) ?_
      refine mm_get hx hb hts hown hK hP (index := 31) 7 (by decide) mf_M_31 (v := .ref (am 8)) rfl d_M_commitOr_92 ?_
      refine lv_iload_n hx hb d_M_commitOr_95 rfl (lv_at hl 3 rfl) ?_
      refine mm_ald hx hb hK hP 7 (by decide) rfl (k) rfl (show k < 15 from by omega) (ar 8 k) (rfl) d_M_commitOr_96 ?_
      refine lv_aload_n hx hb d_M_commitOr_97 rfl (lv_at hl 2 rfl) ?_
      refine mm_get hx hb hts hown hK hP (index := 70) 20 (by decide) mf_M_70 (v := .ref (am 21)) rfl d_M_commitOr_98 ?_
      refine lv_iload_n hx hb d_M_commitOr_101 rfl (lv_at hl 3 rfl) ?_
      refine mm_zald hx hb hK hP 20 (by decide) rfl (k) rfl (show k < 15 from by omega) (0) (by simp [lat, zs_at]) d_M_commitOr_102 ?_
      refine lv_iload hx hb d_M_commitOr_103 (lv_at hl 1 rfl) ?_
      refine mm_cv (index := 155) (n := 3) (As := [.int (nI (ar 8 k)), .int (nI 0), .int (nI x0)]) (rest := []) ⟨hx, hb, hml, hown, hts⟩ (k_laterM l D ca am (lat (zs (zs (zs ar 0 5 d0) 22 k x0) 21 k 0) (ar 9 k) 1 x0) hI (ar 8 k) 0 x0 (by omega) (by decide) (show _ < 15 from by show ar 0 6 + 1 < 15; omega)) mk_M_155 mo_M_later me_M_M_later_M mi_M mc_M_later (by decide +kernel) ⟨rfl, rfl⟩ ⟨by decide, by decide⟩ hK hP hS hAA rfl hl.1 rfl (Nat.le_of_ble_eq_true rfl) d_M_commitOr_105 ⟨Nat.zero_le _, Nat.zero_le _⟩ (fun ar1 H locs hpost hP hS => ?_)
      subst hpost
      exact W.vret hx hb hr (fun t ht hW => ⟨⟨lat (lat (zs (zs (zs ar 0 5 d0) 22 k x0) 21 k 0) (ar 9 k) 1 x0) (ar 8 k) 0 x0, rfl, by simp only [cOr, cmO, hd0, hx0, decide_eq_false (show ¬ ar 27 (ar 8 k) = 1 by rw [hlr]; decide), Bool.true_and, Bool.not_true, Bool.not_false, if_true, if_false, Bool.false_eq_true], va_K.moved hW.alike hK, by rw [ht]; exact hP⟩, hS.F ht⟩) hS.2.2 d_M_commitOr_108
    · skip
      have hlr : ar 27 (ar 8 k) = 1 := b_o hh h34
      refine lv_iconst (v := 1) hx hb d_M_commitOr_37 rfl ?_
      refine lv_goto (tgt := 42) hx hb d_M_commitOr_38 rfl ?_
      refine mm_zast hx hb hK hP hD hS 20 (by decide) rfl (k) rfl (show k < 15 from by omega) (1) (rfl) (by decide) d_M_commitOr_42 (fun H locs hP hS => ?_)
      refine lv_iload_n hx hb d_M_commitOr_43 rfl (lv_at hl 3 rfl) ?_
      refine lv_if_eq (tgt := 60) hx hb d_M_commitOr_44 rfl (fun h44 => absurd h44 (by decide)) (fun h44 => ?_)
      refine lv_aload_n hx hb d_M_commitOr_47 rfl (lv_at hl 1 rfl) ?_
      refine mm_get hx hb hts hown hK hP (index := 70) 20 (by decide) mf_M_70 (v := .ref (am 21)) rfl d_M_commitOr_48 ?_
      refine lv_iload_n hx hb d_M_commitOr_51 rfl (lv_at hl 2 rfl) ?_
      refine mm_zald hx hb hK hP 20 (by decide) rfl (k) rfl (show k < 15 from by omega) (1) (zs_eq _ _ _ _) d_M_commitOr_52 ?_
      refine lv_if_ne (tgt := 60) hx hb d_M_commitOr_53 rfl (fun h53 => ?_) (fun h53 => absurd h53 (by decide))
      refine lv_iconst (v := 0) hx hb d_M_commitOr_60 rfl ?_
      refine lv_istore (lv' := [(5, .int 0), (4, .int (nI x0)), (0, .ref (am 0)), (1, .int (nI k)), (2, .int (zb true)), (3, .int (nI c0))]) hx hb d_M_commitOr_61 hl (by decide) rfl (fun ls hl => ?_)
      refine lv_aload_n hx hb d_M_commitOr_63 rfl (lv_at hl 2 rfl) ?_
      refine lv_aload_n hx hb d_M_commitOr_64 rfl (lv_at hl 2 rfl) ?_
      refine mm_get hx hb hts hown hK hP (index := 34) 8 (by decide) mf_M_34 (v := .ref (am 9)) rfl d_M_commitOr_65 ?_
      refine lv_iload_n hx hb d_M_commitOr_68 rfl (lv_at hl 3 rfl) ?_
      refine mm_ald hx hb hK hP 8 (by decide) rfl (k) rfl (show k < 15 from by omega) (ar 9 k) (rfl) d_M_commitOr_69 ?_
      refine lv_iload hx hb d_M_commitOr_70 (lv_at hl 0 rfl) ?_
      refine lv_iload_n hx hb d_M_commitOr_72 rfl (lv_at hl 4 rfl) ?_
      refine lv_if_eq (tgt := 81) hx hb d_M_commitOr_73 rfl (fun h73 => absurd h73 (by decide)) (fun h73 => ?_)
      refine lv_iload hx hb d_M_commitOr_76 (lv_at hl 1 rfl) ?_
      refine lv_goto (tgt := 87) hx hb d_M_commitOr_78 rfl ?_
      refine mm_cv (index := 155) (n := 3) (As := [.int (nI (ar 9 k)), .int (nI 0), .int (nI x0)]) (rest := []) ⟨hx, hb, hml, hown, hts⟩ (k_laterM l D ca am (zs (zs (zs ar 0 5 d0) 22 k x0) 21 k 1) hI (ar 9 k) 0 x0 (by omega) (by decide) (show _ < 15 from by show ar 0 6 < 15; omega)) mk_M_155 mo_M_later me_M_M_later_M mi_M mc_M_later (by decide +kernel) ⟨rfl, rfl⟩ ⟨by decide, by decide⟩ hK hP hS hAA rfl hl.1 rfl (Nat.le_of_ble_eq_true rfl) d_M_commitOr_87 ⟨Nat.zero_le _, Nat.zero_le _⟩ (fun ar1 H locs hpost hP hS => ?_)
      subst hpost
      refine lv_aload_n hx hb d_M_commitOr_90 rfl (lv_at hl 2 rfl) ?_
      refine lv_aload_n hx hb d_M_commitOr_91 rfl (lv_at hl 2 rfl) ?_
      refine mm_get hx hb hts hown hK hP (index := 31) 7 (by decide) mf_M_31 (v := .ref (am 8)) rfl d_M_commitOr_92 ?_
      refine lv_iload_n hx hb d_M_commitOr_95 rfl (lv_at hl 3 rfl) ?_
      refine mm_ald hx hb hK hP 7 (by decide) rfl (k) rfl (show k < 15 from by omega) (ar 8 k) (rfl) d_M_commitOr_96 ?_
      refine lv_aload_n hx hb d_M_commitOr_97 rfl (lv_at hl 2 rfl) ?_
      refine mm_get hx hb hts hown hK hP (index := 70) 20 (by decide) mf_M_70 (v := .ref (am 21)) rfl d_M_commitOr_98 ?_
      refine lv_iload_n hx hb d_M_commitOr_101 rfl (lv_at hl 3 rfl) ?_
      refine mm_zald hx hb hK hP 20 (by decide) rfl (k) rfl (show k < 15 from by omega) (1) (by simp [lat, zs_at]) d_M_commitOr_102 ?_
      refine lv_iload hx hb d_M_commitOr_103 (lv_at hl 1 rfl) ?_
      refine mm_cv (index := 155) (n := 3) (As := [.int (nI (ar 8 k)), .int (nI 1), .int (nI x0)]) (rest := []) ⟨hx, hb, hml, hown, hts⟩ (k_laterM l D ca am (lat (zs (zs (zs ar 0 5 d0) 22 k x0) 21 k 1) (ar 9 k) 0 x0) hI (ar 8 k) 1 x0 (by omega) (by decide) (show _ < 15 from by show ar 0 6 + 1 < 15; omega)) mk_M_155 mo_M_later me_M_M_later_M mi_M mc_M_later (by decide +kernel) ⟨rfl, rfl⟩ ⟨by decide, by decide⟩ hK hP hS hAA rfl hl.1 rfl (Nat.le_of_ble_eq_true rfl) d_M_commitOr_105 ⟨Nat.zero_le _, Nat.zero_le _⟩ (fun ar1 H locs hpost hP hS => ?_)
      subst hpost
      exact W.vret hx hb hr (fun t ht hW => ⟨⟨lat (lat (zs (zs (zs ar 0 5 d0) 22 k x0) 21 k 1) (ar 9 k) 0 x0) (ar 8 k) 1 x0, rfl, by simp only [cOr, cmO, hd0, hx0, decide_eq_true hlr, Bool.true_and, Bool.not_true, Bool.not_false, if_true, if_false, Bool.false_eq_true], va_K.moved hW.alike hK, by rw [ht]; exact hP⟩, hS.F ht⟩) hS.2.2 d_M_commitOr_108
