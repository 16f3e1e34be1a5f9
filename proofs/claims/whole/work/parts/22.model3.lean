/-! the model's know, known, commitLeaf, commitOr -/
def kv (ar : Nat → Nat → Nat) (h : Nat → Nat) (k : Nat) : Nat := if ar 7 k = 0 then (if ar 13 (ar 10 k) < 2147483648 then 1 else 0) else if ar 7 k = 1 then (if h (ar 8 k) = 1 ∧ h (ar 9 k) = 1 then 1 else 0) else (if h (ar 8 k) = 1 ∨ h (ar 9 k) = 1 then 1 else 0)
def kOK (ar : Nat → Nat → Nat) (h : Nat → Nat) (N : Nat) : Prop := ∀ k, k < N → h k = kv ar h k
/-- the accepted tree's tables: kinds, children before their parents, leaf numbers -/
def tT (ar : Nat → Nat → Nat) : Prop := ar 0 1 ≤ 15 ∧ ar 0 2 ≤ 8 ∧ ∀ k, k < ar 0 1 → ar 7 k ≤ 2 ∧ (ar 7 k = 0 → ar 10 k < ar 0 2) ∧ (ar 7 k ≠ 0 → ar 8 k < k ∧ ar 9 k < k)
theorem kv_cg {ar : Nat → Nat → Nat} {h g : Nat → Nat} {k : Nat} (hc : ar 7 k ≠ 0 → ar 8 k < k ∧ ar 9 k < k) (hg : ∀ i, i < k → g i = h i) : kv ar g k = kv ar h k := by
  unfold kv
  by_cases h0 : ar 7 k = 0
  · rw [if_pos h0, if_pos h0]
  · rw [hg _ (hc h0).1, hg _ (hc h0).2]
theorem kOK_s {ar : Nat → Nat → Nat} {h : Nat → Nat} {k v : Nat} (hk : kOK ar h k) (hT : tT ar) (hN : k < ar 0 1) (hv : v = kv ar h k) : kOK ar (va_up h k v) (k + 1) := by
  intro i hi
  have hcg : kv ar (va_up h k v) i = kv ar h i := kv_cg (fun z => (hT.2.2 i (by omega)).2.2 z) (fun q hq => va_up_ne _ _ (by omega))
  rw [hcg]
  by_cases e : i = k
  · subst e; rw [va_up_self, hv]
  · rw [va_up_ne _ _ e, hk i (by omega)]
theorem zs_up (ar : Nat → Nat → Nat) (j : Nat) (h : Nat → Nat) (k v : Nat) : zs (va_up ar j h) j k v = va_up ar j (va_up h k v) := by
  unfold zs; rw [bx_uu, va_up_self]
theorem b_z {b : Nat} (hb : b < 2) (h : nI b = 0) : b = 0 := (zn_inj (by omega) (by decide)).mp h
theorem b_o {b : Nat} (hb : b < 2) (h : ¬ nI b = 0) : b = 1 := by
  rcases (show b = 0 ∨ b = 1 by omega) with rfl | rfl
  · exact absurd rfl h
  · rfl
theorem up_lt {h : Nat → Nat} {k v n : Nat} (hh : ∀ i, i < k → h i < n) (hv : v < n) : ∀ i, i < k + 1 → va_up h k v i < n := by
  intro i hi
  by_cases e : i = k
  · subst e; rw [va_up_self]; exact hv
  · rw [va_up_ne _ _ e]; exact hh i (by omega)

theorem d_M_know_0 : decode c_M_know 0 = .ok (.iconst 0, 1) := by decide +kernel
theorem d_M_know_1 : decode c_M_know 1 = .ok (.istore_n 1, 1) := by decide +kernel
theorem d_M_know_2 : decode c_M_know 2 = .ok (.iload_n 1, 1) := by decide +kernel
theorem d_M_know_3 : decode c_M_know 3 = .ok (.aload_n 0, 1) := by decide +kernel
theorem d_M_know_4 : decode c_M_know 4 = .ok (.getfield 122, 3) := by decide +kernel
theorem d_M_know_7 : decode c_M_know 7 = .ok (.if_icmp .ge 141, 3) := by decide +kernel
theorem d_M_know_10 : decode c_M_know 10 = .ok (.aload_n 0, 1) := by decide +kernel
theorem d_M_know_11 : decode c_M_know 11 = .ok (.getfield 28, 3) := by decide +kernel
theorem d_M_know_14 : decode c_M_know 14 = .ok (.iload_n 1, 1) := by decide +kernel
theorem d_M_know_15 : decode c_M_know 15 = .ok (.iaload, 1) := by decide +kernel
theorem d_M_know_16 : decode c_M_know 16 = .ok (.ifCond .ne 28, 3) := by decide +kernel
theorem d_M_know_19 : decode c_M_know 19 = .ok (.aload_n 0, 1) := by decide +kernel
theorem d_M_know_20 : decode c_M_know 20 = .ok (.getfield 89, 3) := by decide +kernel
theorem d_M_know_23 : decode c_M_know 23 = .ok (.iload_n 1, 1) := by decide +kernel
theorem d_M_know_24 : decode c_M_know 24 = .ok (.aload_n 0, 1) := by decide +kernel
theorem d_M_know_25 : decode c_M_know 25 = .ok (.getfield 46, 3) := by decide +kernel
theorem d_M_know_28 : decode c_M_know 28 = .ok (.aload_n 0, 1) := by decide +kernel
theorem d_M_know_29 : decode c_M_know 29 = .ok (.getfield 37, 3) := by decide +kernel
theorem d_M_know_32 : decode c_M_know 32 = .ok (.iload_n 1, 1) := by decide +kernel
theorem d_M_know_33 : decode c_M_know 33 = .ok (.iaload, 1) := by decide +kernel
theorem d_M_know_34 : decode c_M_know 34 = .ok (.iaload, 1) := by decide +kernel
theorem d_M_know_35 : decode c_M_know 35 = .ok (.ifCond .lt 7, 3) := by decide +kernel
theorem d_M_know_38 : decode c_M_know 38 = .ok (.iconst 1, 1) := by decide +kernel
theorem d_M_know_39 : decode c_M_know 39 = .ok (.goto 4, 3) := by decide +kernel
theorem d_M_know_42 : decode c_M_know 42 = .ok (.iconst 0, 1) := by decide +kernel
theorem d_M_know_43 : decode c_M_know 43 = .ok (.bastore, 1) := by decide +kernel
theorem d_M_know_44 : decode c_M_know 44 = .ok (.aload_n 0, 1) := by decide +kernel
theorem d_M_know_45 : decode c_M_know 45 = .ok (.getfield 28, 3) := by decide +kernel
theorem d_M_know_48 : decode c_M_know 48 = .ok (.iload_n 1, 1) := by decide +kernel
theorem d_M_know_49 : decode c_M_know 49 = .ok (.iaload, 1) := by decide +kernel
theorem d_M_know_50 : decode c_M_know 50 = .ok (.iconst 1, 1) := by decide +kernel
theorem d_M_know_51 : decode c_M_know 51 = .ok (.if_icmp .ne 42, 3) := by decide +kernel
theorem d_M_know_54 : decode c_M_know 54 = .ok (.aload_n 0, 1) := by decide +kernel
theorem d_M_know_55 : decode c_M_know 55 = .ok (.getfield 89, 3) := by decide +kernel
theorem d_M_know_58 : decode c_M_know 58 = .ok (.iload_n 1, 1) := by decide +kernel
theorem d_M_know_59 : decode c_M_know 59 = .ok (.aload_n 0, 1) := by decide +kernel
theorem d_M_know_60 : decode c_M_know 60 = .ok (.getfield 89, 3) := by decide +kernel
theorem d_M_know_63 : decode c_M_know 63 = .ok (.aload_n 0, 1) := by decide +kernel
theorem d_M_know_64 : decode c_M_know 64 = .ok (.getfield 31, 3) := by decide +kernel
theorem d_M_know_67 : decode c_M_know 67 = .ok (.iload_n 1, 1) := by decide +kernel
theorem d_M_know_68 : decode c_M_know 68 = .ok (.iaload, 1) := by decide +kernel
theorem d_M_know_69 : decode c_M_know 69 = .ok (.baload, 1) := by decide +kernel
theorem d_M_know_70 : decode c_M_know 70 = .ok (.ifCond .eq 21, 3) := by decide +kernel
theorem d_M_know_73 : decode c_M_know 73 = .ok (.aload_n 0, 1) := by decide +kernel
theorem d_M_know_74 : decode c_M_know 74 = .ok (.getfield 89, 3) := by decide +kernel
theorem d_M_know_77 : decode c_M_know 77 = .ok (.aload_n 0, 1) := by decide +kernel
theorem d_M_know_78 : decode c_M_know 78 = .ok (.getfield 34, 3) := by decide +kernel
theorem d_M_know_81 : decode c_M_know 81 = .ok (.iload_n 1, 1) := by decide +kernel
theorem d_M_know_82 : decode c_M_know 82 = .ok (.iaload, 1) := by decide +kernel
theorem d_M_know_83 : decode c_M_know 83 = .ok (.baload, 1) := by decide +kernel
theorem d_M_know_84 : decode c_M_know 84 = .ok (.ifCond .eq 7, 3) := by decide +kernel
theorem d_M_know_87 : decode c_M_know 87 = .ok (.iconst 1, 1) := by decide +kernel
theorem d_M_know_88 : decode c_M_know 88 = .ok (.goto 4, 3) := by decide +kernel
theorem d_M_know_91 : decode c_M_know 91 = .ok (.iconst 0, 1) := by decide +kernel
theorem d_M_know_92 : decode c_M_know 92 = .ok (.bastore, 1) := by decide +kernel
theorem d_M_know_93 : decode c_M_know 93 = .ok (.aload_n 0, 1) := by decide +kernel
theorem d_M_know_94 : decode c_M_know 94 = .ok (.getfield 28, 3) := by decide +kernel
theorem d_M_know_97 : decode c_M_know 97 = .ok (.iload_n 1, 1) := by decide +kernel
theorem d_M_know_98 : decode c_M_know 98 = .ok (.iaload, 1) := by decide +kernel
theorem d_M_know_99 : decode c_M_know 99 = .ok (.iconst 2, 1) := by decide +kernel
theorem d_M_know_100 : decode c_M_know 100 = .ok (.if_icmp .ne 42, 3) := by decide +kernel
theorem d_M_know_103 : decode c_M_know 103 = .ok (.aload_n 0, 1) := by decide +kernel
theorem d_M_know_104 : decode c_M_know 104 = .ok (.getfield 89, 3) := by decide +kernel
theorem d_M_know_107 : decode c_M_know 107 = .ok (.iload_n 1, 1) := by decide +kernel
theorem d_M_know_108 : decode c_M_know 108 = .ok (.aload_n 0, 1) := by decide +kernel
theorem d_M_know_109 : decode c_M_know 109 = .ok (.getfield 89, 3) := by decide +kernel
theorem d_M_know_112 : decode c_M_know 112 = .ok (.aload_n 0, 1) := by decide +kernel
theorem d_M_know_113 : decode c_M_know 113 = .ok (.getfield 31, 3) := by decide +kernel
theorem d_M_know_116 : decode c_M_know 116 = .ok (.iload_n 1, 1) := by decide +kernel
theorem d_M_know_117 : decode c_M_know 117 = .ok (.iaload, 1) := by decide +kernel
theorem d_M_know_118 : decode c_M_know 118 = .ok (.baload, 1) := by decide +kernel
theorem d_M_know_119 : decode c_M_know 119 = .ok (.ifCond .ne 17, 3) := by decide +kernel
theorem d_M_know_122 : decode c_M_know 122 = .ok (.aload_n 0, 1) := by decide +kernel
theorem d_M_know_123 : decode c_M_know 123 = .ok (.getfield 89, 3) := by decide +kernel
theorem d_M_know_126 : decode c_M_know 126 = .ok (.aload_n 0, 1) := by decide +kernel
theorem d_M_know_127 : decode c_M_know 127 = .ok (.getfield 34, 3) := by decide +kernel
theorem d_M_know_130 : decode c_M_know 130 = .ok (.iload_n 1, 1) := by decide +kernel
theorem d_M_know_131 : decode c_M_know 131 = .ok (.iaload, 1) := by decide +kernel
theorem d_M_know_132 : decode c_M_know 132 = .ok (.baload, 1) := by decide +kernel
theorem d_M_know_133 : decode c_M_know 133 = .ok (.ifCond .eq 7, 3) := by decide +kernel
theorem d_M_know_136 : decode c_M_know 136 = .ok (.iconst 1, 1) := by decide +kernel
theorem d_M_know_137 : decode c_M_know 137 = .ok (.goto 4, 3) := by decide +kernel
theorem d_M_know_140 : decode c_M_know 140 = .ok (.iconst 0, 1) := by decide +kernel
theorem d_M_know_141 : decode c_M_know 141 = .ok (.bastore, 1) := by decide +kernel
theorem d_M_know_142 : decode c_M_know 142 = .ok (.iinc 1 1, 3) := by decide +kernel
theorem d_M_know_145 : decode c_M_know 145 = .ok (.goto (-143), 3) := by decide +kernel
theorem d_M_know_148 : decode c_M_know 148 = .ok (.return_, 1) := by decide +kernel

section MK
variable {p : Program} {l : Launch} {e : Env} {R : Room} {s : State} {m : MethodId} {args : Array Value} {below : List Frame} {meth : Method} {c : Code} {H0 : Heap} {cells slots : Nat} {Q : State → Prop} {A : Nat → Prop} {D : va_G} {ca : Nat → ClassId} {am : Nat → Nat} {ar : Nat → Nat → Nat}
set_option maxHeartbeats 4000000 in
set_option maxRecDepth 100000 in
theorem know_loop (hx : p.tables.exec = Jvm.exec) (hb : c.code = c_M_know) (hml : c.maxLocals = 2) (hown : s.vm.findClass R_M = some m.cls) (hts : ∀ w ∈ zT, w.before args s = true) (hK : va_K D zC (zty ca) s) (hD : zD A 28 am) (hT : tT ar) (hw : ∀ i, i < 8 → ar 13 i < 2 ^ 32) (kk : ∀ (h : Nat → Nat) (H : Heap) (locs : List Loc) (ls : Array Slot), kOK ar h (ar 0 1) → (∀ k, k < ar 0 1 → h k < 2) → va_P D zC (zl 28 am (mct ca am (va_up ar 27 h))) H → va_S A H0 H locs → W p l e R s m args below meth c H locs cells slots Q (F0 m 148 ls [])) : ∀ (j k : Nat), k + j = ar 0 1 → ∀ (h : Nat → Nat) (H : Heap) (locs : List Loc) (ls : Array Slot), kOK ar h k → (∀ i, i < k → h i < 2) → va_P D zC (zl 28 am (mct ca am (va_up ar 27 h))) H → va_S A H0 H locs → lv_has ls 2 [(1, .int (nI k)), (0, .ref (am 0))] → W p l e R s m args below meth c H locs cells slots Q (F0 m 2 ls []) := by
  have hs1 := hT.1
  have hl2 := hT.2.1
  intro j
  induction j with
  | zero =>
    intro k hk h H locs ls hk0 hh hP hS hl
    obtain rfl : k = ar 0 1 := by omega
    refine lv_iload_n hx hb d_M_know_2 rfl (lv_at hl 0 rfl) ?_
    refine lv_aload_n hx hb d_M_know_3 rfl (lv_at hl 1 rfl) ?_
    refine mm_get hx hb hts hown hK hP (index := 122) 28 (by decide) mf_M_122 (v := .int (nI (ar 0 1))) rfl d_M_know_4 ?_
    refine lv_icmp_ge (tgt := 148) hx hb d_M_know_7 rfl (fun h7 => ?_) (fun h7 => absurd (Int32.le_refl _) h7)
    exact kk h H locs ls hk0 hh hP hS
  | succ j ih =>
    intro k hk h H locs ls hk0 hh hP hS hl
    have hN : k < ar 0 1 := by omega
    obtain ⟨hkd, hlf, hch⟩ := hT.2.2 k hN
    rcases (show ar 7 k = 0 ∨ ar 7 k = 1 ∨ ar 7 k = 2 by omega) with c0 | c0 | c0
    · skip
      have hlf := hlf c0
      refine lv_iload_n hx hb d_M_know_2 rfl (lv_at hl 0 rfl) ?_
      refine lv_aload_n hx hb d_M_know_3 rfl (lv_at hl 1 rfl) ?_
      refine mm_get hx hb hts hown hK hP (index := 122) 28 (by decide) mf_M_122 (v := .int (nI (ar 0 1))) rfl d_M_know_4 ?_
      refine lv_icmp_ge (tgt := 148) hx hb d_M_know_7 rfl (fun h7 => absurd h7 (nI_ge hN (by omega))) (fun h7 => ?_)
      refine lv_aload_n hx hb d_M_know_10 rfl (lv_at hl 1 rfl) ?_
      refine mm_get hx hb hts hown hK hP (index := 28) 6 (by decide) mf_M_28 (v := .ref (am 7)) rfl d_M_know_11 ?_
      refine lv_iload_n hx hb d_M_know_14 rfl (lv_at hl 0 rfl) ?_
      refine mm_ald hx hb hK hP 6 (by decide) rfl (k) rfl (show k < 15 from by omega) (ar 7 k) (rfl) d_M_know_15 ?_
      refine lv_if_ne (tgt := 44) hx hb d_M_know_16 rfl (fun h16 => absurd (by rw [c0]; rfl) h16) (fun h16 => ?_)
      refine lv_aload_n hx hb d_M_know_19 rfl (lv_at hl 1 rfl) ?_
      refine mm_get hx hb hts hown hK hP (index := 89) 26 (by decide) mf_M_89 (v := .ref (am 27)) rfl d_M_know_20 ?_
      refine lv_iload_n hx hb d_M_know_23 rfl (lv_at hl 0 rfl) ?_
      refine lv_aload_n hx hb d_M_know_24 rfl (lv_at hl 1 rfl) ?_
      refine mm_get hx hb hts hown hK hP (index := 46) 12 (by decide) mf_M_46 (v := .ref (am 13)) rfl d_M_know_25 ?_
      refine lv_aload_n hx hb d_M_know_28 rfl (lv_at hl 1 rfl) ?_
      refine mm_get hx hb hts hown hK hP (index := 37) 9 (by decide) mf_M_37 (v := .ref (am 10)) rfl d_M_know_29 ?_
      refine lv_iload_n hx hb d_M_know_32 rfl (lv_at hl 0 rfl) ?_
      refine mm_ald hx hb hK hP 9 (by decide) rfl (k) rfl (show k < 15 from by omega) (ar 10 k) (rfl) d_M_know_33 ?_
      refine mm_ald hx hb hK hP 12 (by decide) rfl (ar 10 k) rfl (show ar 10 k < 8 from by omega) (ar 13 (ar 10 k)) (rfl) d_M_know_34 ?_
      refine lv_if_lt (tgt := 42) hx hb d_M_know_35 rfl (fun h35 => ?_) (fun h35 => ?_)
      · skip
        have w := (zn_lt0 (hw _ (by omega))).mp h35
        have hv : 0 = kv ar h k := by unfold kv; rw [if_pos c0, if_neg (by omega)]
        refine lv_iconst (v := 0) hx hb d_M_know_42 rfl ?_
        refine mm_zast hx hb hK hP hD hS 26 (by decide) rfl (k) rfl (show k < 15 from by omega) (0) (rfl) (by decide) d_M_know_43 (fun H locs hP hS => ?_)
        refine lv_aload_n hx hb d_M_know_44 rfl (lv_at hl 1 rfl) ?_
        refine mm_get hx hb hts hown hK hP (index := 28) 6 (by decide) mf_M_28 (v := .ref (am 7)) rfl d_M_know_45 ?_
        refine lv_iload_n hx hb d_M_know_48 rfl (lv_at hl 0 rfl) ?_
        refine mm_ald hx hb hK hP 6 (by decide) rfl (k) rfl (show k < 15 from by omega) (ar 7 k) (rfl) d_M_know_49 ?_
        refine lv_iconst (v := 1) hx hb d_M_know_50 rfl ?_
        refine lv_icmp_ne (tgt := 93) hx hb d_M_know_51 rfl (fun h51 => ?_) (fun h51 => absurd h51 (by rw [c0]; decide))
        refine lv_aload_n hx hb d_M_know_93 rfl (lv_at hl 1 rfl) ?_
        refine mm_get hx hb hts hown hK hP (index := 28) 6 (by decide) mf_M_28 (v := .ref (am 7)) rfl d_M_know_94 ?_
        refine lv_iload_n hx hb d_M_know_97 rfl (lv_at hl 0 rfl) ?_
        refine mm_ald hx hb hK hP 6 (by decide) rfl (k) rfl (show k < 15 from by omega) (ar 7 k) (rfl) d_M_know_98 ?_
        refine lv_iconst (v := 2) hx hb d_M_know_99 rfl ?_
        refine lv_icmp_ne (tgt := 142) hx hb d_M_know_100 rfl (fun h100 => ?_) (fun h100 => absurd h100 (by rw [c0]; decide))
        refine lv_iinc (k := 0) (v := nI (k + 1)) (lv' := [(1, .int (nI (k + 1))), (0, .ref (am 0))]) hx hb d_M_know_142 hl rfl (nI_1 _) (by decide) rfl (fun ls hl => ?_)
        refine lv_goto (tgt := 2) hx hb d_M_know_145 rfl ?_
        rw [zs_up] at hP
        have hl := lv_sub (l' := [(1, .int (nI (k + 1))), (0, .ref (am 0))]) hl [0, 1] rfl
        exact ih (k + 1) (by omega) (va_up h k 0) H locs ls (kOK_s hk0 hT hN hv) (up_lt hh (by decide)) hP hS hl
      · skip
        have w := mt (zn_lt0 (hw _ (by omega))).mpr h35
        have hv : 1 = kv ar h k := by unfold kv; rw [if_pos c0, if_pos (by omega)]
        refine lv_iconst (v := 1) hx hb d_M_know_38 rfl ?_
        refine lv_goto (tgt := 43) hx hb d_M_know_39 rfl ?_
        refine mm_zast hx hb hK hP hD hS 26 (by decide) rfl (k) rfl (show k < 15 from by omega) (1) (rfl) (by decide) d_M_know_43 (fun H locs hP hS => ?_)
        refine lv_aload_n hx hb d_M_know_44 rfl (lv_at hl 1 rfl) ?_
        refine mm_get hx hb hts hown hK hP (index := 28) 6 (by decide) mf_M_28 (v := .ref (am 7)) rfl d_M_know_45 ?_
        refine lv_iload_n hx hb d_M_know_48 rfl (lv_at hl 0 rfl) ?_
        refine mm_ald hx hb hK hP 6 (by decide) rfl (k) rfl (show k < 15 from by omega) (ar 7 k) (rfl) d_M_know_49 ?_
        refine lv_iconst (v := 1) hx hb d_M_know_50 rfl ?_
        refine lv_icmp_ne (tgt := 93) hx hb d_M_know_51 rfl (fun h51 => ?_) (fun h51 => absurd h51 (by rw [c0]; decide))
        refine lv_aload_n hx hb d_M_know_93 rfl (lv_at hl 1 rfl) ?_
        refine mm_get hx hb hts hown hK hP (index := 28) 6 (by decide) mf_M_28 (v := .ref (am 7)) rfl d_M_know_94 ?_
        refine lv_iload_n hx hb d_M_know_97 rfl (lv_at hl 0 rfl) ?_
        refine mm_ald hx hb hK hP 6 (by decide) rfl (k) rfl (show k < 15 from by omega) (ar 7 k) (rfl) d_M_know_98 ?_
        refine lv_iconst (v := 2) hx hb d_M_know_99 rfl ?_
        refine lv_icmp_ne (tgt := 142) hx hb d_M_know_100 rfl (fun h100 => ?_) (fun h100 => absurd h100 (by rw [c0]; decide))
        refine lv_iinc (k := 0) (v := nI (k + 1)) (lv' := [(1, .int (nI (k + 1))), (0, .ref (am 0))]) hx hb d_M_know_142 hl rfl (nI_1 _) (by decide) rfl (fun ls hl => ?_)
        refine lv_goto (tgt := 2) hx hb d_M_know_145 rfl ?_
        rw [zs_up] at hP
        have hl := lv_sub (l' := [(1, .int (nI (k + 1))), (0, .ref (am 0))]) hl [0, 1] rfl
        exact ih (k + 1) (by omega) (va_up h k 1) H locs ls (kOK_s hk0 hT hN hv) (up_lt hh (by decide)) hP hS hl
    · skip
      have hch := hch (by rw [c0]; decide)
      have hb1 := hh _ hch.1
      have hb2 := hh _ hch.2
      refine lv_iload_n hx hb d_M_know_2 rfl (lv_at hl 0 rfl) ?_
      refine lv_aload_n hx hb d_M_know_3 rfl (lv_at hl 1 rfl) ?_
      refine mm_get hx hb hts hown hK hP (index := 122) 28 (by decide) mf_M_122 (v := .int (nI (ar 0 1))) rfl d_M_know_4 ?_
      refine lv_icmp_ge (tgt := 148) hx hb d_M_know_7 rfl (fun h7 => absurd h7 (nI_ge hN (by omega))) (fun h7 => ?_)
      refine lv_aload_n hx hb d_M_know_10 rfl (lv_at hl 1 rfl) ?_
      refine mm_get hx hb hts hown hK hP (index := 28) 6 (by decide) mf_M_28 (v := .ref (am 7)) rfl d_M_know_11 ?_
      refine lv_iload_n hx hb d_M_know_14 rfl (lv_at hl 0 rfl) ?_
      refine mm_ald hx hb hK hP 6 (by decide) rfl (k) rfl (show k < 15 from by omega) (ar 7 k) (rfl) d_M_know_15 ?_
      refine lv_if_ne (tgt := 44) hx hb d_M_know_16 rfl (fun h16 => ?_) (fun h16 => absurd h16 (by rw [c0]; decide))
      refine lv_aload_n hx hb d_M_know_44 rfl (lv_at hl 1 rfl) ?_
      refine mm_get hx hb hts hown hK hP (index := 28) 6 (by decide) mf_M_28 (v := .ref (am 7)) rfl d_M_know_45 ?_
      refine lv_iload_n hx hb d_M_know_48 rfl (lv_at hl 0 rfl) ?_
      refine mm_ald hx hb hK hP 6 (by decide) rfl (k) rfl (show k < 15 from by omega) (ar 7 k) (rfl) d_M_know_49 ?_
      refine lv_iconst (v := 1) hx hb d_M_know_50 rfl ?_
      refine lv_icmp_ne (tgt := 93) hx hb d_M_know_51 rfl (fun h51 => absurd (by rw [c0]; rfl) h51) (fun h51 => ?_)
      refine lv_aload_n hx hb d_M_know_54 rfl (lv_at hl 1 rfl) ?_
      refine mm_get hx hb hts hown hK hP (index := 89) 26 (by decide) mf_M_89 (v := .ref (am 27)) rfl d_M_know_55 ?_
      refine lv_iload_n hx hb d_M_know_58 rfl (lv_at hl 0 rfl) ?_
      refine lv_aload_n hx hb d_M_know_59 rfl (lv_at hl 1 rfl) ?_
      refine mm_get hx hb hts hown hK hP (index := 89) 26 (by decide) mf_M_89 (v := .ref (am 27)) rfl d_M_know_60 ?_
      refine lv_aload_n hx hb d_M_know_63 rfl (lv_at hl 1 rfl) ?_
      refine mm_get hx hb hts hown hK hP (index := 31) 7 (by decide) mf_M_31 (v := .ref (am 8)) rfl d_M_know_64 ?_
      refine lv_iload_n hx hb d_M_know_67 rfl (lv_at hl 0 rfl) ?_
      refine mm_ald hx hb hK hP 7 (by decide) rfl (k) rfl (show k < 15 from by omega) (ar 8 k) (rfl) d_M_know_68 ?_
      refine mm_zald hx hb hK hP 26 (by decide) rfl (ar 8 k) rfl (show ar 8 k < 15 from by omega) (h (ar 8 k)) (rfl) d_M_know_69 ?_
      refine lv_if_eq (tgt := 91) hx hb d_M_know_70 rfl (fun h70 => ?_) (fun h70 => ?_)
      · skip
        have e1 := b_z hb1 h70
        have hv : 0 = kv ar h k := by unfold kv; rw [if_neg (by rw [c0]; decide), if_pos c0, if_neg (by rw [e1]; exact fun q => absurd q.1 (by decide))]
        refine lv_iconst (v := 0) hx hb d_M_know_91 rfl ?_
        refine mm_zast hx hb hK hP hD hS 26 (by decide) rfl (k) rfl (show k < 15 from by omega) (0) (rfl) (by decide) d_M_know_92 (fun H locs hP hS => ?_)
        refine lv_aload_n hx hb d_M_know_93 rfl (lv_at hl 1 rfl) ?_
        refine mm_get hx hb hts hown hK hP (index := 28) 6 (by decide) mf_M_28 (v := .ref (am 7)) rfl d_M_know_94 ?_
        refine lv_iload_n hx hb d_M_know_97 rfl (lv_at hl 0 rfl) ?_
        refine mm_ald hx hb hK hP 6 (by decide) rfl (k) rfl (show k < 15 from by omega) (ar 7 k) (rfl) d_M_know_98 ?_
        refine lv_iconst (v := 2) hx hb d_M_know_99 rfl ?_
        refine lv_icmp_ne (tgt := 142) hx hb d_M_know_100 rfl (fun h100 => ?_) (fun h100 => absurd h100 (by rw [c0]; decide))
        refine lv_iinc (k := 0) (v := nI (k + 1)) (lv' := [(1, .int (nI (k + 1))), (0, .ref (am 0))]) hx hb d_M_know_142 hl rfl (nI_1 _) (by decide) rfl (fun ls hl => ?_)
        refine lv_goto (tgt := 2) hx hb d_M_know_145 rfl ?_
        rw [zs_up] at hP
        have hl := lv_sub (l' := [(1, .int (nI (k + 1))), (0, .ref (am 0))]) hl [0, 1] rfl
        exact ih (k + 1) (by omega) (va_up h k 0) H locs ls (kOK_s hk0 hT hN hv) (up_lt hh (by decide)) hP hS hl
      · skip
        have e1 := b_o hb1 h70
        refine lv_aload_n hx hb d_M_know_73 rfl (lv_at hl 1 rfl) ?_
        refine mm_get hx hb hts hown hK hP (index := 89) 26 (by decide) mf_M_89 (v := .ref (am 27)) rfl d_M_know_74 ?_
        refine lv_aload_n hx hb d_M_know_77 rfl (lv_at hl 1 rfl) ?_
        refine mm_get hx hb hts hown hK hP (index := 34) 8 (by decide) mf_M_34 (v := .ref (am 9)) rfl d_M_know_78 ?_
        refine lv_iload_n hx hb d_M_know_81 rfl (lv_at hl 0 rfl) ?_
        refine mm_ald hx hb hK hP 8 (by decide) rfl (k) rfl (show k < 15 from by omega) (ar 9 k) (rfl) d_M_know_82 ?_
        refine mm_zald hx hb hK hP 26 (by decide) rfl (ar 9 k) rfl (show ar 9 k < 15 from by omega) (h (ar 9 k)) (rfl) d_M_know_83 ?_
        refine lv_if_eq (tgt := 91) hx hb d_M_know_84 rfl (fun h84 => ?_) (fun h84 => ?_)
        · skip
          have e2 := b_z hb2 h84
          have hv : 0 = kv ar h k := by unfold kv; rw [if_neg (by rw [c0]; decide), if_pos c0, if_neg (by rw [e2]; exact fun q => absurd q.2 (by decide))]
          refine lv_iconst (v := 0) hx hb d_M_know_91 rfl ?_
          refine mm_zast hx hb hK hP hD hS 26 (by decide) rfl (k) rfl (show k < 15 from by omega) (0) (rfl) (by decide) d_M_know_92 (fun H locs hP hS => ?_)
          refine lv_aload_n hx hb d_M_know_93 rfl (lv_at hl 1 rfl) ?_
          refine mm_get hx hb hts hown hK hP (index := 28) 6 (by decide) mf_M_28 (v := .ref (am 7)) rfl d_M_know_94 ?_
          refine lv_iload_n hx hb d_M_know_97 rfl (lv_at hl 0 rfl) ?_
          refine mm_ald hx hb hK hP 6 (by decide) rfl (k) rfl (show k < 15 from by omega) (ar 7 k) (rfl) d_M_know_98 ?_
          refine lv_iconst (v := 2) hx hb d_M_know_99 rfl ?_
          refine lv_icmp_ne (tgt := 142) hx hb d_M_know_100 rfl (fun h100 => ?_) (fun h100 => absurd h100 (by rw [c0]; decide))
          refine lv_iinc (k := 0) (v := nI (k + 1)) (lv' := [(1, .int (nI (k + 1))), (0, .ref (am 0))]) hx hb d_M_know_142 hl rfl (nI_1 _) (by decide) rfl (fun ls hl => ?_)
          refine lv_goto (tgt := 2) hx hb d_M_know_145 rfl ?_
          rw [zs_up] at hP
          have hl := lv_sub (l' := [(1, .int (nI (k + 1))), (0, .ref (am 0))]) hl [0, 1] rfl
          exact ih (k + 1) (by omega) (va_up h k 0) H locs ls (kOK_s hk0 hT hN hv) (up_lt hh (by decide)) hP hS hl
        · skip
          have e2 := b_o hb2 h84
          have hv : 1 = kv ar h k := by unfold kv; rw [if_neg (by rw [c0]; decide), if_pos c0, if_pos ⟨e1, e2⟩]
          refine lv_iconst (v := 1) hx hb d_M_know_87 rfl ?_
          refine lv_goto (tgt := 92) hx hb d_M_know_88 rfl ?_
          refine mm_zast hx hb hK hP hD hS 26 (by decide) rfl (k) rfl (show k < 15 from by omega) (1) (rfl) (by decide) d_M_know_92 (fun H locs hP hS => ?_)
          refine lv_aload_n hx hb d_M_know_93 rfl (lv_at hl 1 rfl) ?_
          refine mm_get hx hb hts hown hK hP (index := 28) 6 (by decide) mf_M_28 (v := .ref (am 7)) rfl d_M_know_94 ?_
          refine lv_iload_n hx hb d_M_know_97 rfl (lv_at hl 0 rfl) ?_
          refine mm_ald hx hb hK hP 6 (by decide) rfl (k) rfl (show k < 15 from by omega) (ar 7 k) (rfl) d_M_know_98 ?_
          refine lv_iconst (v := 2) hx hb d_M_know_99 rfl ?_
          refine lv_icmp_ne (tgt := 142) hx hb d_M_know_100 rfl (fun h100 => ?_) (fun h100 => absurd h100 (by rw [c0]; decide))
          refine lv_iinc (k := 0) (v := nI (k + 1)) (lv' := [(1, .int (nI (k + 1))), (0, .ref (am 0))]) hx hb d_M_know_142 hl rfl (nI_1 _) (by decide) rfl (fun ls hl => ?_)
          refine lv_goto (tgt := 2) hx hb d_M_know_145 rfl ?_
          rw [zs_up] at hP
          have hl := lv_sub (l' := [(1, .int (nI (k + 1))), (0, .ref (am 0))]) hl [0, 1] rfl
          exact ih (k + 1) (by omega) (va_up h k 1) H locs ls (kOK_s hk0 hT hN hv) (up_lt hh (by decide)) hP hS hl
    · skip
      have hch := hch (by rw [c0]; decide)
      have hb1 := hh _ hch.1
      have hb2 := hh _ hch.2
      refine lv_iload_n hx hb d_M_know_2 rfl (lv_at hl 0 rfl) ?_
      refine lv_aload_n hx hb d_M_know_3 rfl (lv_at hl 1 rfl) ?_
      refine mm_get hx hb hts hown hK hP (index := 122) 28 (by decide) mf_M_122 (v := .int (nI (ar 0 1))) rfl d_M_know_4 ?_
      refine lv_icmp_ge (tgt := 148) hx hb d_M_know_7 rfl (fun h7 => absurd h7 (nI_ge hN (by omega))) (fun h7 => ?_)
      refine lv_aload_n hx hb d_M_know_10 rfl (lv_at hl 1 rfl) ?_
      refine mm_get hx hb hts hown hK hP (index := 28) 6 (by decide) mf_M_28 (v := .ref (am 7)) rfl d_M_know_11 ?_
      refine lv_iload_n hx hb d_M_know_14 rfl (lv_at hl 0 rfl) ?_
      refine mm_ald hx hb hK hP 6 (by decide) rfl (k) rfl (show k < 15 from by omega) (ar 7 k) (rfl) d_M_know_15 ?_
      refine lv_if_ne (tgt := 44) hx hb d_M_know_16 rfl (fun h16 => ?_) (fun h16 => absurd h16 (by rw [c0]; decide))
      refine lv_aload_n hx hb d_M_know_44 rfl (lv_at hl 1 rfl) ?_
      refine mm_get hx hb hts hown hK hP (index := 28) 6 (by decide) mf_M_28 (v := .ref (am 7)) rfl d_M_know_45 ?_
      refine lv_iload_n hx hb d_M_know_48 rfl (lv_at hl 0 rfl) ?_
      refine mm_ald hx hb hK hP 6 (by decide) rfl (k) rfl (show k < 15 from by omega) (ar 7 k) (rfl) d_M_know_49 ?_
      refine lv_iconst (v := 1) hx hb d_M_know_50 rfl ?_
      refine lv_icmp_ne (tgt := 93) hx hb d_M_know_51 rfl (fun h51 => ?_) (fun h51 => absurd h51 (by rw [c0]; decide))
      refine lv_aload_n hx hb d_M_know_93 rfl (lv_at hl 1 rfl) ?_
      refine mm_get hx hb hts hown hK hP (index := 28) 6 (by decide) mf_M_28 (v := .ref (am 7)) rfl d_M_know_94 ?_
      refine lv_iload_n hx hb d_M_know_97 rfl (lv_at hl 0 rfl) ?_
      refine mm_ald hx hb hK hP 6 (by decide) rfl (k) rfl (show k < 15 from by omega) (ar 7 k) (rfl) d_M_know_98 ?_
      refine lv_iconst (v := 2) hx hb d_M_know_99 rfl ?_
      refine lv_icmp_ne (tgt := 142) hx hb d_M_know_100 rfl (fun h100 => absurd (by rw [c0]; rfl) h100) (fun h100 => ?_)
      refine lv_aload_n hx hb d_M_know_103 rfl (lv_at hl 1 rfl) ?_
      refine mm_get hx hb hts hown hK hP (index := 89) 26 (by decide) mf_M_89 (v := .ref (am 27)) rfl d_M_know_104 ?_
      refine lv_iload_n hx hb d_M_know_107 rfl (lv_at hl 0 rfl) ?_
      refine lv_aload_n hx hb d_M_know_108 rfl (lv_at hl 1 rfl) ?_
      refine mm_get hx hb hts hown hK hP (index := 89) 26 (by decide) mf_M_89 (v := .ref (am 27)) rfl d_M_know_109 ?_
      refine lv_aload_n hx hb d_M_know_112 rfl (lv_at hl 1 rfl) ?_
      refine mm_get hx hb hts hown hK hP (index := 31) 7 (by decide) mf_M_31 (v := .ref (am 8)) rfl d_M_know_113 ?_
      refine lv_iload_n hx hb d_M_know_116 rfl (lv_at hl 0 rfl) ?_
      refine mm_ald hx hb hK hP 7 (by decide) rfl (k) rfl (show k < 15 from by omega) (ar 8 k) (rfl) d_M_know_117 ?_
      refine mm_zald hx hb hK hP 26 (by decide) rfl (ar 8 k) rfl (show ar 8 k < 15 from by omega) (h (ar 8 k)) (rfl) d_M_know_118 ?_
      refine lv_if_ne (tgt := 136) hx hb d_M_know_119 rfl (fun h119 => ?_) (fun h119 => ?_)
      · skip
        have e1 := b_o hb1 h119
        have hv : 1 = kv ar h k := by unfold kv; rw [if_neg (by rw [c0]; decide), if_neg (by rw [c0]; decide), if_pos (Or.inl e1)]
        refine lv_iconst (v := 1) hx hb d_M_know_136 rfl ?_
        refine lv_goto (tgt := 141) hx hb d_M_know_137 rfl ?_
        refine mm_zast hx hb hK hP hD hS 26 (by decide) rfl (k) rfl (show k < 15 from by omega) (1) (rfl) (by decide) d_M_know_141 (fun H locs hP hS => ?_)
        refine lv_iinc (k := 0) (v := nI (k + 1)) (lv' := [(1, .int (nI (k + 1))), (0, .ref (am 0))]) hx hb d_M_know_142 hl rfl (nI_1 _) (by decide) rfl (fun ls hl => ?_)
        refine lv_goto (tgt := 2) hx hb d_M_know_145 rfl ?_
        rw [zs_up] at hP
        have hl := lv_sub (l' := [(1, .int (nI (k + 1))), (0, .ref (am 0))]) hl [0, 1] rfl
        exact ih (k + 1) (by omega) (va_up h k 1) H locs ls (kOK_s hk0 hT hN hv) (up_lt hh (by decide)) hP hS hl
      · skip
        have e1 := b_z hb1 h119
        refine lv_aload_n hx hb d_M_know_122 rfl (lv_at hl 1 rfl) ?_
        refine mm_get hx hb hts hown hK hP (index := 89) 26 (by decide) mf_M_89 (v := .ref (am 27)) rfl d_M_know_123 ?_
        refine lv_aload_n hx hb d_M_know_126 rfl (lv_at hl 1 rfl) ?_
        refine mm_get hx hb hts hown hK hP (index := 34) 8 (by decide) mf_M_34 (v := .ref (am 9)) rfl d_M_know_127 ?_
        refine lv_iload_n hx hb d_M_know_130 rfl (lv_at hl 0 rfl) ?_
        refine mm_ald hx hb hK hP 8 (by decide) rfl (k) rfl (show k < 15 from by omega) (ar 9 k) (rfl) d_M_know_131 ?_
        refine mm_zald hx hb hK hP 26 (by decide) rfl (ar 9 k) rfl (show ar 9 k < 15 from by omega) (h (ar 9 k)) (rfl) d_M_know_132 ?_
        refine lv_if_eq (tgt := 140) hx hb d_M_know_133 rfl (fun h133 => ?_) (fun h133 => ?_)
        · skip
          have e2 := b_z hb2 h133
          have hv : 0 = kv ar h k := by unfold kv; rw [if_neg (by rw [c0]; decide), if_neg (by rw [c0]; decide), if_neg (by rw [e1, e2]; decide)]
          refine lv_iconst (v := 0) hx hb d_M_know_140 rfl ?_
          refine mm_zast hx hb hK hP hD hS 26 (by decide) rfl (k) rfl (show k < 15 from by omega) (0) (rfl) (by decide) d_M_know_141 (fun H locs hP hS => ?_)
          refine lv_iinc (k := 0) (v := nI (k + 1)) (lv' := [(1, .int (nI (k + 1))), (0, .ref (am 0))]) hx hb d_M_know_142 hl rfl (nI_1 _) (by decide) rfl (fun ls hl => ?_)
          refine lv_goto (tgt := 2) hx hb d_M_know_145 rfl ?_
          rw [zs_up] at hP
          have hl := lv_sub (l' := [(1, .int (nI (k + 1))), (0, .ref (am 0))]) hl [0, 1] rfl
          exact ih (k + 1) (by omega) (va_up h k 0) H locs ls (kOK_s hk0 hT hN hv) (up_lt hh (by decide)) hP hS hl
        · skip
          have e2 := b_o hb2 h133
          have hv : 1 = kv ar h k := by unfold kv; rw [if_neg (by rw [c0]; decide), if_neg (by rw [c0]; decide), if_pos (Or.inr e2)]
          refine lv_iconst (v := 1) hx hb d_M_know_136 rfl ?_
          refine lv_goto (tgt := 141) hx hb d_M_know_137 rfl ?_
          refine mm_zast hx hb hK hP hD hS 26 (by decide) rfl (k) rfl (show k < 15 from by omega) (1) (rfl) (by decide) d_M_know_141 (fun H locs hP hS => ?_)
          refine lv_iinc (k := 0) (v := nI (k + 1)) (lv' := [(1, .int (nI (k + 1))), (0, .ref (am 0))]) hx hb d_M_know_142 hl rfl (nI_1 _) (by decide) rfl (fun ls hl => ?_)
          refine lv_goto (tgt := 2) hx hb d_M_know_145 rfl ?_
          rw [zs_up] at hP
          have hl := lv_sub (l' := [(1, .int (nI (k + 1))), (0, .ref (am 0))]) hl [0, 1] rfl
          exact ih (k + 1) (by omega) (va_up h k 1) H locs ls (kOK_s hk0 hT hN hv) (up_lt hh (by decide)) hP hS hl
end MK

theorem va_up_row (ar : Nat → Nat → Nat) (j : Nat) : va_up ar j (ar j) = ar := by
  funext q
  unfold va_up
  split
  · rename_i h; rw [h]
  · rfl

set_option maxHeartbeats 4000000 in
set_option maxRecDepth 100000 in
/-- know() -/
theorem k_knowM (l : Launch) (D : va_G) (ca : Nat → ClassId) (am : Nat → Nat) (ar : Nat → Nat → Nat) (hI : mI am) (hT : tT ar) (hw : ∀ i, i < 8 → ar 13 i < 2 ^ 32) : Met l y_M_know (Cond.code y_M_know c_M_know 2 none :: zT) ({ frames := 1, cells := 0, slots := 0, locals := 40 }) (va_Pc [.ref (am 0)] (mw D ca am ar)) (va_Qv (fun ar1 => ∃ h : Nat → Nat, kOK ar h (ar 0 1) ∧ (∀ k, k < ar 0 1 → h k < 2) ∧ ar1 = va_up ar 27 h) (mw D ca am) (mA am)) 0 0 (mA am) := by
  refine Met.ofW (cc := c_M_know) (maxL := 2) (ret := none) (by decide) rfl ?_
  intro p e s m args below meth c s₁ B hml hv
  obtain ⟨rfl, hK, hP⟩ := hv
  have hx := B.exec
  have hb := B.bytes
  have hr := B.returns
  have hts0 := atoms_spec (ws := Cond.code y_M_know c_M_know 2 none :: zT) B.pre
  have hts := fun w h => hts0 w (List.mem_cons_of_mem _ h)
  have hown : s.vm.findClass R_M = some m.cls := findClass_of_methodNamed B.named
  have hlocks := B.notSynchronized
  have hD := mI_D hI
  have hS : va_S (mA am) s.heap s.heap [] := va_S.rf
  have hAA : ∀ q, mA am q → mA am q := fun _ h => h
  have hl := lv_entry ([.ref (am 0)]) (n := 2) (Nat.le_of_ble_eq_true rfl)
  rw [lg_entry_eq]
  generalize (lg_sl ([.ref (am 0)]) ++ List.replicate (2 - (lg_sl ([.ref (am 0)])).length) Slot.unset).toArray = ls at hl ⊢
  have hl : lv_has ls 2 [(0, .ref (am 0))] := hl
  skip
  refine lv_iconst (v := 0) hx hb d_M_know_0 rfl ?_
  refine lv_istore_n (lv' := [(1, .int 0), (0, .ref (am 0))]) hx hb d_M_know_1 rfl hl (by decide) rfl (fun ls hl => ?_)
  have hP : va_P D zC (zl 28 am (mct ca am (va_up ar 27 (ar 27)))) s.heap := by rw [va_up_row]; exact hP
  refine know_loop hx hb hml hown hts hK hD hT hw (fun h H locs ls hk hh hP hS => ?_) (ar 0 1) 0 (Nat.zero_add _) (ar 27) s.heap [] ls (fun _ q => absurd q (Nat.not_lt_zero _)) (fun _ q => absurd q (Nat.not_lt_zero _)) hP hS hl
  exact W.vret hx hb hr (fun t ht hW => ⟨⟨va_up ar 27 h, rfl, ⟨h, hk, hh, rfl⟩, va_K.moved hW.alike hK, by rw [ht]; exact hP⟩, hS.F ht⟩) hS.2.2 d_M_know_148

theorem d_M_known_0 : decode c_M_known 0 = .ok (.aload_n 0, 1) := by decide +kernel
theorem d_M_known_1 : decode c_M_known 1 = .ok (.invokevirtual 142, 3) := by decide +kernel
theorem d_M_known_4 : decode c_M_known 4 = .ok (.aload_n 0, 1) := by decide +kernel
theorem d_M_known_5 : decode c_M_known 5 = .ok (.getfield 122, 3) := by decide +kernel
theorem d_M_known_8 : decode c_M_known 8 = .ok (.ifCond .le 21, 3) := by decide +kernel
theorem d_M_known_11 : decode c_M_known 11 = .ok (.aload_n 0, 1) := by decide +kernel
theorem d_M_known_12 : decode c_M_known 12 = .ok (.getfield 89, 3) := by decide +kernel
theorem d_M_known_15 : decode c_M_known 15 = .ok (.aload_n 0, 1) := by decide +kernel
theorem d_M_known_16 : decode c_M_known 16 = .ok (.getfield 122, 3) := by decide +kernel
theorem d_M_known_19 : decode c_M_known 19 = .ok (.iconst 1, 1) := by decide +kernel
theorem d_M_known_20 : decode c_M_known 20 = .ok (.isub, 1) := by decide +kernel
theorem d_M_known_21 : decode c_M_known 21 = .ok (.baload, 1) := by decide +kernel
theorem d_M_known_22 : decode c_M_known 22 = .ok (.ifCond .eq 7, 3) := by decide +kernel
theorem d_M_known_25 : decode c_M_known 25 = .ok (.iconst 1, 1) := by decide +kernel
theorem d_M_known_26 : decode c_M_known 26 = .ok (.goto 4, 3) := by decide +kernel
theorem d_M_known_29 : decode c_M_known 29 = .ok (.iconst 0, 1) := by decide +kernel
theorem d_M_known_30 : decode c_M_known 30 = .ok (.ireturn, 1) := by decide +kernel

set_option maxHeartbeats 4000000 in
set_option maxRecDepth 100000 in
/-- known() -/
theorem k_knownM (l : Launch) (D : va_G) (ca : Nat → ClassId) (am : Nat → Nat) (ar : Nat → Nat → Nat) (hI : mI am) (hT : tT ar) (hw : ∀ i, i < 8 → ar 13 i < 2 ^ 32) : Met l y_M_known (Cond.code y_M_known c_M_known 1 (some .boolean) :: zT) ({ frames := 2, cells := 0, slots := 0, locals := 80 }) (va_Pc [.ref (am 0)] (mw D ca am ar)) (va_Qi (fun r ar1 => ∃ h : Nat → Nat, kOK ar h (ar 0 1) ∧ (∀ k, k < ar 0 1 → h k < 2) ∧ ar1 = va_up ar 27 h ∧ r = zb (decide (0 < ar 0 1) && decide (h (ar 0 1 - 1) = 1))) (mw D ca am) (mA am)) 0 0 (mA am) := by
  refine Met.ofW (cc := c_M_known) (maxL := 1) (ret := (some .boolean)) (by decide) rfl ?_
  intro p e s m args below meth c s₁ B hml hv
  obtain ⟨rfl, hK, hP⟩ := hv
  have hx := B.exec
  have hb := B.bytes
  have hr := B.returns
  have hts0 := atoms_spec (ws := Cond.code y_M_known c_M_known 1 (some .boolean) :: zT) B.pre
  have hts := fun w h => hts0 w (List.mem_cons_of_mem _ h)
  have hown : s.vm.findClass R_M = some m.cls := findClass_of_methodNamed B.named
  have hlocks := B.notSynchronized
  have hD := mI_D hI
  have hS : va_S (mA am) s.heap s.heap [] := va_S.rf
  have hAA : ∀ q, mA am q → mA am q := fun _ h => h
  have hl := lv_entry ([.ref (am 0)]) (n := 1) (Nat.le_of_ble_eq_true rfl)
  rw [lg_entry_eq]
  generalize (lg_sl ([.ref (am 0)]) ++ List.replicate (1 - (lg_sl ([.ref (am 0)])).length) Slot.unset).toArray = ls at hl ⊢
  have hl : lv_has ls 1 [(0, .ref (am 0))] := hl
  skip
  refine lv_aload_n hx hb d_M_known_0 rfl (lv_at hl 0 rfl) ?_
  refine mm_cv (index := 142) (n := 0) (As := []) (rest := []) ⟨hx, hb, hml, hown, hts⟩ (k_knowM l D ca am (ar) hI hT hw) mk_M_142 mo_M_know me_M_M_know_M mi_M mc_M_know (by decide +kernel) ⟨rfl, rfl⟩ ⟨by decide, by decide⟩ hK hP hS hAA rfl hl.1 rfl (Nat.le_of_ble_eq_true rfl) d_M_known_1 ⟨Nat.zero_le _, Nat.zero_le _⟩ (fun ar1 H locs hpost hP hS => ?_)
  obtain ⟨h, hk, hh, rfl⟩ := hpost
  have hs1 := hT.1
  refine lv_aload_n hx hb d_M_known_4 rfl (lv_at hl 0 rfl) ?_
  refine mm_get hx hb hts hown hK hP (index := 122) 28 (by decide) mf_M_122 (v := .int (nI (ar 0 1))) rfl d_M_known_5 ?_
  refine lv_if_le (tgt := 29) hx hb d_M_known_8 rfl (fun h8 => ?_) (fun h8 => ?_)
  · skip
    have z : ¬ 0 < ar 0 1 := fun q => nI_nle q (by omega) h8
    have hq : (decide (0 < ar 0 1) && decide (h (ar 0 1 - 1) = 1)) = false := by rw [decide_eq_false z, Bool.false_and]
    refine lv_iconst (v := 0) hx hb d_M_known_29 rfl ?_
    exact W.zret hx hb hr (rfl) (fun t ht hW => ⟨⟨_, va_up ar 27 h, rfl, ⟨h, hk, hh, rfl, by rw [hq]; rfl⟩, va_K.moved hW.alike hK, by rw [ht]; exact hP⟩, hS.F ht⟩) hS.2.2 d_M_known_30
  · skip
    have z : 0 < ar 0 1 := by
      rcases Nat.eq_zero_or_pos (ar 0 1) with q | q
      · exact absurd (by rw [q]; decide) h8
      · exact q
    have hb1 := hh (ar 0 1 - 1) (by omega)
    refine lv_aload_n hx hb d_M_known_11 rfl (lv_at hl 0 rfl) ?_
    refine mm_get hx hb hts hown hK hP (index := 89) 26 (by decide) mf_M_89 (v := .ref (am 27)) rfl d_M_known_12 ?_
    refine lv_aload_n hx hb d_M_known_15 rfl (lv_at hl 0 rfl) ?_
    refine mm_get hx hb hts hown hK hP (index := 122) 28 (by decide) mf_M_122 (v := .int (nI (ar 0 1))) rfl d_M_known_16 ?_
    refine lv_iconst (v := 1) hx hb d_M_known_19 rfl ?_
    refine lv_isub hx hb d_M_known_20 ?_
    refine zz_as (y := nI ((ar 0 1) - 1)) (pk_sub (a := ar 0 1) (b := 1) (by omega)) ?_
    refine mm_zald hx hb hK hP 26 (by decide) rfl ((ar 0 1) - 1) rfl (show (ar 0 1) - 1 < 15 from by omega) (h ((ar 0 1) - 1)) (rfl) d_M_known_21 ?_
    refine lv_if_eq (tgt := 29) hx hb d_M_known_22 rfl (fun h22 => ?_) (fun h22 => ?_)
    · skip
      have hq : (decide (0 < ar 0 1) && decide (h (ar 0 1 - 1) = 1)) = false := by rw [b_z hb1 h22, Bool.and_comm]; rfl
      refine lv_iconst (v := 0) hx hb d_M_known_29 rfl ?_
      exact W.zret hx hb hr (rfl) (fun t ht hW => ⟨⟨_, va_up ar 27 h, rfl, ⟨h, hk, hh, rfl, by rw [hq]; rfl⟩, va_K.moved hW.alike hK, by rw [ht]; exact hP⟩, hS.F ht⟩) hS.2.2 d_M_known_30
    · skip
      have hq : (decide (0 < ar 0 1) && decide (h (ar 0 1 - 1) = 1)) = true := by rw [decide_eq_true z, b_o hb1 h22]; rfl
      refine lv_iconst (v := 1) hx hb d_M_known_25 rfl ?_
      refine lv_goto (tgt := 30) hx hb d_M_known_26 rfl ?_
      exact W.zret hx hb hr (rfl) (fun t ht hW => ⟨⟨_, va_up ar 27 h, rfl, ⟨h, hk, hh, rfl, by rw [hq]; rfl⟩, va_K.moved hW.alike hK, by rw [ht]; exact hP⟩, hS.F ht⟩) hS.2.2 d_M_known_30
