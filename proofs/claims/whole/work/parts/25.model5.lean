/-! the model's commitTree -/
theorem zb_if (b : Bool) : nI (if b then 1 else 0) = zb b := by cases b <;> rfl
theorem if_lt2 (b : Bool) : (if b then 1 else 0) < 2 := by cases b <;> decide
theorem cm_or5 {kd lf rt lv : Nat → Nat} {k : Nat} (h0 : kd k = 2) (hl : lf k < k) (hr : rt k < k) (real : Bool) (c : Nat) (ar : Nat → Nat → Nat) : cm kd lf rt lv k real c ar = cm kd lf rt lv (rt k) (real && !(real && decide (ar 27 (lf k) = 1))) (if real then dv (dr (ar 0 5)) else ls5 c (dv (dr (ar 0 5))))
      (cm kd lf rt lv (lf k) (real && decide (ar 27 (lf k) = 1)) (dv (dr (ar 0 5))) (cmO k (real && decide (ar 27 (lf k) = 1)) ar)) := by
  rw [cm_or h0 hl hr]; rfl
theorem lat2 (sc : Nat → Nat → Nat) (t r l b1 c1 b2 c2 : Nat) (h : r ≠ l) : (lat (lat (zs sc 0 6 t) r b1 c1) l b2 c2) 0 6 = t + 1 + 1 ∧ (lat (lat (zs sc 0 6 t) r b1 c1) l b2 c2) 23 (t + 1) = l ∧ (lat (lat (zs sc 0 6 t) r b1 c1) l b2 c2) 23 t = r ∧ (∀ i, i < t → (lat (lat (zs sc 0 6 t) r b1 c1) l b2 c2) 23 i = sc 23 i) ∧ (lat (lat (zs sc 0 6 t) r b1 c1) l b2 c2) 24 l = c2 ∧ (lat (lat (zs sc 0 6 t) r b1 c1) l b2 c2) 25 l = b2 ∧ (lat (lat (zs sc 0 6 t) r b1 c1) l b2 c2) 24 r = c1 ∧ (lat (lat (zs sc 0 6 t) r b1 c1) l b2 c2) 25 r = b1 ∧ (∀ i, i ≠ l → i ≠ r → (lat (lat (zs sc 0 6 t) r b1 c1) l b2 c2) 24 i = sc 24 i ∧ (lat (lat (zs sc 0 6 t) r b1 c1) l b2 c2) 25 i = sc 25 i) := by
  have e : (zs sc 0 6 t) 0 6 = t := zs_eq _ _ _ _
  have e23 : ∀ i, (zs sc 0 6 t) 23 i = sc 23 i := fun i => zs_nj _ _ _ _ (by decide)
  have e24 : ∀ i, (zs sc 0 6 t) 24 i = sc 24 i := fun i => zs_nj _ _ _ _ (by decide)
  have e25 : ∀ i, (zs sc 0 6 t) 25 i = sc 25 i := fun i => zs_nj _ _ _ _ (by decide)
  refine ⟨?_, ?_, ?_, fun i hi => ?_, ?_, ?_, ?_, ?_, fun i h1 h2 => ⟨?_, ?_⟩⟩
  · rw [lat_06, lat_06, e]
  · rw [lat_23, lat_06, e, if_pos rfl]
  · rw [lat_23, lat_06, e, if_neg (by omega), lat_23, e, if_pos rfl]
  · rw [lat_23, lat_06, e, if_neg (by omega), lat_23, e, if_neg (by omega), e23]
  · rw [lat_24, if_pos rfl]
  · rw [lat_25, if_pos rfl]
  · rw [lat_24, if_neg h, lat_24, if_pos rfl]
  · rw [lat_25, if_neg h, lat_25, if_pos rfl]
  · rw [lat_24, if_neg h1, lat_24, if_neg h2, e24]
  · rw [lat_25, if_neg h1, lat_25, if_neg h2, e25]

theorem d_M_commitTree_0 : decode c_M_commitTree 0 = .ok (.aload_n 0, 1) := by decide +kernel
theorem d_M_commitTree_1 : decode c_M_commitTree 1 = .ok (.iload_n 3, 1) := by decide +kernel
theorem d_M_commitTree_2 : decode c_M_commitTree 2 = .ok (.putfield 104, 3) := by decide +kernel
theorem d_M_commitTree_5 : decode c_M_commitTree 5 = .ok (.aload_n 0, 1) := by decide +kernel
theorem d_M_commitTree_6 : decode c_M_commitTree 6 = .ok (.invokevirtual 142, 3) := by decide +kernel
theorem d_M_commitTree_9 : decode c_M_commitTree 9 = .ok (.aload_n 0, 1) := by decide +kernel
theorem d_M_commitTree_10 : decode c_M_commitTree 10 = .ok (.iconst 0, 1) := by decide +kernel
theorem d_M_commitTree_11 : decode c_M_commitTree 11 = .ok (.putfield 145, 3) := by decide +kernel
theorem d_M_commitTree_14 : decode c_M_commitTree 14 = .ok (.aload_n 0, 1) := by decide +kernel
theorem d_M_commitTree_15 : decode c_M_commitTree 15 = .ok (.aload_n 0, 1) := by decide +kernel
theorem d_M_commitTree_16 : decode c_M_commitTree 16 = .ok (.getfield 122, 3) := by decide +kernel
theorem d_M_commitTree_19 : decode c_M_commitTree 19 = .ok (.iconst 1, 1) := by decide +kernel
theorem d_M_commitTree_20 : decode c_M_commitTree 20 = .ok (.isub, 1) := by decide +kernel
theorem d_M_commitTree_21 : decode c_M_commitTree 21 = .ok (.iload_n 1, 1) := by decide +kernel
theorem d_M_commitTree_22 : decode c_M_commitTree 22 = .ok (.iload_n 2, 1) := by decide +kernel
theorem d_M_commitTree_23 : decode c_M_commitTree 23 = .ok (.invokevirtual 155, 3) := by decide +kernel
theorem d_M_commitTree_26 : decode c_M_commitTree 26 = .ok (.aload_n 0, 1) := by decide +kernel
theorem d_M_commitTree_27 : decode c_M_commitTree 27 = .ok (.getfield 145, 3) := by decide +kernel
theorem d_M_commitTree_30 : decode c_M_commitTree 30 = .ok (.ifCond .le 149, 3) := by decide +kernel
theorem d_M_commitTree_33 : decode c_M_commitTree 33 = .ok (.aload_n 0, 1) := by decide +kernel
theorem d_M_commitTree_34 : decode c_M_commitTree 34 = .ok (.dup, 1) := by decide +kernel
theorem d_M_commitTree_35 : decode c_M_commitTree 35 = .ok (.getfield 145, 3) := by decide +kernel
theorem d_M_commitTree_38 : decode c_M_commitTree 38 = .ok (.iconst 1, 1) := by decide +kernel
theorem d_M_commitTree_39 : decode c_M_commitTree 39 = .ok (.isub, 1) := by decide +kernel
theorem d_M_commitTree_40 : decode c_M_commitTree 40 = .ok (.putfield 145, 3) := by decide +kernel
theorem d_M_commitTree_43 : decode c_M_commitTree 43 = .ok (.aload_n 0, 1) := by decide +kernel
theorem d_M_commitTree_44 : decode c_M_commitTree 44 = .ok (.getfield 77, 3) := by decide +kernel
theorem d_M_commitTree_47 : decode c_M_commitTree 47 = .ok (.aload_n 0, 1) := by decide +kernel
theorem d_M_commitTree_48 : decode c_M_commitTree 48 = .ok (.getfield 145, 3) := by decide +kernel
theorem d_M_commitTree_51 : decode c_M_commitTree 51 = .ok (.iaload, 1) := by decide +kernel
theorem d_M_commitTree_52 : decode c_M_commitTree 52 = .ok (.istore 4, 2) := by decide +kernel
theorem d_M_commitTree_54 : decode c_M_commitTree 54 = .ok (.aload_n 0, 1) := by decide +kernel
theorem d_M_commitTree_55 : decode c_M_commitTree 55 = .ok (.getfield 28, 3) := by decide +kernel
theorem d_M_commitTree_58 : decode c_M_commitTree 58 = .ok (.iload 4, 2) := by decide +kernel
theorem d_M_commitTree_60 : decode c_M_commitTree 60 = .ok (.iaload, 1) := by decide +kernel
theorem d_M_commitTree_61 : decode c_M_commitTree 61 = .ok (.ifCond .ne 31, 3) := by decide +kernel
theorem d_M_commitTree_64 : decode c_M_commitTree 64 = .ok (.aload_n 0, 1) := by decide +kernel
theorem d_M_commitTree_65 : decode c_M_commitTree 65 = .ok (.aload_n 0, 1) := by decide +kernel
theorem d_M_commitTree_66 : decode c_M_commitTree 66 = .ok (.getfield 37, 3) := by decide +kernel
theorem d_M_commitTree_69 : decode c_M_commitTree 69 = .ok (.iload 4, 2) := by decide +kernel
theorem d_M_commitTree_71 : decode c_M_commitTree 71 = .ok (.iaload, 1) := by decide +kernel
theorem d_M_commitTree_72 : decode c_M_commitTree 72 = .ok (.aload_n 0, 1) := by decide +kernel
theorem d_M_commitTree_73 : decode c_M_commitTree 73 = .ok (.getfield 83, 3) := by decide +kernel
theorem d_M_commitTree_76 : decode c_M_commitTree 76 = .ok (.iload 4, 2) := by decide +kernel
theorem d_M_commitTree_78 : decode c_M_commitTree 78 = .ok (.baload, 1) := by decide +kernel
theorem d_M_commitTree_79 : decode c_M_commitTree 79 = .ok (.aload_n 0, 1) := by decide +kernel
theorem d_M_commitTree_80 : decode c_M_commitTree 80 = .ok (.getfield 80, 3) := by decide +kernel
theorem d_M_commitTree_83 : decode c_M_commitTree 83 = .ok (.iload 4, 2) := by decide +kernel
theorem d_M_commitTree_85 : decode c_M_commitTree 85 = .ok (.iaload, 1) := by decide +kernel
theorem d_M_commitTree_86 : decode c_M_commitTree 86 = .ok (.invokevirtual 159, 3) := by decide +kernel
theorem d_M_commitTree_89 : decode c_M_commitTree 89 = .ok (.goto 87, 3) := by decide +kernel
theorem d_M_commitTree_92 : decode c_M_commitTree 92 = .ok (.aload_n 0, 1) := by decide +kernel
theorem d_M_commitTree_93 : decode c_M_commitTree 93 = .ok (.getfield 28, 3) := by decide +kernel
theorem d_M_commitTree_96 : decode c_M_commitTree 96 = .ok (.iload 4, 2) := by decide +kernel
theorem d_M_commitTree_98 : decode c_M_commitTree 98 = .ok (.iaload, 1) := by decide +kernel
theorem d_M_commitTree_99 : decode c_M_commitTree 99 = .ok (.iconst 1, 1) := by decide +kernel
theorem d_M_commitTree_100 : decode c_M_commitTree 100 = .ok (.if_icmp .ne 56, 3) := by decide +kernel
theorem d_M_commitTree_103 : decode c_M_commitTree 103 = .ok (.aload_n 0, 1) := by decide +kernel
theorem d_M_commitTree_104 : decode c_M_commitTree 104 = .ok (.aload_n 0, 1) := by decide +kernel
theorem d_M_commitTree_105 : decode c_M_commitTree 105 = .ok (.getfield 34, 3) := by decide +kernel
theorem d_M_commitTree_108 : decode c_M_commitTree 108 = .ok (.iload 4, 2) := by decide +kernel
theorem d_M_commitTree_110 : decode c_M_commitTree 110 = .ok (.iaload, 1) := by decide +kernel
theorem d_M_commitTree_111 : decode c_M_commitTree 111 = .ok (.aload_n 0, 1) := by decide +kernel
theorem d_M_commitTree_112 : decode c_M_commitTree 112 = .ok (.getfield 83, 3) := by decide +kernel
theorem d_M_commitTree_115 : decode c_M_commitTree 115 = .ok (.iload 4, 2) := by decide +kernel
theorem d_M_commitTree_117 : decode c_M_commitTree 117 = .ok (.baload, 1) := by decide +kernel
theorem d_M_commitTree_118 : decode c_M_commitTree 118 = .ok (.aload_n 0, 1) := by decide +kernel
theorem d_M_commitTree_119 : decode c_M_commitTree 119 = .ok (.getfield 80, 3) := by decide +kernel
theorem d_M_commitTree_122 : decode c_M_commitTree 122 = .ok (.iload 4, 2) := by decide +kernel
theorem d_M_commitTree_124 : decode c_M_commitTree 124 = .ok (.iaload, 1) := by decide +kernel
theorem d_M_commitTree_125 : decode c_M_commitTree 125 = .ok (.invokevirtual 155, 3) := by decide +kernel
theorem d_M_commitTree_128 : decode c_M_commitTree 128 = .ok (.aload_n 0, 1) := by decide +kernel
theorem d_M_commitTree_129 : decode c_M_commitTree 129 = .ok (.aload_n 0, 1) := by decide +kernel
theorem d_M_commitTree_130 : decode c_M_commitTree 130 = .ok (.getfield 31, 3) := by decide +kernel
theorem d_M_commitTree_133 : decode c_M_commitTree 133 = .ok (.iload 4, 2) := by decide +kernel
theorem d_M_commitTree_135 : decode c_M_commitTree 135 = .ok (.iaload, 1) := by decide +kernel
theorem d_M_commitTree_136 : decode c_M_commitTree 136 = .ok (.aload_n 0, 1) := by decide +kernel
theorem d_M_commitTree_137 : decode c_M_commitTree 137 = .ok (.getfield 83, 3) := by decide +kernel
theorem d_M_commitTree_140 : decode c_M_commitTree 140 = .ok (.iload 4, 2) := by decide +kernel
theorem d_M_commitTree_142 : decode c_M_commitTree 142 = .ok (.baload, 1) := by decide +kernel
theorem d_M_commitTree_143 : decode c_M_commitTree 143 = .ok (.aload_n 0, 1) := by decide +kernel
theorem d_M_commitTree_144 : decode c_M_commitTree 144 = .ok (.getfield 80, 3) := by decide +kernel
theorem d_M_commitTree_147 : decode c_M_commitTree 147 = .ok (.iload 4, 2) := by decide +kernel
theorem d_M_commitTree_149 : decode c_M_commitTree 149 = .ok (.iaload, 1) := by decide +kernel
theorem d_M_commitTree_150 : decode c_M_commitTree 150 = .ok (.invokevirtual 155, 3) := by decide +kernel
theorem d_M_commitTree_153 : decode c_M_commitTree 153 = .ok (.goto 23, 3) := by decide +kernel
theorem d_M_commitTree_156 : decode c_M_commitTree 156 = .ok (.aload_n 0, 1) := by decide +kernel
theorem d_M_commitTree_157 : decode c_M_commitTree 157 = .ok (.iload 4, 2) := by decide +kernel
theorem d_M_commitTree_159 : decode c_M_commitTree 159 = .ok (.aload_n 0, 1) := by decide +kernel
theorem d_M_commitTree_160 : decode c_M_commitTree 160 = .ok (.getfield 83, 3) := by decide +kernel
theorem d_M_commitTree_163 : decode c_M_commitTree 163 = .ok (.iload 4, 2) := by decide +kernel
theorem d_M_commitTree_165 : decode c_M_commitTree 165 = .ok (.baload, 1) := by decide +kernel
theorem d_M_commitTree_166 : decode c_M_commitTree 166 = .ok (.aload_n 0, 1) := by decide +kernel
theorem d_M_commitTree_167 : decode c_M_commitTree 167 = .ok (.getfield 80, 3) := by decide +kernel
theorem d_M_commitTree_170 : decode c_M_commitTree 170 = .ok (.iload 4, 2) := by decide +kernel
theorem d_M_commitTree_172 : decode c_M_commitTree 172 = .ok (.iaload, 1) := by decide +kernel
theorem d_M_commitTree_173 : decode c_M_commitTree 173 = .ok (.invokevirtual 162, 3) := by decide +kernel
theorem d_M_commitTree_176 : decode c_M_commitTree 176 = .ok (.goto (-150), 3) := by decide +kernel
theorem d_M_commitTree_179 : decode c_M_commitTree 179 = .ok (.return_, 1) := by decide +kernel

section MT
variable {p : Program} {l : Launch} {e : Env} {R : Room} {s : State} {m : MethodId} {args : Array Value} {below : List Frame} {meth : Method} {c : Code} {H0 : Heap} {cells slots : Nat} {Q : State → Prop} {A : Nat → Prop} {D : va_G} {ca : Nat → ClassId} {am : Nat → Nat} {ar : Nat → Nat → Nat}
set_option maxHeartbeats 4000000 in
set_option maxRecDepth 100000 in
theorem ct_node (hx : p.tables.exec = Jvm.exec) (hb : c.code = c_M_commitTree) (hml : c.maxLocals = 5) (hown : s.vm.findClass R_M = some m.cls) (hts : ∀ w ∈ zT, w.before args s = true) (hK : va_K D zC (zty ca) s) (hD : zD A 28 am) (hI : mI am) (hAA : ∀ q, mA am q → A q) (hRf : 5 ≤ R.frames) (hRl : 200 ≤ R.locals) (hc : cells ≤ R.cells) (hsl : slots ≤ R.slots) {N lc : Nat} {kd lf rt lv bt it hd : Nat → Nat} {lo : Nat → Nat} (hN : N ≤ 15) (hlc : lc ≤ 8) (hI2 : tI kd lf rt lo N) (hlv : ∀ k, k < N → kd k = 0 → lv k < lc) (hbt : ∀ i, i < 16 → bt i < 10007) (hit : ∀ i, i < 16 → it i < 10007) (hhd : ∀ k, k < N → hd k < 2) : ∀ (k : Nat), k < N → ∀ (t : Nat) (real : Bool) (c0 : Nat) (o sc : Nat → Nat → Nat) (H : Heap) (locs : List Loc) (ls : Array Slot), t + k ≤ 14 → c0 < 5003 → tb kd lf rt lv bt it hd lc o → sc 0 6 = t + 1 → sc 23 t = k → sc 25 k = (if real then 1 else 0) → sc 24 k = c0 → va_P D zC (zl 28 am (mct ca am (mix o sc))) H → va_S A H0 H locs → lv_has ls 5 [(0, .ref (am 0))] →
    (∀ (sc1 : Nat → Nat → Nat) (H : Heap) (locs : List Loc) (ls : Array Slot), sc1 0 6 = t → (∀ i, i < t → sc1 23 i = sc 23 i) → (∀ i, i < lo k ∨ k ≤ i → sc1 24 i = sc 24 i ∧ sc1 25 i = sc 25 i) → va_P D zC (zl 28 am (mct ca am (mix (cm kd lf rt lv k real c0 o) sc1))) H → va_S A H0 H locs → lv_has ls 5 [(0, .ref (am 0))] → W p l e R s m args below meth c H locs cells slots Q (F0 m 26 ls [])) → W p l e R s m args below meth c H locs cells slots Q (F0 m 26 ls []) := by
  intro k
  induction k using Nat.strongRecOn with
  | ind k ih =>
    intro hk t real c0 o sc H locs ls htk hc0 hTb hsc hq hrl hcc hP hS hl kk
    obtain ⟨hkd, hlo, hch⟩ := hI2 k hk
    obtain ⟨h7, h8, h9, h10, h11, h12, h27, h02⟩ := id hTb
    rcases (show kd k = 0 ∨ kd k = 1 ∨ kd k = 2 by omega) with k0 | k0 | k0
    · skip
      have hlvk := hlv k hk k0
      refine lv_aload_n hx hb d_M_commitTree_26 rfl (lv_at hl 0 rfl) ?_
      refine mm_get hx hb hts hown hK hP (index := 145) 33 (by decide) mf_M_145 (v := .int (nI ((mix o sc) 0 6))) rfl d_M_commitTree_27 ?_
      refine zz_as (y := nI (t + 1)) (congrArg nI hsc) ?_
      refine lv_if_le (tgt := 179) hx hb d_M_commitTree_30 rfl (fun h30 => absurd h30 (nI_nle (by omega) (by omega))) (fun h30 => ?_)
      refine lv_aload_n hx hb d_M_commitTree_33 rfl (lv_at hl 0 rfl) ?_
      refine lv_dup hx hb d_M_commitTree_34 rfl ?_
      refine mm_get hx hb hts hown hK hP (index := 145) 33 (by decide) mf_M_145 (v := .int (nI ((mix o sc) 0 6))) rfl d_M_commitTree_35 ?_
      refine zz_as (y := nI (t + 1)) (congrArg nI hsc) ?_
      refine lv_iconst (v := 1) hx hb d_M_commitTree_38 rfl ?_
      refine lv_isub hx hb d_M_commitTree_39 ?_
      refine zz_as (y := nI ((t + 1) - 1)) (pk_sub (a := t + 1) (b := 1) (by omega)) ?_
      refine zz_as (y := nI t) (rfl) ?_
      refine mm_put hx hb hts hown hK hP hD hS (index := 145) 6 (by decide) mf_M_145 (t) (rfl) rfl rfl d_M_commitTree_40 (fun H locs hP hS => ?_)
      refine lv_aload_n hx hb d_M_commitTree_43 rfl (lv_at hl 0 rfl) ?_
      refine mm_get hx hb hts hown hK hP (index := 77) 22 (by decide) mf_M_77 (v := .ref (am 23)) rfl d_M_commitTree_44 ?_
      refine lv_aload_n hx hb d_M_commitTree_47 rfl (lv_at hl 0 rfl) ?_
      refine mm_get hx hb hts hown hK hP (index := 145) 33 (by decide) mf_M_145 (v := .int (nI t)) rfl d_M_commitTree_48 ?_
      refine mm_ald hx hb hK hP 22 (by decide) rfl (t) rfl (show t < 15 from by omega) (k) (hq) d_M_commitTree_51 ?_
      refine lv_istore (lv' := [(4, .int (nI k)), (0, .ref (am 0))]) hx hb d_M_commitTree_52 hl (by decide) rfl (fun ls hl => ?_)
      refine lv_aload_n hx hb d_M_commitTree_54 rfl (lv_at hl 1 rfl) ?_
      refine mm_get hx hb hts hown hK hP (index := 28) 6 (by decide) mf_M_28 (v := .ref (am 7)) rfl d_M_commitTree_55 ?_
      refine lv_iload hx hb d_M_commitTree_58 (lv_at hl 0 rfl) ?_
      refine mm_ald hx hb hK hP 6 (by decide) rfl (k) rfl (show k < 15 from by omega) (kd k) (congrFun h7 k) d_M_commitTree_60 ?_
      refine lv_if_ne (tgt := 92) hx hb d_M_commitTree_61 rfl (fun h61 => absurd (by rw [k0]; rfl) h61) (fun h61 => ?_)
      refine lv_aload_n hx hb d_M_commitTree_64 rfl (lv_at hl 1 rfl) ?_
      refine lv_aload_n hx hb d_M_commitTree_65 rfl (lv_at hl 1 rfl) ?_
      refine mm_get hx hb hts hown hK hP (index := 37) 9 (by decide) mf_M_37 (v := .ref (am 10)) rfl d_M_commitTree_66 ?_
      refine lv_iload hx hb d_M_commitTree_69 (lv_at hl 0 rfl) ?_
      refine mm_ald hx hb hK hP 9 (by decide) rfl (k) rfl (show k < 15 from by omega) (lv k) (congrFun h10 k) d_M_commitTree_71 ?_
      refine lv_aload_n hx hb d_M_commitTree_72 rfl (lv_at hl 1 rfl) ?_
      refine mm_get hx hb hts hown hK hP (index := 83) 24 (by decide) mf_M_83 (v := .ref (am 25)) rfl d_M_commitTree_73 ?_
      refine lv_iload hx hb d_M_commitTree_76 (lv_at hl 0 rfl) ?_
      refine mm_zald hx hb hK hP 24 (by decide) rfl (k) rfl (show k < 15 from by omega) (if real then 1 else 0) (hrl) d_M_commitTree_78 ?_
      refine zz_as (y := zb real) (zb_if real) ?_
      refine lv_aload_n hx hb d_M_commitTree_79 rfl (lv_at hl 1 rfl) ?_
      refine mm_get hx hb hts hown hK hP (index := 80) 23 (by decide) mf_M_80 (v := .ref (am 24)) rfl d_M_commitTree_80 ?_
      refine lv_iload hx hb d_M_commitTree_83 (lv_at hl 0 rfl) ?_
      refine mm_ald hx hb hK hP 23 (by decide) rfl (k) rfl (show k < 15 from by omega) (c0) (hcc) d_M_commitTree_85 ?_
      refine mm_cv (index := 159) (n := 3) (As := [.int (nI (lv k)), .int (zb real), .int (nI c0)]) (rest := []) ⟨hx, hb, hml, hown, hts⟩ (k_commitLeafM l D ca am (zs (mix o sc) 0 6 t) hI (lv k) real c0 (show lv k < o 0 2 by rw [h02]; exact hlvk) (show o 0 2 ≤ 8 by rw [h02]; exact hlc) hc0 (show ∀ i, i < 16 → o 11 i < 10007 by rw [h11]; exact hbt) (show ∀ i, i < 16 → o 12 i < 10007 by rw [h12]; exact hit)) mk_M_159 mo_M_commitLeaf me_M_M_commitLeaf_M mi_M mc_M_commitLeaf (by decide +kernel) ⟨rfl, rfl⟩ ⟨Nat.le_trans (by decide) hRf, Nat.le_trans (by decide) hRl⟩ hK hP hS hAA rfl hl.1 rfl (Nat.le_of_ble_eq_true rfl) d_M_commitTree_86 ⟨hc, hsl⟩ (fun ar1 H locs hpost hP hS => ?_)
      rw [zs_mixS _ _ _ (by omega), cmL_mix] at hpost
      subst hpost
      refine lv_goto (tgt := 176) hx hb d_M_commitTree_89 rfl ?_
      refine lv_goto (tgt := 26) hx hb d_M_commitTree_176 rfl ?_
      have hl := lv_sub (l' := [(0, .ref (am 0))]) hl [1] rfl
      exact kk (zs sc 0 6 t) H locs ls rfl (fun i hi => rfl) (fun i hi => ⟨rfl, rfl⟩) (by rw [cm_leaf k0]; exact hP) hS hl
    · skip
      obtain ⟨c1, c2, c3, c4, c5⟩ := hch (by rw [k0]; decide)
      have hlk : lf k < k := by omega
      refine lv_aload_n hx hb d_M_commitTree_26 rfl (lv_at hl 0 rfl) ?_
      refine mm_get hx hb hts hown hK hP (index := 145) 33 (by decide) mf_M_145 (v := .int (nI ((mix o sc) 0 6))) rfl d_M_commitTree_27 ?_
      refine zz_as (y := nI (t + 1)) (congrArg nI hsc) ?_
      refine lv_if_le (tgt := 179) hx hb d_M_commitTree_30 rfl (fun h30 => absurd h30 (nI_nle (by omega) (by omega))) (fun h30 => ?_)
      refine lv_aload_n hx hb d_M_commitTree_33 rfl (lv_at hl 0 rfl) ?_
      refine lv_dup hx hb d_M_commitTree_34 rfl ?_
      refine mm_get hx hb hts hown hK hP (index := 145) 33 (by decide) mf_M_145 (v := .int (nI ((mix o sc) 0 6))) rfl d_M_commitTree_35 ?_
      refine zz_as (y := nI (t + 1)) (congrArg nI hsc) ?_
      refine lv_iconst (v := 1) hx hb d_M_commitTree_38 rfl ?_
      refine lv_isub hx hb d_M_commitTree_39 ?_
      refine zz_as (y := nI ((t + 1) - 1)) (pk_sub (a := t + 1) (b := 1) (by omega)) ?_
      refine zz_as (y := nI t) (rfl) ?_
      refine mm_put hx hb hts hown hK hP hD hS (index := 145) 6 (by decide) mf_M_145 (t) (rfl) rfl rfl d_M_commitTree_40 (fun H locs hP hS => ?_)
      refine lv_aload_n hx hb d_M_commitTree_43 rfl (lv_at hl 0 rfl) ?_
      refine mm_get hx hb hts hown hK hP (index := 77) 22 (by decide) mf_M_77 (v := .ref (am 23)) rfl d_M_commitTree_44 ?_
      refine lv_aload_n hx hb d_M_commitTree_47 rfl (lv_at hl 0 rfl) ?_
      refine mm_get hx hb hts hown hK hP (index := 145) 33 (by decide) mf_M_145 (v := .int (nI t)) rfl d_M_commitTree_48 ?_
      refine mm_ald hx hb hK hP 22 (by decide) rfl (t) rfl (show t < 15 from by omega) (k) (hq) d_M_commitTree_51 ?_
      refine lv_istore (lv' := [(4, .int (nI k)), (0, .ref (am 0))]) hx hb d_M_commitTree_52 hl (by decide) rfl (fun ls hl => ?_)
      refine lv_aload_n hx hb d_M_commitTree_54 rfl (lv_at hl 1 rfl) ?_
      refine mm_get hx hb hts hown hK hP (index := 28) 6 (by decide) mf_M_28 (v := .ref (am 7)) rfl d_M_commitTree_55 ?_
      refine lv_iload hx hb d_M_commitTree_58 (lv_at hl 0 rfl) ?_
      refine mm_ald hx hb hK hP 6 (by decide) rfl (k) rfl (show k < 15 from by omega) (kd k) (congrFun h7 k) d_M_commitTree_60 ?_
      refine lv_if_ne (tgt := 92) hx hb d_M_commitTree_61 rfl (fun h61 => ?_) (fun h61 => absurd h61 (by rw [k0]; decide))
      refine lv_aload_n hx hb d_M_commitTree_92 rfl (lv_at hl 1 rfl) ?_
      refine mm_get hx hb hts hown hK hP (index := 28) 6 (by decide) mf_M_28 (v := .ref (am 7)) rfl d_M_commitTree_93 ?_
      refine lv_iload hx hb d_M_commitTree_96 (lv_at hl 0 rfl) ?_
      refine mm_ald hx hb hK hP 6 (by decide) rfl (k) rfl (show k < 15 from by omega) (kd k) (congrFun h7 k) d_M_commitTree_98 ?_
      refine lv_iconst (v := 1) hx hb d_M_commitTree_99 rfl ?_
      refine lv_icmp_ne (tgt := 156) hx hb d_M_commitTree_100 rfl (fun h100 => absurd (by rw [k0]; rfl) h100) (fun h100 => ?_)
      refine lv_aload_n hx hb d_M_commitTree_103 rfl (lv_at hl 1 rfl) ?_
      refine lv_aload_n hx hb d_M_commitTree_104 rfl (lv_at hl 1 rfl) ?_
      refine mm_get hx hb hts hown hK hP (index := 34) 8 (by decide) mf_M_34 (v := .ref (am 9)) rfl d_M_commitTree_105 ?_
      refine lv_iload hx hb d_M_commitTree_108 (lv_at hl 0 rfl) ?_
      refine mm_ald hx hb hK hP 8 (by decide) rfl (k) rfl (show k < 15 from by omega) (rt k) (congrFun h9 k) d_M_commitTree_110 ?_
      refine lv_aload_n hx hb d_M_commitTree_111 rfl (lv_at hl 1 rfl) ?_
      refine mm_get hx hb hts hown hK hP (index := 83) 24 (by decide) mf_M_83 (v := .ref (am 25)) rfl d_M_commitTree_112 ?_
      refine lv_iload hx hb d_M_commitTree_115 (lv_at hl 0 rfl) ?_
      refine mm_zald hx hb hK hP 24 (by decide) rfl (k) rfl (show k < 15 from by omega) (if real then 1 else 0) (hrl) d_M_commitTree_117 ?_
      refine lv_aload_n hx hb d_M_commitTree_118 rfl (lv_at hl 1 rfl) ?_
      refine mm_get hx hb hts hown hK hP (index := 80) 23 (by decide) mf_M_80 (v := .ref (am 24)) rfl d_M_commitTree_119 ?_
      refine lv_iload hx hb d_M_commitTree_122 (lv_at hl 0 rfl) ?_
      refine mm_ald hx hb hK hP 23 (by decide) rfl (k) rfl (show k < 15 from by omega) (c0) (hcc) d_M_commitTree_124 ?_
      refine mm_cv (index := 155) (n := 3) (As := [.int (nI (rt k)), .int (nI (if real then 1 else 0)), .int (nI c0)]) (rest := []) ⟨hx, hb, hml, hown, hts⟩ (k_laterM l D ca am (zs (mix o sc) 0 6 t) hI (rt k) (if real then 1 else 0) c0 (by omega) (if_lt2 real) (show t < 15 by omega)) mk_M_155 mo_M_later me_M_M_later_M mi_M mc_M_later (by decide +kernel) ⟨rfl, rfl⟩ ⟨Nat.le_trans (by decide) hRf, Nat.le_trans (by decide) hRl⟩ hK hP hS hAA rfl hl.1 rfl (Nat.le_of_ble_eq_true rfl) d_M_commitTree_125 ⟨hc, hsl⟩ (fun ar1 H locs hpost hP hS => ?_)
      rw [zs_mixS _ _ _ (by omega), lat_mix] at hpost
      subst hpost
      refine lv_aload_n hx hb d_M_commitTree_128 rfl (lv_at hl 1 rfl) ?_
      refine lv_aload_n hx hb d_M_commitTree_129 rfl (lv_at hl 1 rfl) ?_
      refine mm_get hx hb hts hown hK hP (index := 31) 7 (by decide) mf_M_31 (v := .ref (am 8)) rfl d_M_commitTree_130 ?_
      refine lv_iload hx hb d_M_commitTree_133 (lv_at hl 0 rfl) ?_
      refine mm_ald hx hb hK hP 7 (by decide) rfl (k) rfl (show k < 15 from by omega) (lf k) (congrFun h8 k) d_M_commitTree_135 ?_
      refine lv_aload_n hx hb d_M_commitTree_136 rfl (lv_at hl 1 rfl) ?_
      refine mm_get hx hb hts hown hK hP (index := 83) 24 (by decide) mf_M_83 (v := .ref (am 25)) rfl d_M_commitTree_137 ?_
      refine lv_iload hx hb d_M_commitTree_140 (lv_at hl 0 rfl) ?_
      refine mm_zald hx hb hK hP 24 (by decide) rfl (k) rfl (show k < 15 from by omega) (if real then 1 else 0) (by show lat (zs sc 0 6 t) (rt k) (if real then 1 else 0) c0 25 k = _; rw [lat_25, if_neg (by omega)]; exact hrl) d_M_commitTree_142 ?_
      refine lv_aload_n hx hb d_M_commitTree_143 rfl (lv_at hl 1 rfl) ?_
      refine mm_get hx hb hts hown hK hP (index := 80) 23 (by decide) mf_M_80 (v := .ref (am 24)) rfl d_M_commitTree_144 ?_
      refine lv_iload hx hb d_M_commitTree_147 (lv_at hl 0 rfl) ?_
      refine mm_ald hx hb hK hP 23 (by decide) rfl (k) rfl (show k < 15 from by omega) (c0) (by show lat (zs sc 0 6 t) (rt k) (if real then 1 else 0) c0 24 k = _; rw [lat_24, if_neg (by omega)]; exact hcc) d_M_commitTree_149 ?_
      refine mm_cv (index := 155) (n := 3) (As := [.int (nI (lf k)), .int (nI (if real then 1 else 0)), .int (nI c0)]) (rest := []) ⟨hx, hb, hml, hown, hts⟩ (k_laterM l D ca am (mix o (lat (zs sc 0 6 t) (rt k) (if real then 1 else 0) c0)) hI (lf k) (if real then 1 else 0) c0 (by omega) (if_lt2 real) (by show lat (zs sc 0 6 t) (rt k) (if real then 1 else 0) c0 0 6 < 15; rw [lat_06]; show t + 1 < 15; omega)) mk_M_155 mo_M_later me_M_M_later_M mi_M mc_M_later (by decide +kernel) ⟨rfl, rfl⟩ ⟨Nat.le_trans (by decide) hRf, Nat.le_trans (by decide) hRl⟩ hK hP hS hAA rfl hl.1 rfl (Nat.le_of_ble_eq_true rfl) d_M_commitTree_150 ⟨hc, hsl⟩ (fun ar1 H locs hpost hP hS => ?_)
      rw [lat_mix] at hpost
      subst hpost
      refine lv_goto (tgt := 176) hx hb d_M_commitTree_153 rfl ?_
      refine lv_goto (tgt := 26) hx hb d_M_commitTree_176 rfl ?_
      have hl := lv_sub (l' := [(0, .ref (am 0))]) hl [1] rfl
      obtain ⟨g06, g231, g230, g23, g24l, g25l, g24r, g25r, g45⟩ := lat2 sc t (rt k) (lf k) (if real then 1 else 0) c0 (if real then 1 else 0) c0 (by omega)
      refine ih (lf k) hlk (by omega) (t + 1) real c0 o _ H locs ls (by omega) hc0 hTb g06 g231 g25l g24l hP hS hl (fun sc1 H locs ls e06 e23 e45 hP hS hl => ?_)
      refine ih (rt k) c5 (by omega) t real c0 (cm kd lf rt lv (lf k) real c0 o) sc1 H locs ls (by omega) hc0 (tb_cm hTb _ _ _) e06 ((e23 t (by omega)).trans g230) ((e45 (rt k) (Or.inr (by omega))).2.trans g25r) ((e45 (rt k) (Or.inr (by omega))).1.trans g24r) hP hS hl (fun sc2 H locs ls f06 f23 f45 hP hS hl => ?_)
      refine kk sc2 H locs ls f06 (fun i hi => ?_) (fun i hi => ?_) (by rw [cm_and k0 hlk c5]; exact hP) hS hl
      · rw [f23 i hi, e23 i (by omega), g23 i hi]
      · have a := f45 i (by omega)
        have b := e45 i (by omega)
        have d := g45 i (by omega) (by omega)
        exact ⟨a.1.trans (b.1.trans d.1), a.2.trans (b.2.trans d.2)⟩
    · skip
      obtain ⟨c1, c2, c3, c4, c5⟩ := hch (by rw [k0]; decide)
      have hlk : lf k < k := by omega
      refine lv_aload_n hx hb d_M_commitTree_26 rfl (lv_at hl 0 rfl) ?_
      refine mm_get hx hb hts hown hK hP (index := 145) 33 (by decide) mf_M_145 (v := .int (nI ((mix o sc) 0 6))) rfl d_M_commitTree_27 ?_
      refine zz_as (y := nI (t + 1)) (congrArg nI hsc) ?_
      refine lv_if_le (tgt := 179) hx hb d_M_commitTree_30 rfl (fun h30 => absurd h30 (nI_nle (by omega) (by omega))) (fun h30 => ?_)
      refine lv_aload_n hx hb d_M_commitTree_33 rfl (lv_at hl 0 rfl) ?_
      refine lv_dup hx hb d_M_commitTree_34 rfl ?_
      refine mm_get hx hb hts hown hK hP (index := 145) 33 (by decide) mf_M_145 (v := .int (nI ((mix o sc) 0 6))) rfl d_M_commitTree_35 ?_
      refine zz_as (y := nI (t + 1)) (congrArg nI hsc) ?_
      refine lv_iconst (v := 1) hx hb d_M_commitTree_38 rfl ?_
      refine lv_isub hx hb d_M_commitTree_39 ?_
      refine zz_as (y := nI ((t + 1) - 1)) (pk_sub (a := t + 1) (b := 1) (by omega)) ?_
      refine zz_as (y := nI t) (rfl) ?_
      refine mm_put hx hb hts hown hK hP hD hS (index := 145) 6 (by decide) mf_M_145 (t) (rfl) rfl rfl d_M_commitTree_40 (fun H locs hP hS => ?_)
      refine lv_aload_n hx hb d_M_commitTree_43 rfl (lv_at hl 0 rfl) ?_
      refine mm_get hx hb hts hown hK hP (index := 77) 22 (by decide) mf_M_77 (v := .ref (am 23)) rfl d_M_commitTree_44 ?_
      refine lv_aload_n hx hb d_M_commitTree_47 rfl (lv_at hl 0 rfl) ?_
      refine mm_get hx hb hts hown hK hP (index := 145) 33 (by decide) mf_M_145 (v := .int (nI t)) rfl d_M_commitTree_48 ?_
      refine mm_ald hx hb hK hP 22 (by decide) rfl (t) rfl (show t < 15 from by omega) (k) (hq) d_M_commitTree_51 ?_
      refine lv_istore (lv' := [(4, .int (nI k)), (0, .ref (am 0))]) hx hb d_M_commitTree_52 hl (by decide) rfl (fun ls hl => ?_)
      refine lv_aload_n hx hb d_M_commitTree_54 rfl (lv_at hl 1 rfl) ?_
      refine mm_get hx hb hts hown hK hP (index := 28) 6 (by decide) mf_M_28 (v := .ref (am 7)) rfl d_M_commitTree_55 ?_
      refine lv_iload hx hb d_M_commitTree_58 (lv_at hl 0 rfl) ?_
      refine mm_ald hx hb hK hP 6 (by decide) rfl (k) rfl (show k < 15 from by omega) (kd k) (congrFun h7 k) d_M_commitTree_60 ?_
      refine lv_if_ne (tgt := 92) hx hb d_M_commitTree_61 rfl (fun h61 => ?_) (fun h61 => absurd h61 (by rw [k0]; decide))
      refine lv_aload_n hx hb d_M_commitTree_92 rfl (lv_at hl 1 rfl) ?_
      refine mm_get hx hb hts hown hK hP (index := 28) 6 (by decide) mf_M_28 (v := .ref (am 7)) rfl d_M_commitTree_93 ?_
      refine lv_iload hx hb d_M_commitTree_96 (lv_at hl 0 rfl) ?_
      refine mm_ald hx hb hK hP 6 (by decide) rfl (k) rfl (show k < 15 from by omega) (kd k) (congrFun h7 k) d_M_commitTree_98 ?_
      refine lv_iconst (v := 1) hx hb d_M_commitTree_99 rfl ?_
      refine lv_icmp_ne (tgt := 156) hx hb d_M_commitTree_100 rfl (fun h100 => ?_) (fun h100 => absurd h100 (by rw [k0]; decide))
      refine lv_aload_n hx hb d_M_commitTree_156 rfl (lv_at hl 1 rfl) ?_
      refine lv_iload hx hb d_M_commitTree_157 (lv_at hl 0 rfl) ?_
      refine lv_aload_n hx hb d_M_commitTree_159 rfl (lv_at hl 1 rfl) ?_
      refine mm_get hx hb hts hown hK hP (index := 83) 24 (by decide) mf_M_83 (v := .ref (am 25)) rfl d_M_commitTree_160 ?_
      refine lv_iload hx hb d_M_commitTree_163 (lv_at hl 0 rfl) ?_
      refine mm_zald hx hb hK hP 24 (by decide) rfl (k) rfl (show k < 15 from by omega) (if real then 1 else 0) (hrl) d_M_commitTree_165 ?_
      refine zz_as (y := zb real) (zb_if real) ?_
      refine lv_aload_n hx hb d_M_commitTree_166 rfl (lv_at hl 1 rfl) ?_
      refine mm_get hx hb hts hown hK hP (index := 80) 23 (by decide) mf_M_80 (v := .ref (am 24)) rfl d_M_commitTree_167 ?_
      refine lv_iload hx hb d_M_commitTree_170 (lv_at hl 0 rfl) ?_
      refine mm_ald hx hb hK hP 23 (by decide) rfl (k) rfl (show k < 15 from by omega) (c0) (hcc) d_M_commitTree_172 ?_
      refine mm_cv (index := 162) (n := 3) (As := [.int (nI k), .int (zb real), .int (nI c0)]) (rest := []) ⟨hx, hb, hml, hown, hts⟩ (k_commitOrM l D ca am (zs (mix o sc) 0 6 t) hI k real c0 (by omega) (show o 8 k < k ∧ o 9 k < k by rw [h8, h9]; omega) (show o 27 (o 8 k) < 2 by rw [h8, h27]; exact hhd _ (by omega)) hc0 (show t + 1 < 15 by omega)) mk_M_162 mo_M_commitOr me_M_M_commitOr_M mi_M mc_M_commitOr (by decide +kernel) ⟨rfl, rfl⟩ ⟨Nat.le_trans (by decide) hRf, Nat.le_trans (by decide) hRl⟩ hK hP hS hAA rfl hl.1 rfl (Nat.le_of_ble_eq_true rfl) d_M_commitTree_173 ⟨hc, hsl⟩ (fun ar1 H locs hpost hP hS => ?_)
      rw [zs_mixS _ _ _ (by omega), cOr_mix, h8, h9, h27] at hpost
      subst hpost
      refine lv_goto (tgt := 26) hx hb d_M_commitTree_176 rfl ?_
      have hl := lv_sub (l' := [(0, .ref (am 0))]) hl [1] rfl
      obtain ⟨g06, g231, g230, g23, g24l, g25l, g24r, g25r, g45⟩ := lat2 sc t (rt k) (lf k) (if real && !(real && decide (hd (lf k) = 1)) then 1 else 0) (if real then dv (dr (o 0 5)) else ls5 c0 (dv (dr (o 0 5)))) (if real && decide (hd (lf k) = 1) then 1 else 0) (dv (dr (o 0 5))) (by omega)
      refine ih (lf k) hlk (by omega) (t + 1) (real && decide (hd (lf k) = 1)) (dv (dr (o 0 5))) (cmO k (real && decide (hd (lf k) = 1)) o) _ H locs ls (by omega) (dv_lt _) (tb_cmO hTb _ _) g06 g231 g25l g24l hP hS hl (fun sc1 H locs ls e06 e23 e45 hP hS hl => ?_)
      refine ih (rt k) c5 (by omega) t (real && !(real && decide (hd (lf k) = 1))) (if real then dv (dr (o 0 5)) else ls5 c0 (dv (dr (o 0 5)))) (cm kd lf rt lv (lf k) (real && decide (hd (lf k) = 1)) (dv (dr (o 0 5))) (cmO k (real && decide (hd (lf k) = 1)) o)) sc1 H locs ls (by omega) (by split; exact dv_lt _; exact ls5_lt _ _) (tb_cm (tb_cmO hTb _ _) _ _ _) e06 ((e23 t (by omega)).trans g230) ((e45 (rt k) (Or.inr (by omega))).2.trans g25r) ((e45 (rt k) (Or.inr (by omega))).1.trans g24r) hP hS hl (fun sc2 H locs ls f06 f23 f45 hP hS hl => ?_)
      refine kk sc2 H locs ls f06 (fun i hi => ?_) (fun i hi => ?_) (by rw [cm_or5 k0 hlk c5, h27]; exact hP) hS hl
      · rw [f23 i hi, e23 i (by omega), g23 i hi]
      · have a := f45 i (by omega)
        have b := e45 i (by omega)
        have d := g45 i (by omega) (by omega)
        exact ⟨a.1.trans (b.1.trans d.1), a.2.trans (b.2.trans d.2)⟩
end MT

set_option maxHeartbeats 4000000 in
set_option maxRecDepth 100000 in
/-- commitTree(real, c, seed) -/
theorem k_commitTreeM (l : Launch) (D : va_G) (ca : Nat → ClassId) (am : Nat → Nat) (ar : Nat → Nat → Nat) (hI : mI am) (real : Bool) (c0 sd : Nat) (lo : Nat → Nat) (hT : tT ar) (hsz : 0 < ar 0 1) (hw : ∀ i, i < 8 → ar 13 i < 2 ^ 32) (hI2 : tI (ar 7) (ar 8) (ar 9) lo (ar 0 1)) (hc0 : c0 < 5003) (hbs : ∀ i, i < 16 → ar 11 i < 10007) (his : ∀ i, i < 16 → ar 12 i < 10007) : Met l y_M_commitTree (Cond.code y_M_commitTree c_M_commitTree 5 none :: zT) ({ frames := 5, cells := 0, slots := 0, locals := 200 }) (va_Pc [.ref (am 0), .int (zb real), .int (nI c0), .int (nI sd)] (mw D ca am ar)) (va_Qv (fun ar1 => ∃ (h : Nat → Nat) (sc : Nat → Nat → Nat), kOK ar h (ar 0 1) ∧ (∀ k, k < ar 0 1 → h k < 2) ∧ ar1 = mix (cm (ar 7) (ar 8) (ar 9) (ar 10) (ar 0 1 - 1) real c0 (va_up (zs ar 0 5 sd) 27 h)) sc) (mw D ca am) (mA am)) 0 0 (mA am) := by
  refine Met.ofW (cc := c_M_commitTree) (maxL := 5) (ret := none) (by decide) rfl ?_
  intro p e s m args below meth c s₁ B hml hv
  obtain ⟨rfl, hK, hP⟩ := hv
  have hx := B.exec
  have hb := B.bytes
  have hr := B.returns
  have hts0 := atoms_spec (ws := Cond.code y_M_commitTree c_M_commitTree 5 none :: zT) B.pre
  have hts := fun w h => hts0 w (List.mem_cons_of_mem _ h)
  have hown : s.vm.findClass R_M = some m.cls := findClass_of_methodNamed B.named
  have hlocks := B.notSynchronized
  have hD := mI_D hI
  have hS : va_S (mA am) s.heap s.heap [] := va_S.rf
  have hAA : ∀ q, mA am q → mA am q := fun _ h => h
  have hl := lv_entry ([.ref (am 0), .int (zb real), .int (nI c0), .int (nI sd)]) (n := 5) (Nat.le_of_ble_eq_true rfl)
  rw [lg_entry_eq]
  generalize (lg_sl ([.ref (am 0), .int (zb real), .int (nI c0), .int (nI sd)]) ++ List.replicate (5 - (lg_sl ([.ref (am 0), .int (zb real), .int (nI c0), .int (nI sd)])).length) Slot.unset).toArray = ls at hl ⊢
  have hl : lv_has ls 5 [(0, .ref (am 0)), (1, .int (zb real)), (2, .int (nI c0)), (3, .int (nI sd))] := hl
  skip
  obtain ⟨hs1, hl2, hT2⟩ := id hT
  rw [← zb_if real] at hl
  refine lv_aload_n hx hb d_M_commitTree_0 rfl (lv_at hl 0 rfl) ?_
  refine lv_iload_n hx hb d_M_commitTree_1 rfl (lv_at hl 3 rfl) ?_
  refine mm_put hx hb hts hown hK hP hD hS (index := 104) 5 (by decide) mf_M_104 (sd) (rfl) rfl rfl d_M_commitTree_2 (fun H locs hP hS => ?_)
  refine lv_aload_n hx hb d_M_commitTree_5 rfl (lv_at hl 0 rfl) ?_
  refine mm_cv (index := 142) (n := 0) (As := []) (rest := []) ⟨hx, hb, hml, hown, hts⟩ (k_knowM l D ca am (zs ar 0 5 sd) hI hT hw) mk_M_142 mo_M_know me_M_M_know_M mi_M mc_M_know (by decide +kernel) ⟨rfl, rfl⟩ ⟨by decide, by decide⟩ hK hP hS hAA rfl hl.1 rfl (Nat.le_of_ble_eq_true rfl) d_M_commitTree_6 ⟨Nat.zero_le _, Nat.zero_le _⟩ (fun ar1 H locs hpost hP hS => ?_)
  obtain ⟨h, hk, hh, rfl⟩ := hpost
  refine lv_aload_n hx hb d_M_commitTree_9 rfl (lv_at hl 0 rfl) ?_
  refine lv_iconst (v := 0) hx hb d_M_commitTree_10 rfl ?_
  refine mm_put hx hb hts hown hK hP hD hS (index := 145) 6 (by decide) mf_M_145 (0) (rfl) rfl rfl d_M_commitTree_11 (fun H locs hP hS => ?_)
  refine lv_aload_n hx hb d_M_commitTree_14 rfl (lv_at hl 0 rfl) ?_
  refine lv_aload_n hx hb d_M_commitTree_15 rfl (lv_at hl 0 rfl) ?_
  refine mm_get hx hb hts hown hK hP (index := 122) 28 (by decide) mf_M_122 (v := .int (nI (ar 0 1))) rfl d_M_commitTree_16 ?_
  refine lv_iconst (v := 1) hx hb d_M_commitTree_19 rfl ?_
  refine lv_isub hx hb d_M_commitTree_20 ?_
  refine zz_as (y := nI ((ar 0 1) - 1)) (pk_sub (a := ar 0 1) (b := 1) (by omega)) ?_
  refine lv_iload_n hx hb d_M_commitTree_21 rfl (lv_at hl 1 rfl) ?_
  refine lv_iload_n hx hb d_M_commitTree_22 rfl (lv_at hl 2 rfl) ?_
  refine mm_cv (index := 155) (n := 3) (As := [.int (nI (ar 0 1 - 1)), .int (nI (if real then 1 else 0)), .int (nI c0)]) (rest := []) ⟨hx, hb, hml, hown, hts⟩ (k_laterM l D ca am (zs (va_up (zs ar 0 5 sd) 27 h) 0 6 0) hI (ar 0 1 - 1) (if real then 1 else 0) c0 (by omega) (if_lt2 real) (show 0 < 15 by decide)) mk_M_155 mo_M_later me_M_M_later_M mi_M mc_M_later (by decide +kernel) ⟨rfl, rfl⟩ ⟨by decide, by decide⟩ hK hP hS hAA rfl hl.1 rfl (Nat.le_of_ble_eq_true rfl) d_M_commitTree_23 ⟨Nat.zero_le _, Nat.zero_le _⟩ (fun ar1 H locs hpost hP hS => ?_)
  rw [show zs (va_up (zs ar 0 5 sd) 27 h) 0 6 0 = mix (va_up (zs ar 0 5 sd) 27 h) (zs (va_up (zs ar 0 5 sd) 27 h) 0 6 0) by rw [← zs_mixS _ _ _ (by omega), mix_self], lat_mix] at hpost
  subst hpost
  have hl : lv_has ls 5 [(0, .ref (am 0))] := lv_sub hl [0] rfl
  refine ct_node (N := ar 0 1) (lc := ar 0 2) (kd := ar 7) (lf := ar 8) (rt := ar 9) (lv := ar 10) (bt := ar 11) (it := ar 12) (hd := h) (lo := lo) hx hb hml hown hts hK hD hI hAA (by decide) (by decide) (Nat.zero_le _) (Nat.zero_le _) hs1 hl2 hI2 (fun k q => (hT2 k q).2.1) hbs his hh (ar 0 1 - 1) (by omega) 0 real c0 (va_up (zs ar 0 5 sd) 27 h) (lat (zs (va_up (zs ar 0 5 sd) 27 h) 0 6 0) (ar 0 1 - 1) (if real then 1 else 0) c0) H locs ls (by omega) hc0 ⟨rfl, rfl, rfl, rfl, rfl, rfl, rfl, rfl⟩ (by rw [lat_06]; rfl) (by rw [lat_23, zs_eq, if_pos rfl]) (by rw [lat_25, if_pos rfl]) (by rw [lat_24, if_pos rfl]) hP hS hl (fun sc1 H locs ls e06 e23 e45 hP hS hl => ?_)
  refine lv_aload_n hx hb d_M_commitTree_26 rfl (lv_at hl 0 rfl) ?_
  refine mm_get hx hb hts hown hK hP (index := 145) 33 (by decide) mf_M_145 (v := .int (nI ((mix (cm (ar 7) (ar 8) (ar 9) (ar 10) (ar 0 1 - 1) real c0 (va_up (zs ar 0 5 sd) 27 h)) sc1) 0 6))) rfl d_M_commitTree_27 ?_
  refine zz_as (y := nI 0) (congrArg nI e06) ?_
  refine lv_if_le (tgt := 179) hx hb d_M_commitTree_30 rfl (fun h30 => ?_) (fun h30 => absurd (by decide) h30)
  exact W.vret hx hb hr (fun t ht hW => ⟨⟨mix (cm (ar 7) (ar 8) (ar 9) (ar 10) (ar 0 1 - 1) real c0 (va_up (zs ar 0 5 sd) 27 h)) sc1, rfl, ⟨h, sc1, hk, hh, rfl⟩, va_K.moved hW.alike hK, by rw [ht]; exact hP⟩, hS.F ht⟩) hS.2.2 d_M_commitTree_179
