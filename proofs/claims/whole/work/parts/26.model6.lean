/-! the model's respondTree, commit, respond, simulate -/
def tr (kd lf rt lv lr dn wi no : Nat → Nat) (o : Nat → Nat → Nat) : Prop := o 7 = kd ∧ o 8 = lf ∧ o 9 = rt ∧ o 10 = lv ∧ o 21 = lr ∧ o 22 = dn ∧ o 13 = wi ∧ o 20 = no
theorem tr_rq {kd lf rt lv lr dn wi no : Nat → Nat} {o : Nat → Nat → Nat} (h : tr kd lf rt lv lr dn wi no o) (ord : Bool) (k c : Nat) : tr kd lf rt lv lr dn wi no (rq ord kd lf rt lv lr dn k c o) := by
  obtain ⟨h1, h2, h3, h4, h5, h6, h7, h8⟩ := h
  refine ⟨?_, ?_, ?_, ?_, ?_, ?_, ?_, ?_⟩
  · rw [rq_row (by decide) (by decide)]; exact h1
  · rw [rq_row (by decide) (by decide)]; exact h2
  · rw [rq_row (by decide) (by decide)]; exact h3
  · rw [rq_row (by decide) (by decide)]; exact h4
  · rw [rq_row (by decide) (by decide)]; exact h5
  · rw [rq_row (by decide) (by decide)]; exact h6
  · rw [rq_row (by decide) (by decide)]; exact h7
  · rw [rq_row (by decide) (by decide)]; exact h8
/-- a set of nodes that respond goes through: closed downwards along the real side, all that it reads is in range -/
def gC (kd lf rt lv lr dn wi no : Nat → Nat) (N : Nat) (G : Nat → Prop) : Prop := ∀ k, k < N → G k → (kd k = 0 → wi (lv k) < 5003 ∧ no (lv k) < 5003) ∧ (kd k = 1 → G (lf k) ∧ G (rt k)) ∧ (kd k = 2 → dn k < 5003 ∧ lr k < 2 ∧ (lr k = 1 → G (lf k)) ∧ (lr k ≠ 1 → G (rt k)))
theorem va_up_zs (ar : Nat → Nat → Nat) (h h2 : Nat → Nat) (sd : Nat) : va_up (zs (va_up ar 27 h) 0 5 sd) 27 h2 = va_up (zs ar 0 5 sd) 27 h2 := by
  funext j
  by_cases e : j = 27
  · subst e; rw [va_up_self, va_up_self]
  · rw [va_up_ne _ _ e, va_up_ne _ _ e]
    unfold zs
    by_cases e0 : j = 0
    · subst e0; rw [va_up_self, va_up_self, va_up_ne _ _ (by decide)]
    · rw [va_up_ne _ _ e0, va_up_ne _ _ e0, va_up_ne _ _ e]

theorem d_M_respondTree_0 : decode c_M_respondTree 0 = .ok (.aload_n 0, 1) := by decide +kernel
theorem d_M_respondTree_1 : decode c_M_respondTree 1 = .ok (.iconst 0, 1) := by decide +kernel
theorem d_M_respondTree_2 : decode c_M_respondTree 2 = .ok (.putfield 145, 3) := by decide +kernel
theorem d_M_respondTree_5 : decode c_M_respondTree 5 = .ok (.aload_n 0, 1) := by decide +kernel
theorem d_M_respondTree_6 : decode c_M_respondTree 6 = .ok (.aload_n 0, 1) := by decide +kernel
theorem d_M_respondTree_7 : decode c_M_respondTree 7 = .ok (.getfield 122, 3) := by decide +kernel
theorem d_M_respondTree_10 : decode c_M_respondTree 10 = .ok (.iconst 1, 1) := by decide +kernel
theorem d_M_respondTree_11 : decode c_M_respondTree 11 = .ok (.isub, 1) := by decide +kernel
theorem d_M_respondTree_12 : decode c_M_respondTree 12 = .ok (.iconst 1, 1) := by decide +kernel
theorem d_M_respondTree_13 : decode c_M_respondTree 13 = .ok (.iload_n 1, 1) := by decide +kernel
theorem d_M_respondTree_14 : decode c_M_respondTree 14 = .ok (.invokevirtual 155, 3) := by decide +kernel
theorem d_M_respondTree_17 : decode c_M_respondTree 17 = .ok (.aload_n 0, 1) := by decide +kernel
theorem d_M_respondTree_18 : decode c_M_respondTree 18 = .ok (.getfield 145, 3) := by decide +kernel
theorem d_M_respondTree_21 : decode c_M_respondTree 21 = .ok (.ifCond .le 145, 3) := by decide +kernel
theorem d_M_respondTree_24 : decode c_M_respondTree 24 = .ok (.aload_n 0, 1) := by decide +kernel
theorem d_M_respondTree_25 : decode c_M_respondTree 25 = .ok (.dup, 1) := by decide +kernel
theorem d_M_respondTree_26 : decode c_M_respondTree 26 = .ok (.getfield 145, 3) := by decide +kernel
theorem d_M_respondTree_29 : decode c_M_respondTree 29 = .ok (.iconst 1, 1) := by decide +kernel
theorem d_M_respondTree_30 : decode c_M_respondTree 30 = .ok (.isub, 1) := by decide +kernel
theorem d_M_respondTree_31 : decode c_M_respondTree 31 = .ok (.putfield 145, 3) := by decide +kernel
theorem d_M_respondTree_34 : decode c_M_respondTree 34 = .ok (.aload_n 0, 1) := by decide +kernel
theorem d_M_respondTree_35 : decode c_M_respondTree 35 = .ok (.getfield 77, 3) := by decide +kernel
theorem d_M_respondTree_38 : decode c_M_respondTree 38 = .ok (.aload_n 0, 1) := by decide +kernel
theorem d_M_respondTree_39 : decode c_M_respondTree 39 = .ok (.getfield 145, 3) := by decide +kernel
theorem d_M_respondTree_42 : decode c_M_respondTree 42 = .ok (.iaload, 1) := by decide +kernel
theorem d_M_respondTree_43 : decode c_M_respondTree 43 = .ok (.istore_n 2, 1) := by decide +kernel
theorem d_M_respondTree_44 : decode c_M_respondTree 44 = .ok (.aload_n 0, 1) := by decide +kernel
theorem d_M_respondTree_45 : decode c_M_respondTree 45 = .ok (.getfield 28, 3) := by decide +kernel
theorem d_M_respondTree_48 : decode c_M_respondTree 48 = .ok (.iload_n 2, 1) := by decide +kernel
theorem d_M_respondTree_49 : decode c_M_respondTree 49 = .ok (.iaload, 1) := by decide +kernel
theorem d_M_respondTree_50 : decode c_M_respondTree 50 = .ok (.ifCond .ne 22, 3) := by decide +kernel
theorem d_M_respondTree_53 : decode c_M_respondTree 53 = .ok (.aload_n 0, 1) := by decide +kernel
theorem d_M_respondTree_54 : decode c_M_respondTree 54 = .ok (.aload_n 0, 1) := by decide +kernel
theorem d_M_respondTree_55 : decode c_M_respondTree 55 = .ok (.getfield 37, 3) := by decide +kernel
theorem d_M_respondTree_58 : decode c_M_respondTree 58 = .ok (.iload_n 2, 1) := by decide +kernel
theorem d_M_respondTree_59 : decode c_M_respondTree 59 = .ok (.iaload, 1) := by decide +kernel
theorem d_M_respondTree_60 : decode c_M_respondTree 60 = .ok (.aload_n 0, 1) := by decide +kernel
theorem d_M_respondTree_61 : decode c_M_respondTree 61 = .ok (.getfield 80, 3) := by decide +kernel
theorem d_M_respondTree_64 : decode c_M_respondTree 64 = .ok (.iload_n 2, 1) := by decide +kernel
theorem d_M_respondTree_65 : decode c_M_respondTree 65 = .ok (.iaload, 1) := by decide +kernel
theorem d_M_respondTree_66 : decode c_M_respondTree 66 = .ok (.invokevirtual 165, 3) := by decide +kernel
theorem d_M_respondTree_69 : decode c_M_respondTree 69 = .ok (.goto 94, 3) := by decide +kernel
theorem d_M_respondTree_72 : decode c_M_respondTree 72 = .ok (.aload_n 0, 1) := by decide +kernel
theorem d_M_respondTree_73 : decode c_M_respondTree 73 = .ok (.getfield 28, 3) := by decide +kernel
theorem d_M_respondTree_76 : decode c_M_respondTree 76 = .ok (.iload_n 2, 1) := by decide +kernel
theorem d_M_respondTree_77 : decode c_M_respondTree 77 = .ok (.iaload, 1) := by decide +kernel
theorem d_M_respondTree_78 : decode c_M_respondTree 78 = .ok (.iconst 1, 1) := by decide +kernel
theorem d_M_respondTree_79 : decode c_M_respondTree 79 = .ok (.if_icmp .ne 40, 3) := by decide +kernel
theorem d_M_respondTree_82 : decode c_M_respondTree 82 = .ok (.aload_n 0, 1) := by decide +kernel
theorem d_M_respondTree_83 : decode c_M_respondTree 83 = .ok (.aload_n 0, 1) := by decide +kernel
theorem d_M_respondTree_84 : decode c_M_respondTree 84 = .ok (.getfield 31, 3) := by decide +kernel
theorem d_M_respondTree_87 : decode c_M_respondTree 87 = .ok (.iload_n 2, 1) := by decide +kernel
theorem d_M_respondTree_88 : decode c_M_respondTree 88 = .ok (.iaload, 1) := by decide +kernel
theorem d_M_respondTree_89 : decode c_M_respondTree 89 = .ok (.iconst 1, 1) := by decide +kernel
theorem d_M_respondTree_90 : decode c_M_respondTree 90 = .ok (.aload_n 0, 1) := by decide +kernel
theorem d_M_respondTree_91 : decode c_M_respondTree 91 = .ok (.getfield 80, 3) := by decide +kernel
theorem d_M_respondTree_94 : decode c_M_respondTree 94 = .ok (.iload_n 2, 1) := by decide +kernel
theorem d_M_respondTree_95 : decode c_M_respondTree 95 = .ok (.iaload, 1) := by decide +kernel
theorem d_M_respondTree_96 : decode c_M_respondTree 96 = .ok (.invokevirtual 155, 3) := by decide +kernel
theorem d_M_respondTree_99 : decode c_M_respondTree 99 = .ok (.aload_n 0, 1) := by decide +kernel
theorem d_M_respondTree_100 : decode c_M_respondTree 100 = .ok (.aload_n 0, 1) := by decide +kernel
theorem d_M_respondTree_101 : decode c_M_respondTree 101 = .ok (.getfield 34, 3) := by decide +kernel
theorem d_M_respondTree_104 : decode c_M_respondTree 104 = .ok (.iload_n 2, 1) := by decide +kernel
theorem d_M_respondTree_105 : decode c_M_respondTree 105 = .ok (.iaload, 1) := by decide +kernel
theorem d_M_respondTree_106 : decode c_M_respondTree 106 = .ok (.iconst 1, 1) := by decide +kernel
theorem d_M_respondTree_107 : decode c_M_respondTree 107 = .ok (.aload_n 0, 1) := by decide +kernel
theorem d_M_respondTree_108 : decode c_M_respondTree 108 = .ok (.getfield 80, 3) := by decide +kernel
theorem d_M_respondTree_111 : decode c_M_respondTree 111 = .ok (.iload_n 2, 1) := by decide +kernel
theorem d_M_respondTree_112 : decode c_M_respondTree 112 = .ok (.iaload, 1) := by decide +kernel
theorem d_M_respondTree_113 : decode c_M_respondTree 113 = .ok (.invokevirtual 155, 3) := by decide +kernel
theorem d_M_respondTree_116 : decode c_M_respondTree 116 = .ok (.goto 47, 3) := by decide +kernel
theorem d_M_respondTree_119 : decode c_M_respondTree 119 = .ok (.aload_n 0, 1) := by decide +kernel
theorem d_M_respondTree_120 : decode c_M_respondTree 120 = .ok (.aload_n 0, 1) := by decide +kernel
theorem d_M_respondTree_121 : decode c_M_respondTree 121 = .ok (.getfield 70, 3) := by decide +kernel
theorem d_M_respondTree_124 : decode c_M_respondTree 124 = .ok (.iload_n 2, 1) := by decide +kernel
theorem d_M_respondTree_125 : decode c_M_respondTree 125 = .ok (.baload, 1) := by decide +kernel
theorem d_M_respondTree_126 : decode c_M_respondTree 126 = .ok (.ifCond .eq 12, 3) := by decide +kernel
theorem d_M_respondTree_129 : decode c_M_respondTree 129 = .ok (.aload_n 0, 1) := by decide +kernel
theorem d_M_respondTree_130 : decode c_M_respondTree 130 = .ok (.getfield 31, 3) := by decide +kernel
theorem d_M_respondTree_133 : decode c_M_respondTree 133 = .ok (.iload_n 2, 1) := by decide +kernel
theorem d_M_respondTree_134 : decode c_M_respondTree 134 = .ok (.iaload, 1) := by decide +kernel
theorem d_M_respondTree_135 : decode c_M_respondTree 135 = .ok (.goto 9, 3) := by decide +kernel
theorem d_M_respondTree_138 : decode c_M_respondTree 138 = .ok (.aload_n 0, 1) := by decide +kernel
theorem d_M_respondTree_139 : decode c_M_respondTree 139 = .ok (.getfield 34, 3) := by decide +kernel
theorem d_M_respondTree_142 : decode c_M_respondTree 142 = .ok (.iload_n 2, 1) := by decide +kernel
theorem d_M_respondTree_143 : decode c_M_respondTree 143 = .ok (.iaload, 1) := by decide +kernel
theorem d_M_respondTree_144 : decode c_M_respondTree 144 = .ok (.iconst 1, 1) := by decide +kernel
theorem d_M_respondTree_145 : decode c_M_respondTree 145 = .ok (.aload_n 0, 1) := by decide +kernel
theorem d_M_respondTree_146 : decode c_M_respondTree 146 = .ok (.getfield 80, 3) := by decide +kernel
theorem d_M_respondTree_149 : decode c_M_respondTree 149 = .ok (.iload_n 2, 1) := by decide +kernel
theorem d_M_respondTree_150 : decode c_M_respondTree 150 = .ok (.iaload, 1) := by decide +kernel
theorem d_M_respondTree_151 : decode c_M_respondTree 151 = .ok (.aload_n 0, 1) := by decide +kernel
theorem d_M_respondTree_152 : decode c_M_respondTree 152 = .ok (.getfield 74, 3) := by decide +kernel
theorem d_M_respondTree_155 : decode c_M_respondTree 155 = .ok (.iload_n 2, 1) := by decide +kernel
theorem d_M_respondTree_156 : decode c_M_respondTree 156 = .ok (.iaload, 1) := by decide +kernel
theorem d_M_respondTree_157 : decode c_M_respondTree 157 = .ok (.invokestatic 152, 3) := by decide +kernel
theorem d_M_respondTree_160 : decode c_M_respondTree 160 = .ok (.invokevirtual 155, 3) := by decide +kernel
theorem d_M_respondTree_163 : decode c_M_respondTree 163 = .ok (.goto (-146), 3) := by decide +kernel
theorem d_M_respondTree_166 : decode c_M_respondTree 166 = .ok (.return_, 1) := by decide +kernel

section MS
variable {p : Program} {l : Launch} {e : Env} {R : Room} {s : State} {m : MethodId} {args : Array Value} {below : List Frame} {meth : Method} {c : Code} {H0 : Heap} {cells slots : Nat} {Q : State → Prop} {A : Nat → Prop} {D : va_G} {ca : Nat → ClassId} {am : Nat → Nat} {ar : Nat → Nat → Nat}
set_option maxHeartbeats 4000000 in
set_option maxRecDepth 100000 in
theorem rt_node (hx : p.tables.exec = Jvm.exec) (hb : c.code = c_M_respondTree) (hml : c.maxLocals = 3) (hown : s.vm.findClass R_M = some m.cls) (hts : ∀ w ∈ zT, w.before args s = true) (hK : va_K D zC (zty ca) s) (hD : zD A 28 am) (hI : mI am) (hAA : ∀ q, mA am q → A q) (hRf : 3 ≤ R.frames) (hRl : 120 ≤ R.locals) (hc : cells ≤ R.cells) (hsl : slots ≤ R.slots) {N : Nat} {kd lf rt lv lr dn wi no : Nat → Nat} {lo : Nat → Nat} {G : Nat → Prop} (hN : N ≤ 15) (hI2 : tI kd lf rt lo N) (hlv : ∀ k, k < N → kd k = 0 → lv k < 8) (hG : gC kd lf rt lv lr dn wi no N G) : ∀ (k : Nat), k < N → G k → ∀ (t : Nat) (c0 : Nat) (o sc : Nat → Nat → Nat) (H : Heap) (locs : List Loc) (ls : Array Slot), t + k ≤ 14 → c0 < 5003 → tr kd lf rt lv lr dn wi no o → sc 0 6 = t + 1 → sc 23 t = k → sc 24 k = c0 → va_P D zC (zl 28 am (mct ca am (mix o sc))) H → va_S A H0 H locs → lv_has ls 3 [(0, .ref (am 0))] →
    (∀ (sc1 : Nat → Nat → Nat) (H : Heap) (locs : List Loc) (ls : Array Slot), sc1 0 6 = t → (∀ i, i < t → sc1 23 i = sc 23 i) → (∀ i, i < lo k ∨ k ≤ i → sc1 24 i = sc 24 i) → va_P D zC (zl 28 am (mct ca am (mix (rq false kd lf rt lv lr dn k c0 o) sc1))) H → va_S A H0 H locs → lv_has ls 3 [(0, .ref (am 0))] → W p l e R s m args below meth c H locs cells slots Q (F0 m 17 ls [])) → W p l e R s m args below meth c H locs cells slots Q (F0 m 17 ls []) := by
  intro k
  induction k using Nat.strongRecOn with
  | ind k ih =>
    intro hk gk t c0 o sc H locs ls htk hc0 hTb hsc hq hcc hP hS hl kk
    obtain ⟨hkd, hlo, hch⟩ := hI2 k hk
    obtain ⟨q0, q1, q2⟩ := hG k hk gk
    obtain ⟨h7, h8, h9, h10, r21, r22, h13, h20⟩ := id hTb
    rcases (show kd k = 0 ∨ kd k = 1 ∨ kd k = 2 by omega) with k0 | k0 | k0
    · skip
      have hlvk := hlv k hk k0
      obtain ⟨hw1, hn1⟩ := q0 k0
      refine lv_aload_n hx hb d_M_respondTree_17 rfl (lv_at hl 0 rfl) ?_
      refine mm_get hx hb hts hown hK hP (index := 145) 33 (by decide) mf_M_145 (v := .int (nI ((mix o sc) 0 6))) rfl d_M_respondTree_18 ?_
      refine zz_as (y := nI (t + 1)) (congrArg nI hsc) ?_
      refine lv_if_le (tgt := 166) hx hb d_M_respondTree_21 rfl (fun h21 => absurd h21 (nI_nle (by omega) (by omega))) (fun h21 => ?_)
      refine lv_aload_n hx hb d_M_respondTree_24 rfl (lv_at hl 0 rfl) ?_
      refine lv_dup hx hb d_M_respondTree_25 rfl ?_
      refine mm_get hx hb hts hown hK hP (index := 145) 33 (by decide) mf_M_145 (v := .int (nI ((mix o sc) 0 6))) rfl d_M_respondTree_26 ?_
      refine zz_as (y := nI (t + 1)) (congrArg nI hsc) ?_
      refine lv_iconst (v := 1) hx hb d_M_respondTree_29 rfl ?_
      refine lv_isub hx hb d_M_respondTree_30 ?_
      refine zz_as (y := nI ((t + 1) - 1)) (pk_sub (a := t + 1) (b := 1) (by omega)) ?_
      refine zz_as (y := nI t) (rfl) ?_
      refine mm_put hx hb hts hown hK hP hD hS (index := 145) 6 (by decide) mf_M_145 (t) (rfl) rfl rfl d_M_respondTree_31 (fun H locs hP hS => ?_)
      refine lv_aload_n hx hb d_M_respondTree_34 rfl (lv_at hl 0 rfl) ?_
      refine mm_get hx hb hts hown hK hP (index := 77) 22 (by decide) mf_M_77 (v := .ref (am 23)) rfl d_M_respondTree_35 ?_
      refine lv_aload_n hx hb d_M_respondTree_38 rfl (lv_at hl 0 rfl) ?_
      refine mm_get hx hb hts hown hK hP (index := 145) 33 (by decide) mf_M_145 (v := .int (nI t)) rfl d_M_respondTree_39 ?_
      refine mm_ald hx hb hK hP 22 (by decide) rfl (t) rfl (show t < 15 from by omega) (k) (hq) d_M_respondTree_42 ?_
      refine lv_istore_n (lv' := [(2, .int (nI k)), (0, .ref (am 0))]) hx hb d_M_respondTree_43 rfl hl (by decide) rfl (fun ls hl => ?_)
      refine lv_aload_n hx hb d_M_respondTree_44 rfl (lv_at hl 1 rfl) ?_
      refine mm_get hx hb hts hown hK hP (index := 28) 6 (by decide) mf_M_28 (v := .ref (am 7)) rfl d_M_respondTree_45 ?_
      refine lv_iload_n hx hb d_M_respondTree_48 rfl (lv_at hl 0 rfl) ?_
      refine mm_ald hx hb hK hP 6 (by decide) rfl (k) rfl (show k < 15 from by omega) (kd k) (congrFun h7 k) d_M_respondTree_49 ?_
      refine lv_if_ne (tgt := 72) hx hb d_M_respondTree_50 rfl (fun h50 => absurd (by rw [k0]; rfl) h50) (fun h50 => ?_)
      refine lv_aload_n hx hb d_M_respondTree_53 rfl (lv_at hl 1 rfl) ?_
      refine lv_aload_n hx hb d_M_respondTree_54 rfl (lv_at hl 1 rfl) ?_
      refine mm_get hx hb hts hown hK hP (index := 37) 9 (by decide) mf_M_37 (v := .ref (am 10)) rfl d_M_respondTree_55 ?_
      refine lv_iload_n hx hb d_M_respondTree_58 rfl (lv_at hl 0 rfl) ?_
      refine mm_ald hx hb hK hP 9 (by decide) rfl (k) rfl (show k < 15 from by omega) (lv k) (congrFun h10 k) d_M_respondTree_59 ?_
      refine lv_aload_n hx hb d_M_respondTree_60 rfl (lv_at hl 1 rfl) ?_
      refine mm_get hx hb hts hown hK hP (index := 80) 23 (by decide) mf_M_80 (v := .ref (am 24)) rfl d_M_respondTree_61 ?_
      refine lv_iload_n hx hb d_M_respondTree_64 rfl (lv_at hl 0 rfl) ?_
      refine mm_ald hx hb hK hP 23 (by decide) rfl (k) rfl (show k < 15 from by omega) (c0) (hcc) d_M_respondTree_65 ?_
      refine mm_cv (index := 165) (n := 2) (As := [.int (nI (lv k)), .int (nI c0)]) (rest := []) ⟨hx, hb, hml, hown, hts⟩ (k_respondLeafM l D ca am (zs (mix o sc) 0 6 t) hI (lv k) c0 hlvk hc0 (show o 13 (lv k) < 5003 by rw [h13]; exact hw1) (show o 20 (lv k) < 5003 by rw [h20]; exact hn1)) mk_M_165 mo_M_respondLeaf me_M_M_respondLeaf_M mi_M mc_M_respondLeaf (by decide +kernel) ⟨rfl, rfl⟩ ⟨Nat.le_trans (by decide) hRf, Nat.le_trans (by decide) hRl⟩ hK hP hS hAA rfl hl.1 rfl (Nat.le_of_ble_eq_true rfl) d_M_respondTree_66 ⟨hc, hsl⟩ (fun ar1 H locs hpost hP hS => ?_)
      rw [zs_mixS _ _ _ (by omega), rspL_mix] at hpost
      subst hpost
      refine lv_goto (tgt := 163) hx hb d_M_respondTree_69 rfl ?_
      refine lv_goto (tgt := 17) hx hb d_M_respondTree_163 rfl ?_
      have hl := lv_sub (l' := [(0, .ref (am 0))]) hl [1] rfl
      exact kk (zs sc 0 6 t) H locs ls rfl (fun i hi => rfl) (fun i hi => rfl) (by rw [rq_leaf k0]; exact hP) hS hl
    · skip
      obtain ⟨c1, c2, c3, c4, c5⟩ := hch (by rw [k0]; decide)
      have hlk : lf k < k := by omega
      obtain ⟨gl, gr⟩ := q1 k0
      refine lv_aload_n hx hb d_M_respondTree_17 rfl (lv_at hl 0 rfl) ?_
      refine mm_get hx hb hts hown hK hP (index := 145) 33 (by decide) mf_M_145 (v := .int (nI ((mix o sc) 0 6))) rfl d_M_respondTree_18 ?_
      refine zz_as (y := nI (t + 1)) (congrArg nI hsc) ?_
      refine lv_if_le (tgt := 166) hx hb d_M_respondTree_21 rfl (fun h21 => absurd h21 (nI_nle (by omega) (by omega))) (fun h21 => ?_)
      refine lv_aload_n hx hb d_M_respondTree_24 rfl (lv_at hl 0 rfl) ?_
      refine lv_dup hx hb d_M_respondTree_25 rfl ?_
      refine mm_get hx hb hts hown hK hP (index := 145) 33 (by decide) mf_M_145 (v := .int (nI ((mix o sc) 0 6))) rfl d_M_respondTree_26 ?_
      refine zz_as (y := nI (t + 1)) (congrArg nI hsc) ?_
      refine lv_iconst (v := 1) hx hb d_M_respondTree_29 rfl ?_
      refine lv_isub hx hb d_M_respondTree_30 ?_
      refine zz_as (y := nI ((t + 1) - 1)) (pk_sub (a := t + 1) (b := 1) (by omega)) ?_
      refine zz_as (y := nI t) (rfl) ?_
      refine mm_put hx hb hts hown hK hP hD hS (index := 145) 6 (by decide) mf_M_145 (t) (rfl) rfl rfl d_M_respondTree_31 (fun H locs hP hS => ?_)
      refine lv_aload_n hx hb d_M_respondTree_34 rfl (lv_at hl 0 rfl) ?_
      refine mm_get hx hb hts hown hK hP (index := 77) 22 (by decide) mf_M_77 (v := .ref (am 23)) rfl d_M_respondTree_35 ?_
      refine lv_aload_n hx hb d_M_respondTree_38 rfl (lv_at hl 0 rfl) ?_
      refine mm_get hx hb hts hown hK hP (index := 145) 33 (by decide) mf_M_145 (v := .int (nI t)) rfl d_M_respondTree_39 ?_
      refine mm_ald hx hb hK hP 22 (by decide) rfl (t) rfl (show t < 15 from by omega) (k) (hq) d_M_respondTree_42 ?_
      refine lv_istore_n (lv' := [(2, .int (nI k)), (0, .ref (am 0))]) hx hb d_M_respondTree_43 rfl hl (by decide) rfl (fun ls hl => ?_)
      refine lv_aload_n hx hb d_M_respondTree_44 rfl (lv_at hl 1 rfl) ?_
      refine mm_get hx hb hts hown hK hP (index := 28) 6 (by decide) mf_M_28 (v := .ref (am 7)) rfl d_M_respondTree_45 ?_
      refine lv_iload_n hx hb d_M_respondTree_48 rfl (lv_at hl 0 rfl) ?_
      refine mm_ald hx hb hK hP 6 (by decide) rfl (k) rfl (show k < 15 from by omega) (kd k) (congrFun h7 k) d_M_respondTree_49 ?_
      refine lv_if_ne (tgt := 72) hx hb d_M_respondTree_50 rfl (fun h50 => ?_) (fun h50 => absurd h50 (by rw [k0]; decide))
      refine lv_aload_n hx hb d_M_respondTree_72 rfl (lv_at hl 1 rfl) ?_
      refine mm_get hx hb hts hown hK hP (index := 28) 6 (by decide) mf_M_28 (v := .ref (am 7)) rfl d_M_respondTree_73 ?_
      refine lv_iload_n hx hb d_M_respondTree_76 rfl (lv_at hl 0 rfl) ?_
      refine mm_ald hx hb hK hP 6 (by decide) rfl (k) rfl (show k < 15 from by omega) (kd k) (congrFun h7 k) d_M_respondTree_77 ?_
      refine lv_iconst (v := 1) hx hb d_M_respondTree_78 rfl ?_
      refine lv_icmp_ne (tgt := 119) hx hb d_M_respondTree_79 rfl (fun h79 => absurd (by rw [k0]; rfl) h79) (fun h79 => ?_)
      refine lv_aload_n hx hb d_M_respondTree_82 rfl (lv_at hl 1 rfl) ?_
      refine lv_aload_n hx hb d_M_respondTree_83 rfl (lv_at hl 1 rfl) ?_
      refine mm_get hx hb hts hown hK hP (index := 31) 7 (by decide) mf_M_31 (v := .ref (am 8)) rfl d_M_respondTree_84 ?_
      refine lv_iload_n hx hb d_M_respondTree_87 rfl (lv_at hl 0 rfl) ?_
      refine mm_ald hx hb hK hP 7 (by decide) rfl (k) rfl (show k < 15 from by omega) (lf k) (congrFun h8 k) d_M_respondTree_88 ?_
      refine lv_iconst (v := 1) hx hb d_M_respondTree_89 rfl ?_
      refine lv_aload_n hx hb d_M_respondTree_90 rfl (lv_at hl 1 rfl) ?_
      refine mm_get hx hb hts hown hK hP (index := 80) 23 (by decide) mf_M_80 (v := .ref (am 24)) rfl d_M_respondTree_91 ?_
      refine lv_iload_n hx hb d_M_respondTree_94 rfl (lv_at hl 0 rfl) ?_
      refine mm_ald hx hb hK hP 23 (by decide) rfl (k) rfl (show k < 15 from by omega) (c0) (hcc) d_M_respondTree_95 ?_
      refine mm_cv (index := 155) (n := 3) (As := [.int (nI (lf k)), .int 1, .int (nI c0)]) (rest := []) ⟨hx, hb, hml, hown, hts⟩ (k_laterM l D ca am (zs (mix o sc) 0 6 t) hI (lf k) 1 c0 (by omega) (by decide) (show t < 15 by omega)) mk_M_155 mo_M_later me_M_M_later_M mi_M mc_M_later (by decide +kernel) ⟨rfl, rfl⟩ ⟨Nat.le_trans (by decide) hRf, Nat.le_trans (by decide) hRl⟩ hK hP hS hAA rfl hl.1 rfl (Nat.le_of_ble_eq_true rfl) d_M_respondTree_96 ⟨hc, hsl⟩ (fun ar1 H locs hpost hP hS => ?_)
      rw [zs_mixS _ _ _ (by omega), lat_mix] at hpost
      subst hpost
      refine lv_aload_n hx hb d_M_respondTree_99 rfl (lv_at hl 1 rfl) ?_
      refine lv_aload_n hx hb d_M_respondTree_100 rfl (lv_at hl 1 rfl) ?_
      refine mm_get hx hb hts hown hK hP (index := 34) 8 (by decide) mf_M_34 (v := .ref (am 9)) rfl d_M_respondTree_101 ?_
      refine lv_iload_n hx hb d_M_respondTree_104 rfl (lv_at hl 0 rfl) ?_
      refine mm_ald hx hb hK hP 8 (by decide) rfl (k) rfl (show k < 15 from by omega) (rt k) (congrFun h9 k) d_M_respondTree_105 ?_
      refine lv_iconst (v := 1) hx hb d_M_respondTree_106 rfl ?_
      refine lv_aload_n hx hb d_M_respondTree_107 rfl (lv_at hl 1 rfl) ?_
      refine mm_get hx hb hts hown hK hP (index := 80) 23 (by decide) mf_M_80 (v := .ref (am 24)) rfl d_M_respondTree_108 ?_
      refine lv_iload_n hx hb d_M_respondTree_111 rfl (lv_at hl 0 rfl) ?_
      refine mm_ald hx hb hK hP 23 (by decide) rfl (k) rfl (show k < 15 from by omega) (c0) (by show lat (zs sc 0 6 t) (lf k) 1 c0 24 k = _; rw [lat_24, if_neg (by omega)]; exact hcc) d_M_respondTree_112 ?_
      refine mm_cv (index := 155) (n := 3) (As := [.int (nI (rt k)), .int 1, .int (nI c0)]) (rest := []) ⟨hx, hb, hml, hown, hts⟩ (k_laterM l D ca am (mix o (lat (zs sc 0 6 t) (lf k) 1 c0)) hI (rt k) 1 c0 (by omega) (by decide) (by show lat (zs sc 0 6 t) (lf k) 1 c0 0 6 < 15; rw [lat_06]; show t + 1 < 15; omega)) mk_M_155 mo_M_later me_M_M_later_M mi_M mc_M_later (by decide +kernel) ⟨rfl, rfl⟩ ⟨Nat.le_trans (by decide) hRf, Nat.le_trans (by decide) hRl⟩ hK hP hS hAA rfl hl.1 rfl (Nat.le_of_ble_eq_true rfl) d_M_respondTree_113 ⟨hc, hsl⟩ (fun ar1 H locs hpost hP hS => ?_)
      rw [lat_mix] at hpost
      subst hpost
      refine lv_goto (tgt := 163) hx hb d_M_respondTree_116 rfl ?_
      refine lv_goto (tgt := 17) hx hb d_M_respondTree_163 rfl ?_
      have hl := lv_sub (l' := [(0, .ref (am 0))]) hl [1] rfl
      obtain ⟨g06, g231, g230, g23, g24l, g25l, g24r, g25r, g45⟩ := lat2 sc t (lf k) (rt k) 1 c0 1 c0 (by omega)
      refine ih (rt k) c5 (by omega) gr (t + 1) c0 o _ H locs ls (by omega) hc0 hTb g06 g231 g24l hP hS hl (fun sc1 H locs ls e06 e23 e45 hP hS hl => ?_)
      refine ih (lf k) hlk (by omega) gl t c0 (rq false kd lf rt lv lr dn (rt k) c0 o) sc1 H locs ls (by omega) hc0 (tr_rq hTb _ _ _) e06 ((e23 t (by omega)).trans g230) ((e45 (lf k) (Or.inl (by omega))).trans g24r) hP hS hl (fun sc2 H locs ls f06 f23 f45 hP hS hl => ?_)
      refine kk sc2 H locs ls f06 (fun i hi => ?_) (fun i hi => ?_) (by rw [rq_and k0 hlk c5, if_neg (by decide)]; exact hP) hS hl
      · rw [f23 i hi, e23 i (by omega), g23 i hi]
      · exact (f45 i (by omega)).trans ((e45 i (by omega)).trans (g45 i (by omega) (by omega)).1)
    · skip
      obtain ⟨c1, c2, c3, c4, c5⟩ := hch (by rw [k0]; decide)
      have hlk : lf k < k := by omega
      obtain ⟨hdn, hlr2, gl, gr⟩ := q2 k0
      refine lv_aload_n hx hb d_M_respondTree_17 rfl (lv_at hl 0 rfl) ?_
      refine mm_get hx hb hts hown hK hP (index := 145) 33 (by decide) mf_M_145 (v := .int (nI ((mix o sc) 0 6))) rfl d_M_respondTree_18 ?_
      refine zz_as (y := nI (t + 1)) (congrArg nI hsc) ?_
      refine lv_if_le (tgt := 166) hx hb d_M_respondTree_21 rfl (fun h21 => absurd h21 (nI_nle (by omega) (by omega))) (fun h21 => ?_)
      refine lv_aload_n hx hb d_M_respondTree_24 rfl (lv_at hl 0 rfl) ?_
      refine lv_dup hx hb d_M_respondTree_25 rfl ?_
      refine mm_get hx hb hts hown hK hP (index := 145) 33 (by decide) mf_M_145 (v := .int (nI ((mix o sc) 0 6))) rfl d_M_respondTree_26 ?_
      refine zz_as (y := nI (t + 1)) (congrArg nI hsc) ?_
      refine lv_iconst (v := 1) hx hb d_M_respondTree_29 rfl ?_
      refine lv_isub hx hb d_M_respondTree_30 ?_
      refine zz_as (y := nI ((t + 1) - 1)) (pk_sub (a := t + 1) (b := 1) (by omega)) ?_
      refine zz_as (y := nI t) (rfl) ?_
      refine mm_put hx hb hts hown hK hP hD hS (index := 145) 6 (by decide) mf_M_145 (t) (rfl) rfl rfl d_M_respondTree_31 (fun H locs hP hS => ?_)
      refine lv_aload_n hx hb d_M_respondTree_34 rfl (lv_at hl 0 rfl) ?_
      refine mm_get hx hb hts hown hK hP (index := 77) 22 (by decide) mf_M_77 (v := .ref (am 23)) rfl d_M_respondTree_35 ?_
      refine lv_aload_n hx hb d_M_respondTree_38 rfl (lv_at hl 0 rfl) ?_
      refine mm_get hx hb hts hown hK hP (index := 145) 33 (by decide) mf_M_145 (v := .int (nI t)) rfl d_M_respondTree_39 ?_
      refine mm_ald hx hb hK hP 22 (by decide) rfl (t) rfl (show t < 15 from by omega) (k) (hq) d_M_respondTree_42 ?_
      refine lv_istore_n (lv' := [(2, .int (nI k)), (0, .ref (am 0))]) hx hb d_M_respondTree_43 rfl hl (by decide) rfl (fun ls hl => ?_)
      refine lv_aload_n hx hb d_M_respondTree_44 rfl (lv_at hl 1 rfl) ?_
      refine mm_get hx hb hts hown hK hP (index := 28) 6 (by decide) mf_M_28 (v := .ref (am 7)) rfl d_M_respondTree_45 ?_
      refine lv_iload_n hx hb d_M_respondTree_48 rfl (lv_at hl 0 rfl) ?_
      refine mm_ald hx hb hK hP 6 (by decide) rfl (k) rfl (show k < 15 from by omega) (kd k) (congrFun h7 k) d_M_respondTree_49 ?_
      refine lv_if_ne (tgt := 72) hx hb d_M_respondTree_50 rfl (fun h50 => ?_) (fun h50 => absurd h50 (by rw [k0]; decide))
      refine lv_aload_n hx hb d_M_respondTree_72 rfl (lv_at hl 1 rfl) ?_
      refine mm_get hx hb hts hown hK hP (index := 28) 6 (by decide) mf_M_28 (v := .ref (am 7)) rfl d_M_respondTree_73 ?_
      refine lv_iload_n hx hb d_M_respondTree_76 rfl (lv_at hl 0 rfl) ?_
      refine mm_ald hx hb hK hP 6 (by decide) rfl (k) rfl (show k < 15 from by omega) (kd k) (congrFun h7 k) d_M_respondTree_77 ?_
      refine lv_iconst (v := 1) hx hb d_M_respondTree_78 rfl ?_
      refine lv_icmp_ne (tgt := 119) hx hb d_M_respondTree_79 rfl (fun h79 => ?_) (fun h79 => absurd h79 (by rw [k0]; decide))
      refine lv_aload_n hx hb d_M_respondTree_119 rfl (lv_at hl 1 rfl) ?_
      refine lv_aload_n hx hb d_M_respondTree_120 rfl (lv_at hl 1 rfl) ?_
      refine mm_get hx hb hts hown hK hP (index := 70) 20 (by decide) mf_M_70 (v := .ref (am 21)) rfl d_M_respondTree_121 ?_
      refine lv_iload_n hx hb d_M_respondTree_124 rfl (lv_at hl 0 rfl) ?_
      refine mm_zald hx hb hK hP 20 (by decide) rfl (k) rfl (show k < 15 from by omega) (lr k) (congrFun r21 k) d_M_respondTree_125 ?_
      refine lv_if_eq (tgt := 138) hx hb d_M_respondTree_126 rfl (fun h126 => ?_) (fun h126 => ?_)
      · skip
        have l0 : ¬ lr k = 1 := by have := b_z hlr2 h126; omega
        refine lv_aload_n hx hb d_M_respondTree_138 rfl (lv_at hl 1 rfl) ?_
        refine mm_get hx hb hts hown hK hP (index := 34) 8 (by decide) mf_M_34 (v := .ref (am 9)) rfl d_M_respondTree_139 ?_
        refine lv_iload_n hx hb d_M_respondTree_142 rfl (lv_at hl 0 rfl) ?_
        refine mm_ald hx hb hK hP 8 (by decide) rfl (k) rfl (show k < 15 from by omega) (rt k) (congrFun h9 k) d_M_respondTree_143 ?_
        refine lv_iconst (v := 1) hx hb d_M_respondTree_144 rfl ?_
        refine lv_aload_n hx hb d_M_respondTree_145 rfl (lv_at hl 1 rfl) ?_
        refine mm_get hx hb hts hown hK hP (index := 80) 23 (by decide) mf_M_80 (v := .ref (am 24)) rfl d_M_respondTree_146 ?_
        refine lv_iload_n hx hb d_M_respondTree_149 rfl (lv_at hl 0 rfl) ?_
        refine mm_ald hx hb hK hP 23 (by decide) rfl (k) rfl (show k < 15 from by omega) (c0) (hcc) d_M_respondTree_150 ?_
        refine lv_aload_n hx hb d_M_respondTree_151 rfl (lv_at hl 1 rfl) ?_
        refine mm_get hx hb hts hown hK hP (index := 74) 21 (by decide) mf_M_74 (v := .ref (am 22)) rfl d_M_respondTree_152 ?_
        refine lv_iload_n hx hb d_M_respondTree_155 rfl (lv_at hl 0 rfl) ?_
        refine mm_ald hx hb hK hP 21 (by decide) rfl (k) rfl (show k < 15 from by omega) (dn k) (congrFun r22 k) d_M_respondTree_156 ?_
        refine zz_cS (index := 152) (n := 2) (As := [.int (nI c0), .int (nI (dn k))]) (rest := [.int 1, .int (nI (rt k)), .ref (am 0)]) ⟨hx, hb, hml, hown, hts⟩ (k_less l c0 (dn k) hc0 hdn) mk_M_152 ms_M_less mi_M mc_M_less (by decide +kernel) ⟨rfl, rfl⟩ ⟨Nat.le_trans (by decide) hRf, Nat.le_trans (by decide) hRl⟩ preEq rfl hl.1 rfl (Nat.le_of_ble_eq_true rfl) d_M_respondTree_157 ⟨hc, hsl⟩ ?_
        refine mm_cv (index := 155) (n := 3) (As := [.int (nI (rt k)), .int 1, .int (nI (ls5 c0 (dn k)))]) (rest := []) ⟨hx, hb, hml, hown, hts⟩ (k_laterM l D ca am (zs (mix o sc) 0 6 t) hI (rt k) 1 (ls5 c0 (dn k)) (by omega) (by decide) (show t < 15 by omega)) mk_M_155 mo_M_later me_M_M_later_M mi_M mc_M_later (by decide +kernel) ⟨rfl, rfl⟩ ⟨Nat.le_trans (by decide) hRf, Nat.le_trans (by decide) hRl⟩ hK hP hS hAA rfl hl.1 rfl (Nat.le_of_ble_eq_true rfl) d_M_respondTree_160 ⟨hc, hsl⟩ (fun ar1 H locs hpost hP hS => ?_)
        rw [zs_mixS _ _ _ (by omega), lat_mix] at hpost
        subst hpost
        refine lv_goto (tgt := 17) hx hb d_M_respondTree_163 rfl ?_
        have hl := lv_sub (l' := [(0, .ref (am 0))]) hl [1] rfl
        have z6 : (zs sc 0 6 t) 0 6 = t := zs_eq _ _ _ _
        refine ih (rt k) c5 (by omega) (gr l0) t (ls5 c0 (dn k)) o _ H locs ls (by omega) (ls5_lt _ _) hTb (by rw [lat_06, z6]) (by rw [lat_23, z6, if_pos rfl]) (by rw [lat_24, if_pos rfl]) hP hS hl (fun sc1 H locs ls e06 e23 e45 hP hS hl => ?_)
        refine kk sc1 H locs ls e06 (fun i hi => ?_) (fun i hi => ?_) (by rw [rq_orR k0 hlk c5 l0]; exact hP) hS hl
        · rw [e23 i hi, lat_23, z6, if_neg (by omega)]; rfl
        · rw [e45 i (by omega), lat_24, if_neg (by omega)]; rfl
      · skip
        have l0 : lr k = 1 := b_o hlr2 h126
        refine lv_aload_n hx hb d_M_respondTree_129 rfl (lv_at hl 1 rfl) ?_
        refine mm_get hx hb hts hown hK hP (index := 31) 7 (by decide) mf_M_31 (v := .ref (am 8)) rfl d_M_respondTree_130 ?_
        refine lv_iload_n hx hb d_M_respondTree_133 rfl (lv_at hl 0 rfl) ?_
        refine mm_ald hx hb hK hP 7 (by decide) rfl (k) rfl (show k < 15 from by omega) (lf k) (congrFun h8 k) d_M_respondTree_134 ?_
        refine lv_goto (tgt := 144) hx hb d_M_respondTree_135 rfl ?_
        refine lv_iconst (v := 1) hx hb d_M_respondTree_144 rfl ?_
        refine lv_aload_n hx hb d_M_respondTree_145 rfl (lv_at hl 1 rfl) ?_
        refine mm_get hx hb hts hown hK hP (index := 80) 23 (by decide) mf_M_80 (v := .ref (am 24)) rfl d_M_respondTree_146 ?_
        refine lv_iload_n hx hb d_M_respondTree_149 rfl (lv_at hl 0 rfl) ?_
        refine mm_ald hx hb hK hP 23 (by decide) rfl (k) rfl (show k < 15 from by omega) (c0) (hcc) d_M_respondTree_150 ?_
        refine lv_aload_n hx hb d_M_respondTree_151 rfl (lv_at hl 1 rfl) ?_
        refine mm_get hx hb hts hown hK hP (index := 74) 21 (by decide) mf_M_74 (v := .ref (am 22)) rfl d_M_respondTree_152 ?_
        refine lv_iload_n hx hb d_M_respondTree_155 rfl (lv_at hl 0 rfl) ?_
        refine mm_ald hx hb hK hP 21 (by decide) rfl (k) rfl (show k < 15 from by omega) (dn k) (congrFun r22 k) d_M_respondTree_156 ?_
        refine zz_cS (index := 152) (n := 2) (As := [.int (nI c0), .int (nI (dn k))]) (rest := [.int 1, .int (nI (lf k)), .ref (am 0)]) ⟨hx, hb, hml, hown, hts⟩ (k_less l c0 (dn k) hc0 hdn) mk_M_152 ms_M_less mi_M mc_M_less (by decide +kernel) ⟨rfl, rfl⟩ ⟨Nat.le_trans (by decide) hRf, Nat.le_trans (by decide) hRl⟩ preEq rfl hl.1 rfl (Nat.le_of_ble_eq_true rfl) d_M_respondTree_157 ⟨hc, hsl⟩ ?_
        refine mm_cv (index := 155) (n := 3) (As := [.int (nI (lf k)), .int 1, .int (nI (ls5 c0 (dn k)))]) (rest := []) ⟨hx, hb, hml, hown, hts⟩ (k_laterM l D ca am (zs (mix o sc) 0 6 t) hI (lf k) 1 (ls5 c0 (dn k)) (by omega) (by decide) (show t < 15 by omega)) mk_M_155 mo_M_later me_M_M_later_M mi_M mc_M_later (by decide +kernel) ⟨rfl, rfl⟩ ⟨Nat.le_trans (by decide) hRf, Nat.le_trans (by decide) hRl⟩ hK hP hS hAA rfl hl.1 rfl (Nat.le_of_ble_eq_true rfl) d_M_respondTree_160 ⟨hc, hsl⟩ (fun ar1 H locs hpost hP hS => ?_)
        rw [zs_mixS _ _ _ (by omega), lat_mix] at hpost
        subst hpost
        refine lv_goto (tgt := 17) hx hb d_M_respondTree_163 rfl ?_
        have hl := lv_sub (l' := [(0, .ref (am 0))]) hl [1] rfl
        have z6 : (zs sc 0 6 t) 0 6 = t := zs_eq _ _ _ _
        refine ih (lf k) hlk (by omega) (gl l0) t (ls5 c0 (dn k)) o _ H locs ls (by omega) (ls5_lt _ _) hTb (by rw [lat_06, z6]) (by rw [lat_23, z6, if_pos rfl]) (by rw [lat_24, if_pos rfl]) hP hS hl (fun sc1 H locs ls e06 e23 e45 hP hS hl => ?_)
        refine kk sc1 H locs ls e06 (fun i hi => ?_) (fun i hi => ?_) (by rw [rq_orL k0 hlk c5 l0]; exact hP) hS hl
        · rw [e23 i hi, lat_23, z6, if_neg (by omega)]; rfl
        · rw [e45 i (by omega), lat_24, if_neg (by omega)]; rfl
end MS

set_option maxHeartbeats 4000000 in
set_option maxRecDepth 100000 in
/-- respondTree(c) -/
theorem k_respondTreeM (l : Launch) (D : va_G) (ca : Nat → ClassId) (am : Nat → Nat) (ar : Nat → Nat → Nat) (hI : mI am) (c0 : Nat) (lo : Nat → Nat) (hT : tT ar) (hsz : 0 < ar 0 1) (hI2 : tI (ar 7) (ar 8) (ar 9) lo (ar 0 1)) (hc0 : c0 < 5003) (G : Nat → Prop) (hG : gC (ar 7) (ar 8) (ar 9) (ar 10) (ar 21) (ar 22) (ar 13) (ar 20) (ar 0 1) G) (hGr : G (ar 0 1 - 1)) : Met l y_M_respondTree (Cond.code y_M_respondTree c_M_respondTree 3 none :: zT) ({ frames := 3, cells := 0, slots := 0, locals := 120 }) (va_Pc [.ref (am 0), .int (nI c0)] (mw D ca am ar)) (va_Qv (fun ar1 => ∃ sc : Nat → Nat → Nat, ar1 = mix (rq false (ar 7) (ar 8) (ar 9) (ar 10) (ar 21) (ar 22) (ar 0 1 - 1) c0 ar) sc) (mw D ca am) (mA am)) 0 0 (mA am) := by
  refine Met.ofW (cc := c_M_respondTree) (maxL := 3) (ret := none) (by decide) rfl ?_
  intro p e s m args below meth c s₁ B hml hv
  obtain ⟨rfl, hK, hP⟩ := hv
  have hx := B.exec
  have hb := B.bytes
  have hr := B.returns
  have hts0 := atoms_spec (ws := Cond.code y_M_respondTree c_M_respondTree 3 none :: zT) B.pre
  have hts := fun w h => hts0 w (List.mem_cons_of_mem _ h)
  have hown : s.vm.findClass R_M = some m.cls := findClass_of_methodNamed B.named
  have hlocks := B.notSynchronized
  have hD := mI_D hI
  have hS : va_S (mA am) s.heap s.heap [] := va_S.rf
  have hAA : ∀ q, mA am q → mA am q := fun _ h => h
  have hl := lv_entry ([.ref (am 0), .int (nI c0)]) (n := 3) (Nat.le_of_ble_eq_true rfl)
  rw [lg_entry_eq]
  generalize (lg_sl ([.ref (am 0), .int (nI c0)]) ++ List.replicate (3 - (lg_sl ([.ref (am 0), .int (nI c0)])).length) Slot.unset).toArray = ls at hl ⊢
  have hl : lv_has ls 3 [(0, .ref (am 0)), (1, .int (nI c0))] := hl
  skip
  obtain ⟨hs1, hl2, hT2⟩ := id hT
  refine lv_aload_n hx hb d_M_respondTree_0 rfl (lv_at hl 0 rfl) ?_
  refine lv_iconst (v := 0) hx hb d_M_respondTree_1 rfl ?_
  refine mm_put hx hb hts hown hK hP hD hS (index := 145) 6 (by decide) mf_M_145 (0) (rfl) rfl rfl d_M_respondTree_2 (fun H locs hP hS => ?_)
  refine lv_aload_n hx hb d_M_respondTree_5 rfl (lv_at hl 0 rfl) ?_
  refine lv_aload_n hx hb d_M_respondTree_6 rfl (lv_at hl 0 rfl) ?_
  refine mm_get hx hb hts hown hK hP (index := 122) 28 (by decide) mf_M_122 (v := .int (nI (ar 0 1))) rfl d_M_respondTree_7 ?_
  refine lv_iconst (v := 1) hx hb d_M_respondTree_10 rfl ?_
  refine lv_isub hx hb d_M_respondTree_11 ?_
  refine zz_as (y := nI ((ar 0 1) - 1)) (pk_sub (a := ar 0 1) (b := 1) (by omega)) ?_
  refine lv_iconst (v := 1) hx hb d_M_respondTree_12 rfl ?_
  refine lv_iload_n hx hb d_M_respondTree_13 rfl (lv_at hl 1 rfl) ?_
  refine mm_cv (index := 155) (n := 3) (As := [.int (nI (ar 0 1 - 1)), .int 1, .int (nI c0)]) (rest := []) ⟨hx, hb, hml, hown, hts⟩ (k_laterM l D ca am (zs ar 0 6 0) hI (ar 0 1 - 1) 1 c0 (by omega) (by decide) (show 0 < 15 by decide)) mk_M_155 mo_M_later me_M_M_later_M mi_M mc_M_later (by decide +kernel) ⟨rfl, rfl⟩ ⟨by decide, by decide⟩ hK hP hS hAA rfl hl.1 rfl (Nat.le_of_ble_eq_true rfl) d_M_respondTree_14 ⟨Nat.zero_le _, Nat.zero_le _⟩ (fun ar1 H locs hpost hP hS => ?_)
  rw [show zs ar 0 6 0 = mix ar (zs ar 0 6 0) by rw [← zs_mixS _ _ _ (by omega), mix_self], lat_mix] at hpost
  subst hpost
  have hl : lv_has ls 3 [(0, .ref (am 0))] := lv_sub hl [0] rfl
  refine rt_node (N := ar 0 1) (kd := ar 7) (lf := ar 8) (rt := ar 9) (lv := ar 10) (lr := ar 21) (dn := ar 22) (wi := ar 13) (no := ar 20) (lo := lo) (G := G) hx hb hml hown hts hK hD hI hAA (by decide) (by decide) (Nat.zero_le _) (Nat.zero_le _) hs1 hI2 (fun k q z => Nat.lt_of_lt_of_le ((hT2 k q).2.1 z) hl2) hG (ar 0 1 - 1) (by omega) hGr 0 c0 ar (lat (zs ar 0 6 0) (ar 0 1 - 1) 1 c0) H locs ls (by omega) hc0 ⟨rfl, rfl, rfl, rfl, rfl, rfl, rfl, rfl⟩ (by rw [lat_06]; rfl) (by rw [lat_23, zs_eq, if_pos rfl]) (by rw [lat_24, if_pos rfl]) hP hS hl (fun sc1 H locs ls e06 e23 e45 hP hS hl => ?_)
  refine lv_aload_n hx hb d_M_respondTree_17 rfl (lv_at hl 0 rfl) ?_
  refine mm_get hx hb hts hown hK hP (index := 145) 33 (by decide) mf_M_145 (v := .int (nI ((mix (rq false (ar 7) (ar 8) (ar 9) (ar 10) (ar 21) (ar 22) (ar 0 1 - 1) c0 ar) sc1) 0 6))) rfl d_M_respondTree_18 ?_
  refine zz_as (y := nI 0) (congrArg nI e06) ?_
  refine lv_if_le (tgt := 166) hx hb d_M_respondTree_21 rfl (fun h21 => ?_) (fun h21 => absurd (by decide) h21)
  exact W.vret hx hb hr (fun t ht hW => ⟨⟨mix (rq false (ar 7) (ar 8) (ar 9) (ar 10) (ar 21) (ar 22) (ar 0 1 - 1) c0 ar) sc1, rfl, ⟨sc1, rfl⟩, va_K.moved hW.alike hK, by rw [ht]; exact hP⟩, hS.F ht⟩) hS.2.2 d_M_respondTree_166

theorem d_M_commit_0 : decode c_M_commit 0 = .ok (.aload_n 0, 1) := by decide +kernel
theorem d_M_commit_1 : decode c_M_commit 1 = .ok (.getfield 122, 3) := by decide +kernel
theorem d_M_commit_4 : decode c_M_commit 4 = .ok (.ifCond .ne 6, 3) := by decide +kernel
theorem d_M_commit_7 : decode c_M_commit 7 = .ok (.bipush (-2), 2) := by decide +kernel
theorem d_M_commit_9 : decode c_M_commit 9 = .ok (.ireturn, 1) := by decide +kernel
theorem d_M_commit_10 : decode c_M_commit 10 = .ok (.aload_n 0, 1) := by decide +kernel
theorem d_M_commit_11 : decode c_M_commit 11 = .ok (.invokevirtual 169, 3) := by decide +kernel
theorem d_M_commit_14 : decode c_M_commit 14 = .ok (.ifCond .ne 6, 3) := by decide +kernel
theorem d_M_commit_17 : decode c_M_commit 17 = .ok (.bipush (-3), 2) := by decide +kernel
theorem d_M_commit_19 : decode c_M_commit 19 = .ok (.ireturn, 1) := by decide +kernel
theorem d_M_commit_20 : decode c_M_commit 20 = .ok (.aload_n 0, 1) := by decide +kernel
theorem d_M_commit_21 : decode c_M_commit 21 = .ok (.iconst 1, 1) := by decide +kernel
theorem d_M_commit_22 : decode c_M_commit 22 = .ok (.iconst 0, 1) := by decide +kernel
theorem d_M_commit_23 : decode c_M_commit 23 = .ok (.iload_n 1, 1) := by decide +kernel
theorem d_M_commit_24 : decode c_M_commit 24 = .ok (.invokevirtual 173, 3) := by decide +kernel
theorem d_M_commit_27 : decode c_M_commit 27 = .ok (.aload_n 0, 1) := by decide +kernel
theorem d_M_commit_28 : decode c_M_commit 28 = .ok (.iconst 1, 1) := by decide +kernel
theorem d_M_commit_29 : decode c_M_commit 29 = .ok (.putfield 132, 3) := by decide +kernel
theorem d_M_commit_32 : decode c_M_commit 32 = .ok (.iconst 0, 1) := by decide +kernel
theorem d_M_commit_33 : decode c_M_commit 33 = .ok (.ireturn, 1) := by decide +kernel

set_option maxHeartbeats 4000000 in
set_option maxRecDepth 100000 in
/-- commit(seed) -/
theorem k_commitM (l : Launch) (D : va_G) (ca : Nat → ClassId) (am : Nat → Nat) (ar : Nat → Nat → Nat) (hI : mI am) (sd : Nat) (lo : Nat → Nat) (hT : tT ar) (hw : ∀ i, i < 8 → ar 13 i < 2 ^ 32) (hI2 : tI (ar 7) (ar 8) (ar 9) lo (ar 0 1)) (hbs : ∀ i, i < 16 → ar 11 i < 10007) (his : ∀ i, i < 16 → ar 12 i < 10007) : Met l y_M_commit (Cond.code y_M_commit c_M_commit 2 (some .int) :: zT) ({ frames := 6, cells := 0, slots := 0, locals := 240 }) (va_Pc [.ref (am 0), .int (nI sd)] (mw D ca am ar)) (va_Qi (fun r ar1 => (ar 0 1 = 0 ∧ r = -2 ∧ ar1 = ar) ∨ (0 < ar 0 1 ∧ ∃ h : Nat → Nat, kOK ar h (ar 0 1) ∧ (∀ k, k < ar 0 1 → h k < 2) ∧ ((¬ h (ar 0 1 - 1) = 1 ∧ r = -3 ∧ ar1 = va_up ar 27 h) ∨ (h (ar 0 1 - 1) = 1 ∧ r = 0 ∧ ∃ (h2 : Nat → Nat) (sc : Nat → Nat → Nat), kOK ar h2 (ar 0 1) ∧ (∀ k, k < ar 0 1 → h2 k < 2) ∧ ar1 = zs (mix (cm (ar 7) (ar 8) (ar 9) (ar 10) (ar 0 1 - 1) true 0 (va_up (zs ar 0 5 sd) 27 h2)) sc) 0 4 1)))) (mw D ca am) (mA am)) 0 0 (mA am) := by
  refine Met.ofW (cc := c_M_commit) (maxL := 2) (ret := (some .int)) (by decide) rfl ?_
  intro p e s m args below meth c s₁ B hml hv
  obtain ⟨rfl, hK, hP⟩ := hv
  have hx := B.exec
  have hb := B.bytes
  have hr := B.returns
  have hts0 := atoms_spec (ws := Cond.code y_M_commit c_M_commit 2 (some .int) :: zT) B.pre
  have hts := fun w h => hts0 w (List.mem_cons_of_mem _ h)
  have hown : s.vm.findClass R_M = some m.cls := findClass_of_methodNamed B.named
  have hlocks := B.notSynchronized
  have hD := mI_D hI
  have hS : va_S (mA am) s.heap s.heap [] := va_S.rf
  have hAA : ∀ q, mA am q → mA am q := fun _ h => h
  have hl := lv_entry ([.ref (am 0), .int (nI sd)]) (n := 2) (Nat.le_of_ble_eq_true rfl)
  rw [lg_entry_eq]
  generalize (lg_sl ([.ref (am 0), .int (nI sd)]) ++ List.replicate (2 - (lg_sl ([.ref (am 0), .int (nI sd)])).length) Slot.unset).toArray = ls at hl ⊢
  have hl : lv_has ls 2 [(0, .ref (am 0)), (1, .int (nI sd))] := hl
  skip
  obtain ⟨hs1, hl2, hT2⟩ := id hT
  refine lv_aload_n hx hb d_M_commit_0 rfl (lv_at hl 0 rfl) ?_
  refine mm_get hx hb hts hown hK hP (index := 122) 28 (by decide) mf_M_122 (v := .int (nI (ar 0 1))) rfl d_M_commit_1 ?_
  refine lv_if_ne (tgt := 10) hx hb d_M_commit_4 rfl (fun h4 => ?_) (fun h4 => ?_)
  · skip
    have z : ¬ ar 0 1 = 0 := fun q => h4 (by rw [q]; rfl)
    refine lv_aload_n hx hb d_M_commit_10 rfl (lv_at hl 0 rfl) ?_
    refine mm_ci (index := 169) (n := 0) (As := []) (rest := []) ⟨hx, hb, hml, hown, hts⟩ (k_knownM l D ca am (ar) hI hT hw) mk_M_169 mo_M_known me_M_M_known_M mi_M mc_M_known (by decide +kernel) ⟨rfl, rfl⟩ ⟨by decide, by decide⟩ hK hP hS hAA rfl hl.1 rfl (Nat.le_of_ble_eq_true rfl) d_M_commit_11 ⟨Nat.zero_le _, Nat.zero_le _⟩ (fun r ar1 H locs hpost hP hS => ?_)
    obtain ⟨h, hk, hh, rfl, hr1⟩ := hpost
    subst hr1
    refine lv_if_ne (tgt := 20) hx hb d_M_commit_14 rfl (fun h14 => ?_) (fun h14 => ?_)
    · skip
      have y : h (ar 0 1 - 1) = 1 := by
        have := zb_ne h14
        rw [decide_eq_true (by omega), Bool.true_and] at this
        exact of_decide_eq_true this
      refine lv_aload_n hx hb d_M_commit_20 rfl (lv_at hl 0 rfl) ?_
      refine lv_iconst (v := 1) hx hb d_M_commit_21 rfl ?_
      refine lv_iconst (v := 0) hx hb d_M_commit_22 rfl ?_
      refine lv_iload_n hx hb d_M_commit_23 rfl (lv_at hl 1 rfl) ?_
      refine mm_cv (index := 173) (n := 3) (As := [.int 1, .int 0, .int (nI sd)]) (rest := []) ⟨hx, hb, hml, hown, hts⟩ (k_commitTreeM l D ca am (va_up ar 27 h) hI true 0 sd lo hT (show 0 < ar 0 1 by omega) hw hI2 (by decide) hbs his) mk_M_173 mo_M_commitTree me_M_M_commitTree_M mi_M mc_M_commitTree (by decide +kernel) ⟨rfl, rfl⟩ ⟨by decide, by decide⟩ hK hP hS hAA rfl hl.1 rfl (Nat.le_of_ble_eq_true rfl) d_M_commit_24 ⟨Nat.zero_le _, Nat.zero_le _⟩ (fun ar1 H locs hpost hP hS => ?_)
      obtain ⟨h2, sc, hk2, hh2, hpost⟩ := hpost
      rw [va_up_zs] at hpost
      subst hpost
      refine lv_aload_n hx hb d_M_commit_27 rfl (lv_at hl 0 rfl) ?_
      refine lv_iconst (v := 1) hx hb d_M_commit_28 rfl ?_
      refine mm_put hx hb hts hown hK hP hD hS (index := 132) 4 (by decide) mf_M_132 (1) (rfl) (zn_narb (by decide)) (zn_fitb (by decide)) d_M_commit_29 (fun H locs hP hS => ?_)
      refine lv_iconst (v := 0) hx hb d_M_commit_32 rfl ?_
      exact W.iret hx hb hr (fun t ht hW => ⟨⟨_, zs (mix (cm (ar 7) (ar 8) (ar 9) (ar 10) (ar 0 1 - 1) true 0 (va_up (zs ar 0 5 sd) 27 h2)) sc) 0 4 1, rfl, Or.inr ⟨by omega, h, hk, hh, Or.inr ⟨y, rfl, h2, sc, hk2, hh2, rfl⟩⟩, va_K.moved hW.alike hK, by rw [ht]; exact hP⟩, hS.F ht⟩) hS.2.2 d_M_commit_33
    · skip
      have y : ¬ h (ar 0 1 - 1) = 1 := by
        have := zb_eq h14
        rw [decide_eq_true (by omega), Bool.true_and] at this
        exact of_decide_eq_false this
      refine lv_bipush (v := (-3)) hx hb d_M_commit_17 rfl ?_
      exact W.iret hx hb hr (fun t ht hW => ⟨⟨_, va_up ar 27 h, rfl, Or.inr ⟨by omega, h, hk, hh, Or.inl ⟨y, rfl, rfl⟩⟩, va_K.moved hW.alike hK, by rw [ht]; exact hP⟩, hS.F ht⟩) hS.2.2 d_M_commit_19
  · skip
    have z : ar 0 1 = 0 := (zn_inj (by omega) (by decide)).mp h4
    refine lv_bipush (v := (-2)) hx hb d_M_commit_7 rfl ?_
    exact W.iret hx hb hr (fun t ht hW => ⟨⟨_, ar, rfl, Or.inl ⟨z, rfl, rfl⟩, va_K.moved hW.alike hK, by rw [ht]; exact hP⟩, hS.F ht⟩) hS.2.2 d_M_commit_9

theorem d_M_respond_0 : decode c_M_respond 0 = .ok (.aload_n 0, 1) := by decide +kernel
theorem d_M_respond_1 : decode c_M_respond 1 = .ok (.getfield 122, 3) := by decide +kernel
theorem d_M_respond_4 : decode c_M_respond 4 = .ok (.ifCond .ne 6, 3) := by decide +kernel
theorem d_M_respond_7 : decode c_M_respond 7 = .ok (.bipush (-2), 2) := by decide +kernel
theorem d_M_respond_9 : decode c_M_respond 9 = .ok (.ireturn, 1) := by decide +kernel
theorem d_M_respond_10 : decode c_M_respond 10 = .ok (.iload_n 1, 1) := by decide +kernel
theorem d_M_respond_11 : decode c_M_respond 11 = .ok (.invokestatic 109, 3) := by decide +kernel
theorem d_M_respond_14 : decode c_M_respond 14 = .ok (.ifCond .ne 5, 3) := by decide +kernel
theorem d_M_respond_17 : decode c_M_respond 17 = .ok (.iconst (-1), 1) := by decide +kernel
theorem d_M_respond_18 : decode c_M_respond 18 = .ok (.ireturn, 1) := by decide +kernel
theorem d_M_respond_19 : decode c_M_respond 19 = .ok (.aload_n 0, 1) := by decide +kernel
theorem d_M_respond_20 : decode c_M_respond 20 = .ok (.getfield 132, 3) := by decide +kernel
theorem d_M_respond_23 : decode c_M_respond 23 = .ok (.ifCond .ne 6, 3) := by decide +kernel
theorem d_M_respond_26 : decode c_M_respond 26 = .ok (.bipush (-4), 2) := by decide +kernel
theorem d_M_respond_28 : decode c_M_respond 28 = .ok (.ireturn, 1) := by decide +kernel
theorem d_M_respond_29 : decode c_M_respond 29 = .ok (.aload_n 0, 1) := by decide +kernel
theorem d_M_respond_30 : decode c_M_respond 30 = .ok (.iload_n 1, 1) := by decide +kernel
theorem d_M_respond_31 : decode c_M_respond 31 = .ok (.invokevirtual 177, 3) := by decide +kernel
theorem d_M_respond_34 : decode c_M_respond 34 = .ok (.iconst 0, 1) := by decide +kernel
theorem d_M_respond_35 : decode c_M_respond 35 = .ok (.ireturn, 1) := by decide +kernel

set_option maxHeartbeats 4000000 in
set_option maxRecDepth 100000 in
/-- respond(c) -/
theorem k_respondM (l : Launch) (D : va_G) (ca : Nat → ClassId) (am : Nat → Nat) (ar : Nat → Nat → Nat) (hI : mI am) (c0 : Nat) (hc1 : c0 < 2 ^ 32) (lo : Nat → Nat) (hT : tT ar) (hI2 : tI (ar 7) (ar 8) (ar 9) lo (ar 0 1)) (hcm : ar 0 4 < 2) (hGG : ar 0 4 = 1 → 0 < ar 0 1 → ∃ G : Nat → Prop, gC (ar 7) (ar 8) (ar 9) (ar 10) (ar 21) (ar 22) (ar 13) (ar 20) (ar 0 1) G ∧ G (ar 0 1 - 1)) : Met l y_M_respond (Cond.code y_M_respond c_M_respond 2 (some .int) :: zT) ({ frames := 4, cells := 0, slots := 0, locals := 160 }) (va_Pc [.ref (am 0), .int (nI c0)] (mw D ca am ar)) (va_Qi (fun r ar1 => (ar 0 1 = 0 ∧ r = -2 ∧ ar1 = ar) ∨ (0 < ar 0 1 ∧ ((ex c0 = false ∧ r = -1 ∧ ar1 = ar) ∨ (ex c0 = true ∧ ((ar 0 4 = 0 ∧ r = -4 ∧ ar1 = ar) ∨ (ar 0 4 = 1 ∧ r = 0 ∧ ∃ sc : Nat → Nat → Nat, ar1 = mix (rq false (ar 7) (ar 8) (ar 9) (ar 10) (ar 21) (ar 22) (ar 0 1 - 1) c0 ar) sc)))))) (mw D ca am) (mA am)) 0 0 (mA am) := by
  refine Met.ofW (cc := c_M_respond) (maxL := 2) (ret := (some .int)) (by decide) rfl ?_
  intro p e s m args below meth c s₁ B hml hv
  obtain ⟨rfl, hK, hP⟩ := hv
  have hx := B.exec
  have hb := B.bytes
  have hr := B.returns
  have hts0 := atoms_spec (ws := Cond.code y_M_respond c_M_respond 2 (some .int) :: zT) B.pre
  have hts := fun w h => hts0 w (List.mem_cons_of_mem _ h)
  have hown : s.vm.findClass R_M = some m.cls := findClass_of_methodNamed B.named
  have hlocks := B.notSynchronized
  have hD := mI_D hI
  have hS : va_S (mA am) s.heap s.heap [] := va_S.rf
  have hAA : ∀ q, mA am q → mA am q := fun _ h => h
  have hl := lv_entry ([.ref (am 0), .int (nI c0)]) (n := 2) (Nat.le_of_ble_eq_true rfl)
  rw [lg_entry_eq]
  generalize (lg_sl ([.ref (am 0), .int (nI c0)]) ++ List.replicate (2 - (lg_sl ([.ref (am 0), .int (nI c0)])).length) Slot.unset).toArray = ls at hl ⊢
  have hl : lv_has ls 2 [(0, .ref (am 0)), (1, .int (nI c0))] := hl
  skip
  obtain ⟨hs1, hl2, hT2⟩ := id hT
  refine lv_aload_n hx hb d_M_respond_0 rfl (lv_at hl 0 rfl) ?_
  refine mm_get hx hb hts hown hK hP (index := 122) 28 (by decide) mf_M_122 (v := .int (nI (ar 0 1))) rfl d_M_respond_1 ?_
  refine lv_if_ne (tgt := 10) hx hb d_M_respond_4 rfl (fun h4 => ?_) (fun h4 => ?_)
  · skip
    have z : ¬ ar 0 1 = 0 := fun q => h4 (by rw [q]; rfl)
    refine lv_iload_n hx hb d_M_respond_10 rfl (lv_at hl 1 rfl) ?_
    refine zz_cS (index := 109) (n := 1) (As := [.int (nI c0)]) (rest := []) ⟨hx, hb, hml, hown, hts⟩ (k_isExM l c0 hc1) mk_M_109 ms_M_isExponent mi_M mc_M_isExponent (by decide +kernel) ⟨rfl, rfl⟩ ⟨by decide, by decide⟩ preEq rfl hl.1 rfl (Nat.le_of_ble_eq_true rfl) d_M_respond_11 ⟨Nat.zero_le _, Nat.zero_le _⟩ ?_
    refine lv_if_ne (tgt := 19) hx hb d_M_respond_14 rfl (fun h14 => ?_) (fun h14 => ?_)
    · skip
      have y := zb_ne h14
      have hc0 := ex_is y
      refine lv_aload_n hx hb d_M_respond_19 rfl (lv_at hl 0 rfl) ?_
      refine mm_get hx hb hts hown hK hP (index := 132) 31 (by decide) mf_M_132 (v := .int (nI (ar 0 4))) rfl d_M_respond_20 ?_
      refine lv_if_ne (tgt := 29) hx hb d_M_respond_23 rfl (fun h23 => ?_) (fun h23 => ?_)
      · skip
        have w := b_o hcm h23
        obtain ⟨G, hG, hGr⟩ := hGG w (by omega)
        refine lv_aload_n hx hb d_M_respond_29 rfl (lv_at hl 0 rfl) ?_
        refine lv_iload_n hx hb d_M_respond_30 rfl (lv_at hl 1 rfl) ?_
        refine mm_cv (index := 177) (n := 1) (As := [.int (nI c0)]) (rest := []) ⟨hx, hb, hml, hown, hts⟩ (k_respondTreeM l D ca am (ar) hI c0 lo hT (by omega) hI2 hc0 G hG hGr) mk_M_177 mo_M_respondTree me_M_M_respondTree_M mi_M mc_M_respondTree (by decide +kernel) ⟨rfl, rfl⟩ ⟨by decide, by decide⟩ hK hP hS hAA rfl hl.1 rfl (Nat.le_of_ble_eq_true rfl) d_M_respond_31 ⟨Nat.zero_le _, Nat.zero_le _⟩ (fun ar1 H locs hpost hP hS => ?_)
        obtain ⟨sc, rfl⟩ := hpost
        refine lv_iconst (v := 0) hx hb d_M_respond_34 rfl ?_
        exact W.iret hx hb hr (fun t ht hW => ⟨⟨_, mix (rq false (ar 7) (ar 8) (ar 9) (ar 10) (ar 21) (ar 22) (ar 0 1 - 1) c0 ar) sc, rfl, Or.inr ⟨by omega, Or.inr ⟨y, Or.inr ⟨w, rfl, sc, rfl⟩⟩⟩, va_K.moved hW.alike hK, by rw [ht]; exact hP⟩, hS.F ht⟩) hS.2.2 d_M_respond_35
      · skip
        have w := b_z hcm h23
        refine lv_bipush (v := (-4)) hx hb d_M_respond_26 rfl ?_
        exact W.iret hx hb hr (fun t ht hW => ⟨⟨_, ar, rfl, Or.inr ⟨by omega, Or.inr ⟨y, Or.inl ⟨w, rfl, rfl⟩⟩⟩, va_K.moved hW.alike hK, by rw [ht]; exact hP⟩, hS.F ht⟩) hS.2.2 d_M_respond_28
    · skip
      have y := zb_eq h14
      refine lv_iconst (v := (-1)) hx hb d_M_respond_17 rfl ?_
      exact W.iret hx hb hr (fun t ht hW => ⟨⟨_, ar, rfl, Or.inr ⟨by omega, Or.inl ⟨y, rfl, rfl⟩⟩, va_K.moved hW.alike hK, by rw [ht]; exact hP⟩, hS.F ht⟩) hS.2.2 d_M_respond_18
  · skip
    have z : ar 0 1 = 0 := (zn_inj (by omega) (by decide)).mp h4
    refine lv_bipush (v := (-2)) hx hb d_M_respond_7 rfl ?_
    exact W.iret hx hb hr (fun t ht hW => ⟨⟨_, ar, rfl, Or.inl ⟨z, rfl, rfl⟩, va_K.moved hW.alike hK, by rw [ht]; exact hP⟩, hS.F ht⟩) hS.2.2 d_M_respond_9

theorem d_M_simulate_0 : decode c_M_simulate 0 = .ok (.aload_n 0, 1) := by decide +kernel
theorem d_M_simulate_1 : decode c_M_simulate 1 = .ok (.getfield 122, 3) := by decide +kernel
theorem d_M_simulate_4 : decode c_M_simulate 4 = .ok (.ifCond .ne 6, 3) := by decide +kernel
theorem d_M_simulate_7 : decode c_M_simulate 7 = .ok (.bipush (-2), 2) := by decide +kernel
theorem d_M_simulate_9 : decode c_M_simulate 9 = .ok (.ireturn, 1) := by decide +kernel
theorem d_M_simulate_10 : decode c_M_simulate 10 = .ok (.iload_n 1, 1) := by decide +kernel
theorem d_M_simulate_11 : decode c_M_simulate 11 = .ok (.invokestatic 109, 3) := by decide +kernel
theorem d_M_simulate_14 : decode c_M_simulate 14 = .ok (.ifCond .ne 5, 3) := by decide +kernel
theorem d_M_simulate_17 : decode c_M_simulate 17 = .ok (.iconst (-1), 1) := by decide +kernel
theorem d_M_simulate_18 : decode c_M_simulate 18 = .ok (.ireturn, 1) := by decide +kernel
theorem d_M_simulate_19 : decode c_M_simulate 19 = .ok (.aload_n 0, 1) := by decide +kernel
theorem d_M_simulate_20 : decode c_M_simulate 20 = .ok (.iconst 0, 1) := by decide +kernel
theorem d_M_simulate_21 : decode c_M_simulate 21 = .ok (.iload_n 1, 1) := by decide +kernel
theorem d_M_simulate_22 : decode c_M_simulate 22 = .ok (.iload_n 2, 1) := by decide +kernel
theorem d_M_simulate_23 : decode c_M_simulate 23 = .ok (.invokevirtual 173, 3) := by decide +kernel
theorem d_M_simulate_26 : decode c_M_simulate 26 = .ok (.aload_n 0, 1) := by decide +kernel
theorem d_M_simulate_27 : decode c_M_simulate 27 = .ok (.iconst 0, 1) := by decide +kernel
theorem d_M_simulate_28 : decode c_M_simulate 28 = .ok (.putfield 132, 3) := by decide +kernel
theorem d_M_simulate_31 : decode c_M_simulate 31 = .ok (.iconst 0, 1) := by decide +kernel
theorem d_M_simulate_32 : decode c_M_simulate 32 = .ok (.ireturn, 1) := by decide +kernel

set_option maxHeartbeats 4000000 in
set_option maxRecDepth 100000 in
/-- simulate(c, seed) -/
theorem k_simulateM (l : Launch) (D : va_G) (ca : Nat → ClassId) (am : Nat → Nat) (ar : Nat → Nat → Nat) (hI : mI am) (c0 sd : Nat) (hc1 : c0 < 2 ^ 32) (lo : Nat → Nat) (hT : tT ar) (hw : ∀ i, i < 8 → ar 13 i < 2 ^ 32) (hI2 : tI (ar 7) (ar 8) (ar 9) lo (ar 0 1)) (hbs : ∀ i, i < 16 → ar 11 i < 10007) (his : ∀ i, i < 16 → ar 12 i < 10007) : Met l y_M_simulate (Cond.code y_M_simulate c_M_simulate 3 (some .int) :: zT) ({ frames := 6, cells := 0, slots := 0, locals := 240 }) (va_Pc [.ref (am 0), .int (nI c0), .int (nI sd)] (mw D ca am ar)) (va_Qi (fun r ar1 => (ar 0 1 = 0 ∧ r = -2 ∧ ar1 = ar) ∨ (0 < ar 0 1 ∧ ((ex c0 = false ∧ r = -1 ∧ ar1 = ar) ∨ (ex c0 = true ∧ r = 0 ∧ ∃ (h2 : Nat → Nat) (sc : Nat → Nat → Nat), kOK ar h2 (ar 0 1) ∧ (∀ k, k < ar 0 1 → h2 k < 2) ∧ ar1 = zs (mix (cm (ar 7) (ar 8) (ar 9) (ar 10) (ar 0 1 - 1) false c0 (va_up (zs ar 0 5 sd) 27 h2)) sc) 0 4 0)))) (mw D ca am) (mA am)) 0 0 (mA am) := by
  refine Met.ofW (cc := c_M_simulate) (maxL := 3) (ret := (some .int)) (by decide) rfl ?_
  intro p e s m args below meth c s₁ B hml hv
  obtain ⟨rfl, hK, hP⟩ := hv
  have hx := B.exec
  have hb := B.bytes
  have hr := B.returns
  have hts0 := atoms_spec (ws := Cond.code y_M_simulate c_M_simulate 3 (some .int) :: zT) B.pre
  have hts := fun w h => hts0 w (List.mem_cons_of_mem _ h)
  have hown : s.vm.findClass R_M = some m.cls := findClass_of_methodNamed B.named
  have hlocks := B.notSynchronized
  have hD := mI_D hI
  have hS : va_S (mA am) s.heap s.heap [] := va_S.rf
  have hAA : ∀ q, mA am q → mA am q := fun _ h => h
  have hl := lv_entry ([.ref (am 0), .int (nI c0), .int (nI sd)]) (n := 3) (Nat.le_of_ble_eq_true rfl)
  rw [lg_entry_eq]
  generalize (lg_sl ([.ref (am 0), .int (nI c0), .int (nI sd)]) ++ List.replicate (3 - (lg_sl ([.ref (am 0), .int (nI c0), .int (nI sd)])).length) Slot.unset).toArray = ls at hl ⊢
  have hl : lv_has ls 3 [(0, .ref (am 0)), (1, .int (nI c0)), (2, .int (nI sd))] := hl
  skip
  obtain ⟨hs1, hl2, hT2⟩ := id hT
  refine lv_aload_n hx hb d_M_simulate_0 rfl (lv_at hl 0 rfl) ?_
  refine mm_get hx hb hts hown hK hP (index := 122) 28 (by decide) mf_M_122 (v := .int (nI (ar 0 1))) rfl d_M_simulate_1 ?_
  refine lv_if_ne (tgt := 10) hx hb d_M_simulate_4 rfl (fun h4 => ?_) (fun h4 => ?_)
  · skip
    have z : ¬ ar 0 1 = 0 := fun q => h4 (by rw [q]; rfl)
    refine lv_iload_n hx hb d_M_simulate_10 rfl (lv_at hl 1 rfl) ?_
    refine zz_cS (index := 109) (n := 1) (As := [.int (nI c0)]) (rest := []) ⟨hx, hb, hml, hown, hts⟩ (k_isExM l c0 hc1) mk_M_109 ms_M_isExponent mi_M mc_M_isExponent (by decide +kernel) ⟨rfl, rfl⟩ ⟨by decide, by decide⟩ preEq rfl hl.1 rfl (Nat.le_of_ble_eq_true rfl) d_M_simulate_11 ⟨Nat.zero_le _, Nat.zero_le _⟩ ?_
    refine lv_if_ne (tgt := 19) hx hb d_M_simulate_14 rfl (fun h14 => ?_) (fun h14 => ?_)
    · skip
      have y := zb_ne h14
      have hc0 := ex_is y
      refine lv_aload_n hx hb d_M_simulate_19 rfl (lv_at hl 0 rfl) ?_
      refine lv_iconst (v := 0) hx hb d_M_simulate_20 rfl ?_
      refine lv_iload_n hx hb d_M_simulate_21 rfl (lv_at hl 1 rfl) ?_
      refine lv_iload_n hx hb d_M_simulate_22 rfl (lv_at hl 2 rfl) ?_
      refine mm_cv (index := 173) (n := 3) (As := [.int 0, .int (nI c0), .int (nI sd)]) (rest := []) ⟨hx, hb, hml, hown, hts⟩ (k_commitTreeM l D ca am (ar) hI false c0 sd lo hT (show 0 < ar 0 1 by omega) hw hI2 hc0 hbs his) mk_M_173 mo_M_commitTree me_M_M_commitTree_M mi_M mc_M_commitTree (by decide +kernel) ⟨rfl, rfl⟩ ⟨by decide, by decide⟩ hK hP hS hAA rfl hl.1 rfl (Nat.le_of_ble_eq_true rfl) d_M_simulate_23 ⟨Nat.zero_le _, Nat.zero_le _⟩ (fun ar1 H locs hpost hP hS => ?_)
      obtain ⟨h2, sc, hk2, hh2, hpost⟩ := hpost
      subst hpost
      refine lv_aload_n hx hb d_M_simulate_26 rfl (lv_at hl 0 rfl) ?_
      refine lv_iconst (v := 0) hx hb d_M_simulate_27 rfl ?_
      refine mm_put hx hb hts hown hK hP hD hS (index := 132) 4 (by decide) mf_M_132 (0) (rfl) (zn_narb (by decide)) (zn_fitb (by decide)) d_M_simulate_28 (fun H locs hP hS => ?_)
      refine lv_iconst (v := 0) hx hb d_M_simulate_31 rfl ?_
      exact W.iret hx hb hr (fun t ht hW => ⟨⟨_, zs (mix (cm (ar 7) (ar 8) (ar 9) (ar 10) (ar 0 1 - 1) false c0 (va_up (zs ar 0 5 sd) 27 h2)) sc) 0 4 0, rfl, Or.inr ⟨by omega, Or.inr ⟨y, rfl, h2, sc, hk2, hh2, rfl⟩⟩, va_K.moved hW.alike hK, by rw [ht]; exact hP⟩, hS.F ht⟩) hS.2.2 d_M_simulate_32
    · skip
      have y := zb_eq h14
      refine lv_iconst (v := (-1)) hx hb d_M_simulate_17 rfl ?_
      exact W.iret hx hb hr (fun t ht hW => ⟨⟨_, ar, rfl, Or.inr ⟨by omega, Or.inl ⟨y, rfl, rfl⟩⟩, va_K.moved hW.alike hK, by rw [ht]; exact hP⟩, hS.F ht⟩) hS.2.2 d_M_simulate_18
  · skip
    have z : ar 0 1 = 0 := (zn_inj (by omega) (by decide)).mp h4
    refine lv_bipush (v := (-2)) hx hb d_M_simulate_7 rfl ?_
    exact W.iret hx hb hr (fun t ht hW => ⟨⟨_, ar, rfl, Or.inl ⟨z, rfl, rfl⟩, va_K.moved hW.alike hK, by rw [ht]; exact hP⟩, hS.F ht⟩) hS.2.2 d_M_simulate_9
