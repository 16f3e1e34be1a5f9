/-! the model's constructor -/
def mfP (am : Nat → Nat) (j : Nat) : List Value := (List.range 34).map (fun i => if i < j then .ref (am (i + 1)) else if i < 27 then .null else .int 0)
def mcP (ca : Nat → ClassId) (am : Nat → Nat) (j : Nat) : Nat → va_E := fun q => match q with
  | 0 => .inr (1, mfP am j)
  | q + 1 => .inl (ca (mty (q + 1)), mlen (q + 1), .inl (fun _ => 0))
theorem mfP_set {am : Nat → Nat} {j q : Nat} (hj : j < 27) : (mfP am j).set j (.ref q) = mfP (va_up am (j + 1) q) (j + 1) := by
  apply List.ext_getElem?
  intro i
  unfold mfP
  by_cases hi : i < 34
  · by_cases e : j = i
    · subst e
      rw [List.getElem?_set_self (by simpa using hi)]
      simp [hi, va_up_self]
    · rw [List.getElem?_set_ne e]
      simp only [List.getElem?_map, List.getElem?_range hi, Option.map_some]
      by_cases h1 : i < j
      · rw [if_pos h1, if_pos (by omega), va_up_ne _ _ (by omega)]
      · rw [if_neg h1, if_neg (show ¬ i < j + 1 by omega)]
  · rw [List.getElem?_eq_none (by simp; omega), List.getElem?_eq_none (by simp; omega)]
theorem mfP_27 (am : Nat → Nat) : mfP am 27 = mfs am (fun _ _ => 0) := rfl
theorem zty_u {D : va_G} {cl : List vw_C} {ca : Nat → ClassId} {s : State} {cA : ClassId} (h : va_K D cl (zty ca ++ [(cA, .int)]) s) : cA = ca 0 := by
  have a := (h.2 0 (ca 0, .int) rfl).2
  have b := (h.2 4 (cA, .int) rfl).2
  exact Option.some.inj (b.symm.trans a)
theorem zty_ub {D : va_G} {cl : List vw_C} {ca : Nat → ClassId} {s : State} {cA : ClassId} (h : va_K D cl (zty ca ++ [(cA, .boolean)]) s) : cA = ca 1 := by
  have a := (h.2 1 (ca 1, .boolean) rfl).2
  have b := (h.2 4 (cA, .boolean) rfl).2
  exact Option.some.inj (b.symm.trans a)
theorem zD_push {A : Nat → Prop} {D : va_G} {cl : List vw_C} {n : Nat} {ad : Nat → Nat} {ct : Nat → va_E} {q : Nat} {e : va_E} (h : va_D A (zl n ad ct ++ [(q, e)])) : zD A (n + 1) (va_up ad n q) := by
  rw [zl_push] at h
  exact zD_of h
theorem T_M_fin {k : Nat} (h : k < 27) : (T_M k).2.2.2 = true := by
  rcases (show k = 0 ∨ k = 1 ∨ k = 2 ∨ k = 3 ∨ k = 4 ∨ k = 5 ∨ k = 6 ∨ k = 7 ∨ k = 8 ∨ k = 9 ∨ k = 10 ∨ k = 11 ∨ k = 12 ∨ k = 13 ∨ k = 14 ∨ k = 15 ∨ k = 16 ∨ k = 17 ∨ k = 18 ∨ k = 19 ∨ k = 20 ∨ k = 21 ∨ k = 22 ∨ k = 23 ∨ k = 24 ∨ k = 25 ∨ k = 26 by omega) with rfl | rfl | rfl | rfl | rfl | rfl | rfl | rfl | rfl | rfl | rfl | rfl | rfl | rfl | rfl | rfl | rfl | rfl | rfl | rfl | rfl | rfl | rfl | rfl | rfl | rfl | rfl <;> rfl
theorem ft_M_arr {k q : Nat} (h : k < 27) : narrow (ft_M k) (.ref q) = .ref q ∧ fits (ft_M k) (.ref q) = true := by
  rcases (show k = 0 ∨ k = 1 ∨ k = 2 ∨ k = 3 ∨ k = 4 ∨ k = 5 ∨ k = 6 ∨ k = 7 ∨ k = 8 ∨ k = 9 ∨ k = 10 ∨ k = 11 ∨ k = 12 ∨ k = 13 ∨ k = 14 ∨ k = 15 ∨ k = 16 ∨ k = 17 ∨ k = 18 ∨ k = 19 ∨ k = 20 ∨ k = 21 ∨ k = 22 ∨ k = 23 ∨ k = 24 ∨ k = 25 ∨ k = 26 by omega) with rfl | rfl | rfl | rfl | rfl | rfl | rfl | rfl | rfl | rfl | rfl | rfl | rfl | rfl | rfl | rfl | rfl | rfl | rfl | rfl | rfl | rfl | rfl | rfl | rfl | rfl | rfl <;> exact ⟨rfl, rfl⟩

theorem d_M_init_0 : decode c_M_init 0 = .ok (.aload_n 0, 1) := by decide +kernel
theorem d_M_init_1 : decode c_M_init 1 = .ok (.invokespecial 1, 3) := by decide +kernel
theorem d_M_init_4 : decode c_M_init 4 = .ok (.aload_n 0, 1) := by decide +kernel
theorem d_M_init_5 : decode c_M_init 5 = .ok (.bipush 90, 2) := by decide +kernel
theorem d_M_init_7 : decode c_M_init 7 = .ok (.newarray .int, 2) := by decide +kernel
theorem d_M_init_9 : decode c_M_init 9 = .ok (.putfield 7, 3) := by decide +kernel
theorem d_M_init_12 : decode c_M_init 12 = .ok (.aload_n 0, 1) := by decide +kernel
theorem d_M_init_13 : decode c_M_init 13 = .ok (.bipush 90, 2) := by decide +kernel
theorem d_M_init_15 : decode c_M_init 15 = .ok (.newarray .int, 2) := by decide +kernel
theorem d_M_init_17 : decode c_M_init 17 = .ok (.putfield 13, 3) := by decide +kernel
theorem d_M_init_20 : decode c_M_init 20 = .ok (.aload_n 0, 1) := by decide +kernel
theorem d_M_init_21 : decode c_M_init 21 = .ok (.bipush 90, 2) := by decide +kernel
theorem d_M_init_23 : decode c_M_init 23 = .ok (.newarray .int, 2) := by decide +kernel
theorem d_M_init_25 : decode c_M_init 25 = .ok (.putfield 16, 3) := by decide +kernel
theorem d_M_init_28 : decode c_M_init 28 = .ok (.aload_n 0, 1) := by decide +kernel
theorem d_M_init_29 : decode c_M_init 29 = .ok (.bipush 90, 2) := by decide +kernel
theorem d_M_init_31 : decode c_M_init 31 = .ok (.newarray .int, 2) := by decide +kernel
theorem d_M_init_33 : decode c_M_init 33 = .ok (.putfield 19, 3) := by decide +kernel
theorem d_M_init_36 : decode c_M_init 36 = .ok (.aload_n 0, 1) := by decide +kernel
theorem d_M_init_37 : decode c_M_init 37 = .ok (.bipush 90, 2) := by decide +kernel
theorem d_M_init_39 : decode c_M_init 39 = .ok (.newarray .int, 2) := by decide +kernel
theorem d_M_init_41 : decode c_M_init 41 = .ok (.putfield 22, 3) := by decide +kernel
theorem d_M_init_44 : decode c_M_init 44 = .ok (.aload_n 0, 1) := by decide +kernel
theorem d_M_init_45 : decode c_M_init 45 = .ok (.bipush 7, 2) := by decide +kernel
theorem d_M_init_47 : decode c_M_init 47 = .ok (.newarray .int, 2) := by decide +kernel
theorem d_M_init_49 : decode c_M_init 49 = .ok (.putfield 25, 3) := by decide +kernel
theorem d_M_init_52 : decode c_M_init 52 = .ok (.aload_n 0, 1) := by decide +kernel
theorem d_M_init_53 : decode c_M_init 53 = .ok (.bipush 15, 2) := by decide +kernel
theorem d_M_init_55 : decode c_M_init 55 = .ok (.newarray .int, 2) := by decide +kernel
theorem d_M_init_57 : decode c_M_init 57 = .ok (.putfield 28, 3) := by decide +kernel
theorem d_M_init_60 : decode c_M_init 60 = .ok (.aload_n 0, 1) := by decide +kernel
theorem d_M_init_61 : decode c_M_init 61 = .ok (.bipush 15, 2) := by decide +kernel
theorem d_M_init_63 : decode c_M_init 63 = .ok (.newarray .int, 2) := by decide +kernel
theorem d_M_init_65 : decode c_M_init 65 = .ok (.putfield 31, 3) := by decide +kernel
theorem d_M_init_68 : decode c_M_init 68 = .ok (.aload_n 0, 1) := by decide +kernel
theorem d_M_init_69 : decode c_M_init 69 = .ok (.bipush 15, 2) := by decide +kernel
theorem d_M_init_71 : decode c_M_init 71 = .ok (.newarray .int, 2) := by decide +kernel
theorem d_M_init_73 : decode c_M_init 73 = .ok (.putfield 34, 3) := by decide +kernel
theorem d_M_init_76 : decode c_M_init 76 = .ok (.aload_n 0, 1) := by decide +kernel
theorem d_M_init_77 : decode c_M_init 77 = .ok (.bipush 15, 2) := by decide +kernel
theorem d_M_init_79 : decode c_M_init 79 = .ok (.newarray .int, 2) := by decide +kernel
theorem d_M_init_81 : decode c_M_init 81 = .ok (.putfield 37, 3) := by decide +kernel
theorem d_M_init_84 : decode c_M_init 84 = .ok (.aload_n 0, 1) := by decide +kernel
theorem d_M_init_85 : decode c_M_init 85 = .ok (.bipush 16, 2) := by decide +kernel
theorem d_M_init_87 : decode c_M_init 87 = .ok (.newarray .int, 2) := by decide +kernel
theorem d_M_init_89 : decode c_M_init 89 = .ok (.putfield 40, 3) := by decide +kernel
theorem d_M_init_92 : decode c_M_init 92 = .ok (.aload_n 0, 1) := by decide +kernel
theorem d_M_init_93 : decode c_M_init 93 = .ok (.bipush 16, 2) := by decide +kernel
theorem d_M_init_95 : decode c_M_init 95 = .ok (.newarray .int, 2) := by decide +kernel
theorem d_M_init_97 : decode c_M_init 97 = .ok (.putfield 43, 3) := by decide +kernel
theorem d_M_init_100 : decode c_M_init 100 = .ok (.aload_n 0, 1) := by decide +kernel
theorem d_M_init_101 : decode c_M_init 101 = .ok (.bipush 8, 2) := by decide +kernel
theorem d_M_init_103 : decode c_M_init 103 = .ok (.newarray .int, 2) := by decide +kernel
theorem d_M_init_105 : decode c_M_init 105 = .ok (.putfield 46, 3) := by decide +kernel
theorem d_M_init_108 : decode c_M_init 108 = .ok (.aload_n 0, 1) := by decide +kernel
theorem d_M_init_109 : decode c_M_init 109 = .ok (.bipush 16, 2) := by decide +kernel
theorem d_M_init_111 : decode c_M_init 111 = .ok (.newarray .int, 2) := by decide +kernel
theorem d_M_init_113 : decode c_M_init 113 = .ok (.putfield 49, 3) := by decide +kernel
theorem d_M_init_116 : decode c_M_init 116 = .ok (.aload_n 0, 1) := by decide +kernel
theorem d_M_init_117 : decode c_M_init 117 = .ok (.bipush 8, 2) := by decide +kernel
theorem d_M_init_119 : decode c_M_init 119 = .ok (.newarray .int, 2) := by decide +kernel
theorem d_M_init_121 : decode c_M_init 121 = .ok (.putfield 52, 3) := by decide +kernel
theorem d_M_init_124 : decode c_M_init 124 = .ok (.aload_n 0, 1) := by decide +kernel
theorem d_M_init_125 : decode c_M_init 125 = .ok (.bipush 8, 2) := by decide +kernel
theorem d_M_init_127 : decode c_M_init 127 = .ok (.newarray .int, 2) := by decide +kernel
theorem d_M_init_129 : decode c_M_init 129 = .ok (.putfield 55, 3) := by decide +kernel
theorem d_M_init_132 : decode c_M_init 132 = .ok (.aload_n 0, 1) := by decide +kernel
theorem d_M_init_133 : decode c_M_init 133 = .ok (.bipush 16, 2) := by decide +kernel
theorem d_M_init_135 : decode c_M_init 135 = .ok (.newarray .int, 2) := by decide +kernel
theorem d_M_init_137 : decode c_M_init 137 = .ok (.putfield 58, 3) := by decide +kernel
theorem d_M_init_140 : decode c_M_init 140 = .ok (.aload_n 0, 1) := by decide +kernel
theorem d_M_init_141 : decode c_M_init 141 = .ok (.bipush 8, 2) := by decide +kernel
theorem d_M_init_143 : decode c_M_init 143 = .ok (.newarray .int, 2) := by decide +kernel
theorem d_M_init_145 : decode c_M_init 145 = .ok (.putfield 61, 3) := by decide +kernel
theorem d_M_init_148 : decode c_M_init 148 = .ok (.aload_n 0, 1) := by decide +kernel
theorem d_M_init_149 : decode c_M_init 149 = .ok (.bipush 8, 2) := by decide +kernel
theorem d_M_init_151 : decode c_M_init 151 = .ok (.newarray .int, 2) := by decide +kernel
theorem d_M_init_153 : decode c_M_init 153 = .ok (.putfield 64, 3) := by decide +kernel
theorem d_M_init_156 : decode c_M_init 156 = .ok (.aload_n 0, 1) := by decide +kernel
theorem d_M_init_157 : decode c_M_init 157 = .ok (.bipush 8, 2) := by decide +kernel
theorem d_M_init_159 : decode c_M_init 159 = .ok (.newarray .int, 2) := by decide +kernel
theorem d_M_init_161 : decode c_M_init 161 = .ok (.putfield 67, 3) := by decide +kernel
theorem d_M_init_164 : decode c_M_init 164 = .ok (.aload_n 0, 1) := by decide +kernel
theorem d_M_init_165 : decode c_M_init 165 = .ok (.bipush 15, 2) := by decide +kernel
theorem d_M_init_167 : decode c_M_init 167 = .ok (.newarray .boolean, 2) := by decide +kernel
theorem d_M_init_169 : decode c_M_init 169 = .ok (.putfield 70, 3) := by decide +kernel
theorem d_M_init_172 : decode c_M_init 172 = .ok (.aload_n 0, 1) := by decide +kernel
theorem d_M_init_173 : decode c_M_init 173 = .ok (.bipush 15, 2) := by decide +kernel
theorem d_M_init_175 : decode c_M_init 175 = .ok (.newarray .int, 2) := by decide +kernel
theorem d_M_init_177 : decode c_M_init 177 = .ok (.putfield 74, 3) := by decide +kernel
theorem d_M_init_180 : decode c_M_init 180 = .ok (.aload_n 0, 1) := by decide +kernel
theorem d_M_init_181 : decode c_M_init 181 = .ok (.bipush 15, 2) := by decide +kernel
theorem d_M_init_183 : decode c_M_init 183 = .ok (.newarray .int, 2) := by decide +kernel
theorem d_M_init_185 : decode c_M_init 185 = .ok (.putfield 77, 3) := by decide +kernel
theorem d_M_init_188 : decode c_M_init 188 = .ok (.aload_n 0, 1) := by decide +kernel
theorem d_M_init_189 : decode c_M_init 189 = .ok (.bipush 15, 2) := by decide +kernel
theorem d_M_init_191 : decode c_M_init 191 = .ok (.newarray .int, 2) := by decide +kernel
theorem d_M_init_193 : decode c_M_init 193 = .ok (.putfield 80, 3) := by decide +kernel
theorem d_M_init_196 : decode c_M_init 196 = .ok (.aload_n 0, 1) := by decide +kernel
theorem d_M_init_197 : decode c_M_init 197 = .ok (.bipush 15, 2) := by decide +kernel
theorem d_M_init_199 : decode c_M_init 199 = .ok (.newarray .boolean, 2) := by decide +kernel
theorem d_M_init_201 : decode c_M_init 201 = .ok (.putfield 83, 3) := by decide +kernel
theorem d_M_init_204 : decode c_M_init 204 = .ok (.aload_n 0, 1) := by decide +kernel
theorem d_M_init_205 : decode c_M_init 205 = .ok (.bipush 15, 2) := by decide +kernel
theorem d_M_init_207 : decode c_M_init 207 = .ok (.newarray .int, 2) := by decide +kernel
theorem d_M_init_209 : decode c_M_init 209 = .ok (.putfield 86, 3) := by decide +kernel
theorem d_M_init_212 : decode c_M_init 212 = .ok (.aload_n 0, 1) := by decide +kernel
theorem d_M_init_213 : decode c_M_init 213 = .ok (.bipush 15, 2) := by decide +kernel
theorem d_M_init_215 : decode c_M_init 215 = .ok (.newarray .boolean, 2) := by decide +kernel
theorem d_M_init_217 : decode c_M_init 217 = .ok (.putfield 89, 3) := by decide +kernel
theorem d_M_init_220 : decode c_M_init 220 = .ok (.return_, 1) := by decide +kernel

section MC
variable {p : Program} {l : Launch} {e : Env} {R : Room} {s : State} {m : MethodId} {args : Array Value} {below : List Frame} {meth : Method} {c : Code} {H0 : Heap}  {Q : State → Prop} {A : Nat → Prop} {D : va_G} {ca : Nat → ClassId}
set_option maxHeartbeats 4000000 in
set_option maxRecDepth 100000 in
theorem minit_int (hx : p.tables.exec = Jvm.exec) (hb : c.code = c_M_init) (hown : s.vm.findClass R_M = some m.cls) (hts : ∀ w ∈ zT, w.before args s = true) (hin : meth.name = "<init>") (hK : va_K D zC (zty ca) s) (hA : ∀ q, H0.size ≤ q → A q) (j : Nat) (hj : j < 27) (hty : mty (j + 1) = 0) {am : Nat → Nat} {H : Heap} {locs : List Loc} {cells slots pc index : Nat} {nn : Int} {ls : Array Slot} (hP : va_P D zC (zl (j + 1) am (mcP ca am j)) H) (hD : zD A (j + 1) am) (hS : va_S A H0 H locs) (hl : ls[0]? = some (.val (.ref (am 0)))) (d0 : decode c_M_init pc = .ok (.aload_n 0, 1)) (d1 : decode c_M_init (pc + 1) = .ok (.bipush nn, 2)) (d2 : decode c_M_init (pc + 3) = .ok (.newarray .int, 2)) (d3 : decode c_M_init (pc + 5) = .ok (.putfield index, 3)) (hn : (Int8.ofInt nn).toInt32 = nI (mlen (j + 1))) (w : Cond.fieldLink R_M index "SigmaDeskModel" (T_M j).2.1 (T_M j).2.2.1 ∈ zT) (hc : cells + 1 ≤ R.cells) (hs : slots + mlen (j + 1) ≤ R.slots)
    (kk : ∀ (am1 : Nat → Nat) (H : Heap) (locs : List Loc), am1 0 = am 0 → va_P D zC (zl (j + 2) am1 (mcP ca am1 (j + 1))) H → zD A (j + 2) am1 → va_S A H0 H locs → W p l e R s m args below meth c H locs (cells + 1) (slots + mlen (j + 1)) Q (F0 m (pc + 8) ls [])) : W p l e R s m args below meth c H locs cells slots Q (F0 m pc ls []) := by
  refine lv_aload_n hx hb d0 rfl hl ?_
  refine lv_bipush (v := nI (mlen (j + 1))) hx hb d1 hn ?_
  have hm := mlen_lt (j + 1)
  have hm2 : mlen (j + 1) ≤ 90 := by unfold mlen; split <;> decide
  refine va_newa (atype := .int) (D := D) (cl := zC) (tys := zty ca) (a0 := (mlen (j + 1), .inl (fun _ => 0))) hx hb (hts _ ma_int) (ty := .int) rfl hK hP (zD_to hD _) hS hA (fun cA => rfl) (nI_pos hm) (nI_clamp hm) (Nat.le_trans (Nat.mul_le_mul_right _ hm2) (by decide)) hc hs d2 (fun q cA H1 hK1 hP1 hD1 hS1 => ?_)
  have hcA := zty_u hK1
  subst hcA
  rw [zl_push] at hP1
  have hD2 := zD_push (D := D) (cl := zC) hD1
  have e0 : va_up am (j + 1) q 0 = am 0 := va_up_ne _ _ (by omega)
  rw [← e0]
  refine va_putF (D := D) (cl := zC) (tys := zty ca) (ci := 1) (v := .ref q) (ty := ft_M j) (C := R_M) (T := T_M) (N := 34) (fs := mfP am j) hx hb hts in_M ft_M ft_M_ok fn_M hown hK hP1 (zD_to hD2 _) hS1 0 ((zl_get (by omega)).trans (by rw [va_up_ne _ _ (by omega)]; rfl)) rfl j (by omega) (hts _ w) (fun _ h => by rw [T_M_own] at h; exact h) (T_M_fin hj) hin (T_M_own j) (ft_M_ok j (by omega)) (ft_M_arr hj).1 (ft_M_arr hj).2 (show j < (mfP am j).length by unfold mfP; rw [List.length_map, List.length_range]; omega) d3 (fun H2 locs2 hP2 _ hS2 => ?_)
  rw [zl_set, mfP_set hj] at hP2
  refine kk (va_up am (j + 1) q) H2 locs2 e0 (zP_congr hP2 (fun i hi => ?_)) hD2 hS2
  cases i with
  | zero => rw [va_up_self]; rfl
  | succ i =>
    rw [va_up_ne _ _ (by omega)]
    by_cases e : i = j
    · subst e; rw [va_up_self]; show Sum.inl (ca (mty (i + 1)), _) = _; rw [hty]
    · rw [va_up_ne _ _ (by omega)]; rfl
set_option maxHeartbeats 4000000 in
set_option maxRecDepth 100000 in
theorem minit_boolean (hx : p.tables.exec = Jvm.exec) (hb : c.code = c_M_init) (hown : s.vm.findClass R_M = some m.cls) (hts : ∀ w ∈ zT, w.before args s = true) (hin : meth.name = "<init>") (hK : va_K D zC (zty ca) s) (hA : ∀ q, H0.size ≤ q → A q) (j : Nat) (hj : j < 27) (hty : mty (j + 1) = 1) {am : Nat → Nat} {H : Heap} {locs : List Loc} {cells slots pc index : Nat} {nn : Int} {ls : Array Slot} (hP : va_P D zC (zl (j + 1) am (mcP ca am j)) H) (hD : zD A (j + 1) am) (hS : va_S A H0 H locs) (hl : ls[0]? = some (.val (.ref (am 0)))) (d0 : decode c_M_init pc = .ok (.aload_n 0, 1)) (d1 : decode c_M_init (pc + 1) = .ok (.bipush nn, 2)) (d2 : decode c_M_init (pc + 3) = .ok (.newarray .boolean, 2)) (d3 : decode c_M_init (pc + 5) = .ok (.putfield index, 3)) (hn : (Int8.ofInt nn).toInt32 = nI (mlen (j + 1))) (w : Cond.fieldLink R_M index "SigmaDeskModel" (T_M j).2.1 (T_M j).2.2.1 ∈ zT) (hc : cells + 1 ≤ R.cells) (hs : slots + mlen (j + 1) ≤ R.slots)
    (kk : ∀ (am1 : Nat → Nat) (H : Heap) (locs : List Loc), am1 0 = am 0 → va_P D zC (zl (j + 2) am1 (mcP ca am1 (j + 1))) H → zD A (j + 2) am1 → va_S A H0 H locs → W p l e R s m args below meth c H locs (cells + 1) (slots + mlen (j + 1)) Q (F0 m (pc + 8) ls [])) : W p l e R s m args below meth c H locs cells slots Q (F0 m pc ls []) := by
  refine lv_aload_n hx hb d0 rfl hl ?_
  refine lv_bipush (v := nI (mlen (j + 1))) hx hb d1 hn ?_
  have hm := mlen_lt (j + 1)
  have hm2 : mlen (j + 1) ≤ 90 := by unfold mlen; split <;> decide
  refine va_newa (atype := .boolean) (D := D) (cl := zC) (tys := zty ca) (a0 := (mlen (j + 1), .inl (fun _ => 0))) hx hb (hts _ ma_boolean) (ty := .boolean) rfl hK hP (zD_to hD _) hS hA (fun cA => rfl) (nI_pos hm) (nI_clamp hm) (Nat.le_trans (Nat.mul_le_mul_right _ hm2) (by decide)) hc hs d2 (fun q cA H1 hK1 hP1 hD1 hS1 => ?_)
  have hcA := zty_ub hK1
  subst hcA
  rw [zl_push] at hP1
  have hD2 := zD_push (D := D) (cl := zC) hD1
  have e0 : va_up am (j + 1) q 0 = am 0 := va_up_ne _ _ (by omega)
  rw [← e0]
  refine va_putF (D := D) (cl := zC) (tys := zty ca) (ci := 1) (v := .ref q) (ty := ft_M j) (C := R_M) (T := T_M) (N := 34) (fs := mfP am j) hx hb hts in_M ft_M ft_M_ok fn_M hown hK hP1 (zD_to hD2 _) hS1 0 ((zl_get (by omega)).trans (by rw [va_up_ne _ _ (by omega)]; rfl)) rfl j (by omega) (hts _ w) (fun _ h => by rw [T_M_own] at h; exact h) (T_M_fin hj) hin (T_M_own j) (ft_M_ok j (by omega)) (ft_M_arr hj).1 (ft_M_arr hj).2 (show j < (mfP am j).length by unfold mfP; rw [List.length_map, List.length_range]; omega) d3 (fun H2 locs2 hP2 _ hS2 => ?_)
  rw [zl_set, mfP_set hj] at hP2
  refine kk (va_up am (j + 1) q) H2 locs2 e0 (zP_congr hP2 (fun i hi => ?_)) hD2 hS2
  cases i with
  | zero => rw [va_up_self]; rfl
  | succ i =>
    rw [va_up_ne _ _ (by omega)]
    by_cases e : i = j
    · subst e; rw [va_up_self]; show Sum.inl (ca (mty (i + 1)), _) = _; rw [hty]
    · rw [va_up_ne _ _ (by omega)]; rfl
end MC

set_option maxHeartbeats 4000000 in
set_option maxRecDepth 100000 in
/-- a new model: all zero -/
theorem k_initM (l : Launch) (D : va_G) (ca : Nat → ClassId) (h0 sz : Nat) : Met l y_M_init (Cond.code y_M_init c_M_init 1 none :: zT) ({ frames := 1, cells := 27, slots := 734, locals := 40 }) (va_Pc [.ref h0] (fun U => U.heap.size = sz ∧ va_K D zC (zty ca) U ∧ va_P D zC (zl 1 (fun _ => h0) (mcP ca (fun _ => h0) 0)) U.heap)) (va_Qv (fun am : Nat → Nat => am 0 = h0 ∧ zD (fun q => q = h0 ∨ sz ≤ q) 28 am) (fun am t => mw D ca am (fun _ _ => 0) t) (fun q => q = h0 ∨ sz ≤ q)) 27 734 (fun q => q = h0 ∨ sz ≤ q) := by
  refine Met.ofW (cc := c_M_init) (maxL := 1) (ret := none) (by decide) rfl ?_
  intro p e s m args below meth c s₁ B hml hv
  obtain ⟨rfl, hsz, hK, hP⟩ := hv
  have hx := B.exec
  have hb := B.bytes
  have hr := B.returns
  have hts0 := atoms_spec (ws := Cond.code y_M_init c_M_init 1 none :: zT) B.pre
  have hts := fun w h => hts0 w (List.mem_cons_of_mem _ h)
  have hown : s.vm.findClass R_M = some m.cls := findClass_of_methodNamed B.named
  have hlocks := B.notSynchronized
  have hin : meth.name = "<init>" := (name_of_methodNamed B.named B.method).1
  subst hsz
  generalize hAe : (fun q => q = h0 ∨ s.heap.size ≤ q) = A
  have hA : ∀ q : Nat, s.heap.size ≤ q → A q := fun q h => by rw [← hAe]; exact Or.inr h
  have hS : va_S A s.heap s.heap [] := va_S.rf
  have hD : zD A 1 (fun _ => h0) := ⟨fun i j hi hj _ => by omega, fun j hj => by rw [← hAe]; exact Or.inl rfl⟩
  have hl := lv_entry ([.ref h0]) (n := 1) (Nat.le_of_ble_eq_true rfl)
  rw [lg_entry_eq]
  generalize (lg_sl ([.ref h0]) ++ List.replicate (1 - (lg_sl ([.ref h0])).length) Slot.unset).toArray = ls at hl ⊢
  have hl : lv_has ls 1 [(0, .ref h0)] := hl
  refine lv_aload_n hx hb d_M_init_0 rfl (lv_at hl 0 rfl) ?_
  refine W.objInit hx hb hown (hts _ mk_M_1) (hts _ mo_B_init) (hts _ mc_B_init) rfl (by rw [hml]; exact hl.1) rfl d_M_init_1 (Nat.le_of_ble_eq_true rfl) (Nat.le_of_ble_eq_true rfl) ?_
  refine W.eq (g2 := F0 m 4 ls []) rfl ?_
  have hl0 := lv_at hl 0 rfl
  refine minit_int hx hb hown hts hin hK hA 0 (by decide) rfl hP hD hS hl0 d_M_init_4 d_M_init_5 d_M_init_7 d_M_init_9 (by decide) mf_M_7 (by decide) (by decide) (fun am0 H locs e0 hP hD hS => ?_)
  have e0 : am0 0 = h0 := e0
  have hl0 : ls[0]? = some (.val (.ref (am0 0))) := by rw [e0]; exact lv_at hl 0 rfl
  refine minit_int hx hb hown hts hin hK hA 1 (by decide) rfl hP hD hS hl0 d_M_init_12 d_M_init_13 d_M_init_15 d_M_init_17 (by decide) mf_M_13 (by decide) (by decide) (fun am1 H locs e1 hP hD hS => ?_)
  have e1 : am1 0 = h0 := e1.trans e0
  have hl0 : ls[0]? = some (.val (.ref (am1 0))) := by rw [e1]; exact lv_at hl 0 rfl
  refine minit_int hx hb hown hts hin hK hA 2 (by decide) rfl hP hD hS hl0 d_M_init_20 d_M_init_21 d_M_init_23 d_M_init_25 (by decide) mf_M_16 (by decide) (by decide) (fun am2 H locs e2 hP hD hS => ?_)
  have e2 : am2 0 = h0 := e2.trans e1
  have hl0 : ls[0]? = some (.val (.ref (am2 0))) := by rw [e2]; exact lv_at hl 0 rfl
  refine minit_int hx hb hown hts hin hK hA 3 (by decide) rfl hP hD hS hl0 d_M_init_28 d_M_init_29 d_M_init_31 d_M_init_33 (by decide) mf_M_19 (by decide) (by decide) (fun am3 H locs e3 hP hD hS => ?_)
  have e3 : am3 0 = h0 := e3.trans e2
  have hl0 : ls[0]? = some (.val (.ref (am3 0))) := by rw [e3]; exact lv_at hl 0 rfl
  refine minit_int hx hb hown hts hin hK hA 4 (by decide) rfl hP hD hS hl0 d_M_init_36 d_M_init_37 d_M_init_39 d_M_init_41 (by decide) mf_M_22 (by decide) (by decide) (fun am4 H locs e4 hP hD hS => ?_)
  have e4 : am4 0 = h0 := e4.trans e3
  have hl0 : ls[0]? = some (.val (.ref (am4 0))) := by rw [e4]; exact lv_at hl 0 rfl
  refine minit_int hx hb hown hts hin hK hA 5 (by decide) rfl hP hD hS hl0 d_M_init_44 d_M_init_45 d_M_init_47 d_M_init_49 (by decide) mf_M_25 (by decide) (by decide) (fun am5 H locs e5 hP hD hS => ?_)
  have e5 : am5 0 = h0 := e5.trans e4
  have hl0 : ls[0]? = some (.val (.ref (am5 0))) := by rw [e5]; exact lv_at hl 0 rfl
  refine minit_int hx hb hown hts hin hK hA 6 (by decide) rfl hP hD hS hl0 d_M_init_52 d_M_init_53 d_M_init_55 d_M_init_57 (by decide) mf_M_28 (by decide) (by decide) (fun am6 H locs e6 hP hD hS => ?_)
  have e6 : am6 0 = h0 := e6.trans e5
  have hl0 : ls[0]? = some (.val (.ref (am6 0))) := by rw [e6]; exact lv_at hl 0 rfl
  refine minit_int hx hb hown hts hin hK hA 7 (by decide) rfl hP hD hS hl0 d_M_init_60 d_M_init_61 d_M_init_63 d_M_init_65 (by decide) mf_M_31 (by decide) (by decide) (fun am7 H locs e7 hP hD hS => ?_)
  have e7 : am7 0 = h0 := e7.trans e6
  have hl0 : ls[0]? = some (.val (.ref (am7 0))) := by rw [e7]; exact lv_at hl 0 rfl
  refine minit_int hx hb hown hts hin hK hA 8 (by decide) rfl hP hD hS hl0 d_M_init_68 d_M_init_69 d_M_init_71 d_M_init_73 (by decide) mf_M_34 (by decide) (by decide) (fun am8 H locs e8 hP hD hS => ?_)
  have e8 : am8 0 = h0 := e8.trans e7
  have hl0 : ls[0]? = some (.val (.ref (am8 0))) := by rw [e8]; exact lv_at hl 0 rfl
  refine minit_int hx hb hown hts hin hK hA 9 (by decide) rfl hP hD hS hl0 d_M_init_76 d_M_init_77 d_M_init_79 d_M_init_81 (by decide) mf_M_37 (by decide) (by decide) (fun am9 H locs e9 hP hD hS => ?_)
  have e9 : am9 0 = h0 := e9.trans e8
  have hl0 : ls[0]? = some (.val (.ref (am9 0))) := by rw [e9]; exact lv_at hl 0 rfl
  refine minit_int hx hb hown hts hin hK hA 10 (by decide) rfl hP hD hS hl0 d_M_init_84 d_M_init_85 d_M_init_87 d_M_init_89 (by decide) mf_M_40 (by decide) (by decide) (fun am10 H locs e10 hP hD hS => ?_)
  have e10 : am10 0 = h0 := e10.trans e9
  have hl0 : ls[0]? = some (.val (.ref (am10 0))) := by rw [e10]; exact lv_at hl 0 rfl
  refine minit_int hx hb hown hts hin hK hA 11 (by decide) rfl hP hD hS hl0 d_M_init_92 d_M_init_93 d_M_init_95 d_M_init_97 (by decide) mf_M_43 (by decide) (by decide) (fun am11 H locs e11 hP hD hS => ?_)
  have e11 : am11 0 = h0 := e11.trans e10
  have hl0 : ls[0]? = some (.val (.ref (am11 0))) := by rw [e11]; exact lv_at hl 0 rfl
  refine minit_int hx hb hown hts hin hK hA 12 (by decide) rfl hP hD hS hl0 d_M_init_100 d_M_init_101 d_M_init_103 d_M_init_105 (by decide) mf_M_46 (by decide) (by decide) (fun am12 H locs e12 hP hD hS => ?_)
  have e12 : am12 0 = h0 := e12.trans e11
  have hl0 : ls[0]? = some (.val (.ref (am12 0))) := by rw [e12]; exact lv_at hl 0 rfl
  refine minit_int hx hb hown hts hin hK hA 13 (by decide) rfl hP hD hS hl0 d_M_init_108 d_M_init_109 d_M_init_111 d_M_init_113 (by decide) mf_M_49 (by decide) (by decide) (fun am13 H locs e13 hP hD hS => ?_)
  have e13 : am13 0 = h0 := e13.trans e12
  have hl0 : ls[0]? = some (.val (.ref (am13 0))) := by rw [e13]; exact lv_at hl 0 rfl
  refine minit_int hx hb hown hts hin hK hA 14 (by decide) rfl hP hD hS hl0 d_M_init_116 d_M_init_117 d_M_init_119 d_M_init_121 (by decide) mf_M_52 (by decide) (by decide) (fun am14 H locs e14 hP hD hS => ?_)
  have e14 : am14 0 = h0 := e14.trans e13
  have hl0 : ls[0]? = some (.val (.ref (am14 0))) := by rw [e14]; exact lv_at hl 0 rfl
  refine minit_int hx hb hown hts hin hK hA 15 (by decide) rfl hP hD hS hl0 d_M_init_124 d_M_init_125 d_M_init_127 d_M_init_129 (by decide) mf_M_55 (by decide) (by decide) (fun am15 H locs e15 hP hD hS => ?_)
  have e15 : am15 0 = h0 := e15.trans e14
  have hl0 : ls[0]? = some (.val (.ref (am15 0))) := by rw [e15]; exact lv_at hl 0 rfl
  refine minit_int hx hb hown hts hin hK hA 16 (by decide) rfl hP hD hS hl0 d_M_init_132 d_M_init_133 d_M_init_135 d_M_init_137 (by decide) mf_M_58 (by decide) (by decide) (fun am16 H locs e16 hP hD hS => ?_)
  have e16 : am16 0 = h0 := e16.trans e15
  have hl0 : ls[0]? = some (.val (.ref (am16 0))) := by rw [e16]; exact lv_at hl 0 rfl
  refine minit_int hx hb hown hts hin hK hA 17 (by decide) rfl hP hD hS hl0 d_M_init_140 d_M_init_141 d_M_init_143 d_M_init_145 (by decide) mf_M_61 (by decide) (by decide) (fun am17 H locs e17 hP hD hS => ?_)
  have e17 : am17 0 = h0 := e17.trans e16
  have hl0 : ls[0]? = some (.val (.ref (am17 0))) := by rw [e17]; exact lv_at hl 0 rfl
  refine minit_int hx hb hown hts hin hK hA 18 (by decide) rfl hP hD hS hl0 d_M_init_148 d_M_init_149 d_M_init_151 d_M_init_153 (by decide) mf_M_64 (by decide) (by decide) (fun am18 H locs e18 hP hD hS => ?_)
  have e18 : am18 0 = h0 := e18.trans e17
  have hl0 : ls[0]? = some (.val (.ref (am18 0))) := by rw [e18]; exact lv_at hl 0 rfl
  refine minit_int hx hb hown hts hin hK hA 19 (by decide) rfl hP hD hS hl0 d_M_init_156 d_M_init_157 d_M_init_159 d_M_init_161 (by decide) mf_M_67 (by decide) (by decide) (fun am19 H locs e19 hP hD hS => ?_)
  have e19 : am19 0 = h0 := e19.trans e18
  have hl0 : ls[0]? = some (.val (.ref (am19 0))) := by rw [e19]; exact lv_at hl 0 rfl
  refine minit_boolean hx hb hown hts hin hK hA 20 (by decide) rfl hP hD hS hl0 d_M_init_164 d_M_init_165 d_M_init_167 d_M_init_169 (by decide) mf_M_70 (by decide) (by decide) (fun am20 H locs e20 hP hD hS => ?_)
  have e20 : am20 0 = h0 := e20.trans e19
  have hl0 : ls[0]? = some (.val (.ref (am20 0))) := by rw [e20]; exact lv_at hl 0 rfl
  refine minit_int hx hb hown hts hin hK hA 21 (by decide) rfl hP hD hS hl0 d_M_init_172 d_M_init_173 d_M_init_175 d_M_init_177 (by decide) mf_M_74 (by decide) (by decide) (fun am21 H locs e21 hP hD hS => ?_)
  have e21 : am21 0 = h0 := e21.trans e20
  have hl0 : ls[0]? = some (.val (.ref (am21 0))) := by rw [e21]; exact lv_at hl 0 rfl
  refine minit_int hx hb hown hts hin hK hA 22 (by decide) rfl hP hD hS hl0 d_M_init_180 d_M_init_181 d_M_init_183 d_M_init_185 (by decide) mf_M_77 (by decide) (by decide) (fun am22 H locs e22 hP hD hS => ?_)
  have e22 : am22 0 = h0 := e22.trans e21
  have hl0 : ls[0]? = some (.val (.ref (am22 0))) := by rw [e22]; exact lv_at hl 0 rfl
  refine minit_int hx hb hown hts hin hK hA 23 (by decide) rfl hP hD hS hl0 d_M_init_188 d_M_init_189 d_M_init_191 d_M_init_193 (by decide) mf_M_80 (by decide) (by decide) (fun am23 H locs e23 hP hD hS => ?_)
  have e23 : am23 0 = h0 := e23.trans e22
  have hl0 : ls[0]? = some (.val (.ref (am23 0))) := by rw [e23]; exact lv_at hl 0 rfl
  refine minit_boolean hx hb hown hts hin hK hA 24 (by decide) rfl hP hD hS hl0 d_M_init_196 d_M_init_197 d_M_init_199 d_M_init_201 (by decide) mf_M_83 (by decide) (by decide) (fun am24 H locs e24 hP hD hS => ?_)
  have e24 : am24 0 = h0 := e24.trans e23
  have hl0 : ls[0]? = some (.val (.ref (am24 0))) := by rw [e24]; exact lv_at hl 0 rfl
  refine minit_int hx hb hown hts hin hK hA 25 (by decide) rfl hP hD hS hl0 d_M_init_204 d_M_init_205 d_M_init_207 d_M_init_209 (by decide) mf_M_86 (by decide) (by decide) (fun am25 H locs e25 hP hD hS => ?_)
  have e25 : am25 0 = h0 := e25.trans e24
  have hl0 : ls[0]? = some (.val (.ref (am25 0))) := by rw [e25]; exact lv_at hl 0 rfl
  refine minit_boolean hx hb hown hts hin hK hA 26 (by decide) rfl hP hD hS hl0 d_M_init_212 d_M_init_213 d_M_init_215 d_M_init_217 (by decide) mf_M_89 (by decide) (by decide) (fun am26 H locs e26 hP hD hS => ?_)
  have e26 : am26 0 = h0 := e26.trans e25
  have hl0 : ls[0]? = some (.val (.ref (am26 0))) := by rw [e26]; exact lv_at hl 0 rfl
  refine W.cs (cells' := 27) (slots' := 734) rfl rfl ?_
  exact W.vret hx hb hr (fun t ht hW => ⟨⟨am26, rfl, ⟨e26, hD⟩, va_K.moved hW.alike hK, by rw [ht]; exact zP_congr hP (fun i hi => by cases i with | zero => rfl | succ i => rfl)⟩, hS.F ht⟩) hS.2.2 d_M_init_220
