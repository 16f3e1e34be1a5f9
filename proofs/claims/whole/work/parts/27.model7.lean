/-! the model's hashed, joined, accepts, isAccepted, verify, challenge -/
def hs1 (ar : Nat → Nat → Nat) (n p h : Nat) : Nat := if 0 < ar 11 (2 * n + p) then 31 * (31 * (31 * h + ar 11 (2 * n + p)) + ar 12 (2 * n + p)) + ar 14 (2 * n + p) else h
def hs (ar : Nat → Nat → Nat) : Nat → Nat
  | 0 => 17
  | n + 1 => hs1 ar n 1 (hs1 ar n 0 (hs ar n))
def hsv (ar : Nat → Nat → Nat) : Nat := hs ar (ar 0 2) % 2147483648 % 5003
theorem hs1_t {ar : Nat → Nat → Nat} {n p h : Nat} (q : 0 < ar 11 (2 * n + p)) : hs1 ar n p h = 31 * (31 * (31 * h + ar 11 (2 * n + p)) + ar 12 (2 * n + p)) + ar 14 (2 * n + p) := if_pos q
theorem hs1_f {ar : Nat → Nat → Nat} {n p h : Nat} (q : ¬ 0 < ar 11 (2 * n + p)) : hs1 ar n p h = h := if_neg q
theorem zn_and (h : Nat) : nI h &&& 2147483647 = nI (h % 2147483648) := by
  rw [pk_and (nI h) (m := 2147483647) 31 (by decide), zn_tn]
  exact congrArg nI (Nat.mod_mod_of_dvd h (by decide))
def vv (ar : Nat → Nat → Nat) (cr : Nat) (h : Nat → Nat) (k : Nat) : Nat := if ar 7 k = 0 then ar cr (ar 10 k) else if h (ar 8 k) < 2147483648 ∧ h (ar 9 k) < 2147483648 then (if ar 7 k = 2 then (h (ar 8 k) + h (ar 9 k)) % 5003 else if h (ar 8 k) = h (ar 9 k) then h (ar 8 k) else 4294967295) else 4294967295
def vOK (ar : Nat → Nat → Nat) (cr : Nat) (h : Nat → Nat) (N : Nat) : Prop := ∀ k, k < N → h k = vv ar cr h k
theorem vv_cg {ar : Nat → Nat → Nat} {cr : Nat} {h g : Nat → Nat} {k : Nat} (hc : ar 7 k ≠ 0 → ar 8 k < k ∧ ar 9 k < k) (hg : ∀ i, i < k → g i = h i) : vv ar cr g k = vv ar cr h k := by
  unfold vv
  by_cases h0 : ar 7 k = 0
  · rw [if_pos h0, if_pos h0]
  · rw [hg _ (hc h0).1, hg _ (hc h0).2]
theorem vOK_s {ar : Nat → Nat → Nat} {cr : Nat} {h : Nat → Nat} {k v : Nat} (hk : vOK ar cr h k) (hT : tT ar) (hN : k < ar 0 1) (hv : v = vv ar cr h k) : vOK ar cr (va_up h k v) (k + 1) := by
  intro i hi
  have hcg : vv ar cr (va_up h k v) i = vv ar cr h i := vv_cg (fun z => (hT.2.2 i (by omega)).2.2 z) (fun q hq => va_up_ne _ _ (by omega))
  rw [hcg]
  by_cases e : i = k
  · subst e; rw [va_up_self, hv]
  · rw [va_up_ne _ _ e, hk i (by omega)]
def vB (h : Nat → Nat) (N : Nat) : Prop := ∀ i, i < N → h i < 5003 ∨ h i = 4294967295
theorem vB_s {h : Nat → Nat} {k v : Nat} (hh : vB h k) (hv : v < 5003 ∨ v = 4294967295) : vB (va_up h k v) (k + 1) := by
  intro i hi
  by_cases e : i = k
  · subst e; rw [va_up_self]; exact hv
  · rw [va_up_ne _ _ e]; exact hh i (by omega)
def cR (old : Bool) : Nat := if old then 18 else 15
def rR (old : Bool) : Nat := if old then 19 else 16
def mR (old : Bool) : Nat := if old then 17 else 14
def acP (ar : Nat → Nat → Nat) (old : Bool) (n p : Nat) : Bool := !decide (0 < ar 11 (2 * n + p)) || decide (ar 11 (2 * n + p) ^ ar (rR old) n % 10007 = ar (mR old) (2 * n + p) * (ar 12 (2 * n + p) ^ ar (cR old) n % 10007) % 10007)
def acB (ar : Nat → Nat → Nat) (old : Bool) (n : Nat) : Bool := acP ar old n 0 && acP ar old n 1
def acAll (ar : Nat → Nat → Nat) (old : Bool) : Nat → Bool
  | 0 => true
  | n + 1 => acAll ar old n && acB ar old n
theorem acP_n {ar : Nat → Nat → Nat} {old : Bool} {n p : Nat} (q : ¬ 0 < ar 11 (2 * n + p)) : acP ar old n p = true := by
  unfold acP; rw [decide_eq_false q]; rfl
theorem acP_e {ar : Nat → Nat → Nat} {old : Bool} {n p : Nat} (e : ar 11 (2 * n + p) ^ ar (rR old) n % 10007 = ar (mR old) (2 * n + p) * (ar 12 (2 * n + p) ^ ar (cR old) n % 10007) % 10007) : acP ar old n p = true := by
  unfold acP; rw [decide_eq_true e, Bool.or_true]
theorem acP_f {ar : Nat → Nat → Nat} {old : Bool} {n p : Nat} (q : 0 < ar 11 (2 * n + p)) (e : ¬ ar 11 (2 * n + p) ^ ar (rR old) n % 10007 = ar (mR old) (2 * n + p) * (ar 12 (2 * n + p) ^ ar (cR old) n % 10007) % 10007) : acP ar old n p = false := by
  unfold acP; rw [decide_eq_true q, decide_eq_false e]; rfl
/-- the transcripts' numbers are in range -/
def tN (ar : Nat → Nat → Nat) : Prop := (∀ i, i < 16 → ar 14 i < 10007 ∧ ar 17 i < 10007) ∧ ∀ i, i < 8 → ar 15 i < 5003 ∧ ar 16 i < 5003 ∧ ar 18 i < 5003 ∧ ar 19 i < 5003
theorem zn_eqm {a b : Nat} : nI (a % 10007) = nI (b % 10007) ↔ a % 10007 = b % 10007 := zn_inj (Nat.lt_trans (Nat.mod_lt _ (by decide)) (by decide)) (Nat.lt_trans (Nat.mod_lt _ (by decide)) (by decide))

theorem d_M_hashed_0 : decode c_M_hashed 0 = .ok (.bipush 17, 2) := by decide +kernel
theorem d_M_hashed_2 : decode c_M_hashed 2 = .ok (.istore_n 1, 1) := by decide +kernel
theorem d_M_hashed_3 : decode c_M_hashed 3 = .ok (.iconst 0, 1) := by decide +kernel
theorem d_M_hashed_4 : decode c_M_hashed 4 = .ok (.istore_n 2, 1) := by decide +kernel
theorem d_M_hashed_5 : decode c_M_hashed 5 = .ok (.iload_n 2, 1) := by decide +kernel
theorem d_M_hashed_6 : decode c_M_hashed 6 = .ok (.aload_n 0, 1) := by decide +kernel
theorem d_M_hashed_7 : decode c_M_hashed 7 = .ok (.getfield 125, 3) := by decide +kernel
theorem d_M_hashed_10 : decode c_M_hashed 10 = .ok (.if_icmp .ge 79, 3) := by decide +kernel
theorem d_M_hashed_13 : decode c_M_hashed 13 = .ok (.iconst 0, 1) := by decide +kernel
theorem d_M_hashed_14 : decode c_M_hashed 14 = .ok (.istore_n 3, 1) := by decide +kernel
theorem d_M_hashed_15 : decode c_M_hashed 15 = .ok (.iload_n 3, 1) := by decide +kernel
theorem d_M_hashed_16 : decode c_M_hashed 16 = .ok (.iconst 2, 1) := by decide +kernel
theorem d_M_hashed_17 : decode c_M_hashed 17 = .ok (.if_icmp .ge 66, 3) := by decide +kernel
theorem d_M_hashed_20 : decode c_M_hashed 20 = .ok (.aload_n 0, 1) := by decide +kernel
theorem d_M_hashed_21 : decode c_M_hashed 21 = .ok (.iload_n 2, 1) := by decide +kernel
theorem d_M_hashed_22 : decode c_M_hashed 22 = .ok (.iload_n 3, 1) := by decide +kernel
theorem d_M_hashed_23 : decode c_M_hashed 23 = .ok (.invokevirtual 138, 3) := by decide +kernel
theorem d_M_hashed_26 : decode c_M_hashed 26 = .ok (.ifCond .eq 51, 3) := by decide +kernel
theorem d_M_hashed_29 : decode c_M_hashed 29 = .ok (.bipush 31, 2) := by decide +kernel
theorem d_M_hashed_31 : decode c_M_hashed 31 = .ok (.iload_n 1, 1) := by decide +kernel
theorem d_M_hashed_32 : decode c_M_hashed 32 = .ok (.imul, 1) := by decide +kernel
theorem d_M_hashed_33 : decode c_M_hashed 33 = .ok (.aload_n 0, 1) := by decide +kernel
theorem d_M_hashed_34 : decode c_M_hashed 34 = .ok (.getfield 40, 3) := by decide +kernel
theorem d_M_hashed_37 : decode c_M_hashed 37 = .ok (.iconst 2, 1) := by decide +kernel
theorem d_M_hashed_38 : decode c_M_hashed 38 = .ok (.iload_n 2, 1) := by decide +kernel
theorem d_M_hashed_39 : decode c_M_hashed 39 = .ok (.imul, 1) := by decide +kernel
theorem d_M_hashed_40 : decode c_M_hashed 40 = .ok (.iload_n 3, 1) := by decide +kernel
theorem d_M_hashed_41 : decode c_M_hashed 41 = .ok (.iadd, 1) := by decide +kernel
theorem d_M_hashed_42 : decode c_M_hashed 42 = .ok (.iaload, 1) := by decide +kernel
theorem d_M_hashed_43 : decode c_M_hashed 43 = .ok (.iadd, 1) := by decide +kernel
theorem d_M_hashed_44 : decode c_M_hashed 44 = .ok (.istore_n 1, 1) := by decide +kernel
theorem d_M_hashed_45 : decode c_M_hashed 45 = .ok (.bipush 31, 2) := by decide +kernel
theorem d_M_hashed_47 : decode c_M_hashed 47 = .ok (.iload_n 1, 1) := by decide +kernel
theorem d_M_hashed_48 : decode c_M_hashed 48 = .ok (.imul, 1) := by decide +kernel
theorem d_M_hashed_49 : decode c_M_hashed 49 = .ok (.aload_n 0, 1) := by decide +kernel
theorem d_M_hashed_50 : decode c_M_hashed 50 = .ok (.getfield 43, 3) := by decide +kernel
theorem d_M_hashed_53 : decode c_M_hashed 53 = .ok (.iconst 2, 1) := by decide +kernel
theorem d_M_hashed_54 : decode c_M_hashed 54 = .ok (.iload_n 2, 1) := by decide +kernel
theorem d_M_hashed_55 : decode c_M_hashed 55 = .ok (.imul, 1) := by decide +kernel
theorem d_M_hashed_56 : decode c_M_hashed 56 = .ok (.iload_n 3, 1) := by decide +kernel
theorem d_M_hashed_57 : decode c_M_hashed 57 = .ok (.iadd, 1) := by decide +kernel
theorem d_M_hashed_58 : decode c_M_hashed 58 = .ok (.iaload, 1) := by decide +kernel
theorem d_M_hashed_59 : decode c_M_hashed 59 = .ok (.iadd, 1) := by decide +kernel
theorem d_M_hashed_60 : decode c_M_hashed 60 = .ok (.istore_n 1, 1) := by decide +kernel
theorem d_M_hashed_61 : decode c_M_hashed 61 = .ok (.bipush 31, 2) := by decide +kernel
theorem d_M_hashed_63 : decode c_M_hashed 63 = .ok (.iload_n 1, 1) := by decide +kernel
theorem d_M_hashed_64 : decode c_M_hashed 64 = .ok (.imul, 1) := by decide +kernel
theorem d_M_hashed_65 : decode c_M_hashed 65 = .ok (.aload_n 0, 1) := by decide +kernel
theorem d_M_hashed_66 : decode c_M_hashed 66 = .ok (.getfield 49, 3) := by decide +kernel
theorem d_M_hashed_69 : decode c_M_hashed 69 = .ok (.iconst 2, 1) := by decide +kernel
theorem d_M_hashed_70 : decode c_M_hashed 70 = .ok (.iload_n 2, 1) := by decide +kernel
theorem d_M_hashed_71 : decode c_M_hashed 71 = .ok (.imul, 1) := by decide +kernel
theorem d_M_hashed_72 : decode c_M_hashed 72 = .ok (.iload_n 3, 1) := by decide +kernel
theorem d_M_hashed_73 : decode c_M_hashed 73 = .ok (.iadd, 1) := by decide +kernel
theorem d_M_hashed_74 : decode c_M_hashed 74 = .ok (.iaload, 1) := by decide +kernel
theorem d_M_hashed_75 : decode c_M_hashed 75 = .ok (.iadd, 1) := by decide +kernel
theorem d_M_hashed_76 : decode c_M_hashed 76 = .ok (.istore_n 1, 1) := by decide +kernel
theorem d_M_hashed_77 : decode c_M_hashed 77 = .ok (.iinc 3 1, 3) := by decide +kernel
theorem d_M_hashed_80 : decode c_M_hashed 80 = .ok (.goto (-65), 3) := by decide +kernel
theorem d_M_hashed_83 : decode c_M_hashed 83 = .ok (.iinc 2 1, 3) := by decide +kernel
theorem d_M_hashed_86 : decode c_M_hashed 86 = .ok (.goto (-81), 3) := by decide +kernel
theorem d_M_hashed_89 : decode c_M_hashed 89 = .ok (.iload_n 1, 1) := by decide +kernel
theorem d_M_hashed_90 : decode c_M_hashed 90 = .ok (.ldc 181, 2) := by decide +kernel
theorem d_M_hashed_92 : decode c_M_hashed 92 = .ok (.iand, 1) := by decide +kernel
theorem d_M_hashed_93 : decode c_M_hashed 93 = .ok (.sipush 5003, 3) := by decide +kernel
theorem d_M_hashed_96 : decode c_M_hashed 96 = .ok (.irem, 1) := by decide +kernel
theorem d_M_hashed_97 : decode c_M_hashed 97 = .ok (.ireturn, 1) := by decide +kernel

section MH
variable {p : Program} {l : Launch} {e : Env} {R : Room} {s : State} {m : MethodId} {args : Array Value} {below : List Frame} {meth : Method} {c : Code} {H0 : Heap} {cells slots : Nat} {Q : State → Prop} {A : Nat → Prop} {D : va_G} {ca : Nat → ClassId} {am : Nat → Nat} {ar : Nat → Nat → Nat}
set_option maxHeartbeats 4000000 in
set_option maxRecDepth 100000 in
theorem hashed_loop (hx : p.tables.exec = Jvm.exec) (hb : c.code = c_M_hashed) (hml : c.maxLocals = 4) (hown : s.vm.findClass R_M = some m.cls) (hts : ∀ w ∈ zT, w.before args s = true) (hK : va_K D zC (zty ca) s) (hD : zD A 28 am) (hI : mI am) (hAA : ∀ q, mA am q → A q) (hRf : 3 ≤ R.frames) (hRl : 120 ≤ R.locals) (hc : cells ≤ R.cells) (hsl : slots ≤ R.slots) (hl2 : ar 0 2 ≤ 8) (hbs : ∀ i, i < 16 → ar 11 i < 10007) {H : Heap} {locs : List Loc} (hP : va_P D zC (zl 28 am (mct ca am (ar))) H) (kk : ∀ (ls : Array Slot), lv_has ls 4 [(1, .int (nI (hs ar (ar 0 2)))), (0, .ref (am 0))] → W p l e R s m args below meth c H locs cells slots Q (F0 m 89 ls [])) : ∀ (j k : Nat), k + j = ar 0 2 → ∀ (ls : Array Slot), lv_has ls 4 [(2, .int (nI k)), (1, .int (nI (hs ar k))), (0, .ref (am 0))] → W p l e R s m args below meth c H locs cells slots Q (F0 m 5 ls []) := by
  intro j
  induction j with
  | zero =>
    intro k hk ls hl
    obtain rfl : k = ar 0 2 := by omega
    refine lv_iload_n hx hb d_M_hashed_5 rfl (lv_at hl 0 rfl) ?_
    refine lv_aload_n hx hb d_M_hashed_6 rfl (lv_at hl 2 rfl) ?_
    refine mm_get hx hb hts hown hK hP (index := 125) 29 (by decide) mf_M_125 (v := .int (nI (ar 0 2))) rfl d_M_hashed_7 ?_
    refine lv_icmp_ge (tgt := 89) hx hb d_M_hashed_10 rfl (fun h10 => ?_) (fun h10 => absurd (Int32.le_refl _) h10)
    have hl := lv_sub (l' := [(1, .int (nI (hs ar (ar 0 2)))), (0, .ref (am 0))]) hl [1, 2] rfl
    exact kk ls hl
  | succ j ih =>
    intro k hk ls hl
    have hN : k < ar 0 2 := by omega
    refine lv_iload_n hx hb d_M_hashed_5 rfl (lv_at hl 0 rfl) ?_
    refine lv_aload_n hx hb d_M_hashed_6 rfl (lv_at hl 2 rfl) ?_
    refine mm_get hx hb hts hown hK hP (index := 125) 29 (by decide) mf_M_125 (v := .int (nI (ar 0 2))) rfl d_M_hashed_7 ?_
    refine lv_icmp_ge (tgt := 89) hx hb d_M_hashed_10 rfl (fun h10 => absurd h10 (nI_ge hN (by omega))) (fun h10 => ?_)
    refine lv_iconst (v := 0) hx hb d_M_hashed_13 rfl ?_
    refine lv_istore_n (lv' := [(3, .int 0), (2, .int (nI k)), (1, .int (nI (hs ar k))), (0, .ref (am 0))]) hx hb d_M_hashed_14 rfl hl (by decide) rfl (fun ls hl => ?_)
    have hl : lv_has ls 4 [(3, .int 0), (2, .int (nI k)), (1, .int (nI (hs ar k))), (0, .ref (am 0))] := hl
    refine lv_iload_n hx hb d_M_hashed_15 rfl (lv_at hl 0 rfl) ?_
    refine lv_iconst (v := 2) hx hb d_M_hashed_16 rfl ?_
    refine lv_icmp_ge (tgt := 83) hx hb d_M_hashed_17 rfl (fun h17 => absurd h17 (by decide)) (fun h17 => ?_)
    refine lv_aload_n hx hb d_M_hashed_20 rfl (lv_at hl 3 rfl) ?_
    refine lv_iload_n hx hb d_M_hashed_21 rfl (lv_at hl 1 rfl) ?_
    refine lv_iload_n hx hb d_M_hashed_22 rfl (lv_at hl 0 rfl) ?_
    refine zz_cV (index := 138) (n := 2) (As := [.int (nI k), .int 0]) (rest := []) ⟨hx, hb, hml, hown, hts⟩ (k_isPairM l D ca am (ar) k 0 (by omega) (by decide) hl2 hbs) mk_M_138 mo_M_isPair me_M_M_isPair_M mi_M mc_M_isPair (by decide +kernel) ⟨rfl, rfl⟩ ⟨Nat.le_trans (by decide) hRf, Nat.le_trans (by decide) hRl⟩ (mm_pre hK hP) rfl hl.1 rfl (Nat.le_of_ble_eq_true rfl) d_M_hashed_23 ⟨hc, hsl⟩ ?_
    refine lv_if_eq (tgt := 77) hx hb d_M_hashed_26 rfl (fun h26 => ?_) (fun h26 => ?_)
    · skip
      have hp : ¬ 0 < ar 11 (2 * k + 0) := pairB_f hN (zb_eq (b := pairB ar k 0) h26)
      have hl : lv_has ls 4 [(3, .int 0), (2, .int (nI k)), (1, .int (nI (hs1 ar k 0 (hs ar k)))), (0, .ref (am 0))] := by rw [hs1_f hp]; exact hl
      refine lv_iinc (k := 0) (v := nI (0 + 1)) (lv' := [(3, .int (nI (0 + 1))), (2, .int (nI k)), (1, .int (nI (hs1 ar k 0 (hs ar k)))), (0, .ref (am 0))]) hx hb d_M_hashed_77 hl rfl (nI_1 _) (by decide) rfl (fun ls hl => ?_)
      refine lv_goto (tgt := 15) hx hb d_M_hashed_80 rfl ?_
      have hl : lv_has ls 4 [(3, .int 1), (2, .int (nI k)), (1, .int (nI (hs1 ar k 0 (hs ar k)))), (0, .ref (am 0))] := hl
      refine lv_iload_n hx hb d_M_hashed_15 rfl (lv_at hl 0 rfl) ?_
      refine lv_iconst (v := 2) hx hb d_M_hashed_16 rfl ?_
      refine lv_icmp_ge (tgt := 83) hx hb d_M_hashed_17 rfl (fun h17 => absurd h17 (by decide)) (fun h17 => ?_)
      refine lv_aload_n hx hb d_M_hashed_20 rfl (lv_at hl 3 rfl) ?_
      refine lv_iload_n hx hb d_M_hashed_21 rfl (lv_at hl 1 rfl) ?_
      refine lv_iload_n hx hb d_M_hashed_22 rfl (lv_at hl 0 rfl) ?_
      refine zz_cV (index := 138) (n := 2) (As := [.int (nI k), .int 1]) (rest := []) ⟨hx, hb, hml, hown, hts⟩ (k_isPairM l D ca am (ar) k 1 (by omega) (by decide) hl2 hbs) mk_M_138 mo_M_isPair me_M_M_isPair_M mi_M mc_M_isPair (by decide +kernel) ⟨rfl, rfl⟩ ⟨Nat.le_trans (by decide) hRf, Nat.le_trans (by decide) hRl⟩ (mm_pre hK hP) rfl hl.1 rfl (Nat.le_of_ble_eq_true rfl) d_M_hashed_23 ⟨hc, hsl⟩ ?_
      refine lv_if_eq (tgt := 77) hx hb d_M_hashed_26 rfl (fun h26 => ?_) (fun h26 => ?_)
      · skip
        have hp : ¬ 0 < ar 11 (2 * k + 1) := pairB_f hN (zb_eq (b := pairB ar k 1) h26)
        have hl : lv_has ls 4 [(3, .int 1), (2, .int (nI k)), (1, .int (nI (hs1 ar k 1 (hs1 ar k 0 (hs ar k))))), (0, .ref (am 0))] := by rw [hs1_f hp]; exact hl
        refine lv_iinc (k := 0) (v := nI (1 + 1)) (lv' := [(3, .int (nI (1 + 1))), (2, .int (nI k)), (1, .int (nI (hs1 ar k 1 (hs1 ar k 0 (hs ar k))))), (0, .ref (am 0))]) hx hb d_M_hashed_77 hl rfl (nI_1 _) (by decide) rfl (fun ls hl => ?_)
        refine lv_goto (tgt := 15) hx hb d_M_hashed_80 rfl ?_
        have hl : lv_has ls 4 [(3, .int 2), (2, .int (nI k)), (1, .int (nI (hs1 ar k 1 (hs1 ar k 0 (hs ar k))))), (0, .ref (am 0))] := hl
        refine lv_iload_n hx hb d_M_hashed_15 rfl (lv_at hl 0 rfl) ?_
        refine lv_iconst (v := 2) hx hb d_M_hashed_16 rfl ?_
        refine lv_icmp_ge (tgt := 83) hx hb d_M_hashed_17 rfl (fun h17 => ?_) (fun h17 => absurd (by decide) h17)
        refine lv_iinc (k := 1) (v := nI (k + 1)) (lv' := [(2, .int (nI (k + 1))), (3, .int 2), (1, .int (nI (hs1 ar k 1 (hs1 ar k 0 (hs ar k))))), (0, .ref (am 0))]) hx hb d_M_hashed_83 hl rfl (nI_1 _) (by decide) rfl (fun ls hl => ?_)
        refine lv_goto (tgt := 5) hx hb d_M_hashed_86 rfl ?_
        have hl := lv_sub (l' := [(2, .int (nI (k + 1))), (1, .int (nI (hs1 ar k 1 (hs1 ar k 0 (hs ar k))))), (0, .ref (am 0))]) hl [0, 2, 3] rfl
        exact ih (k + 1) (by omega) ls hl
      · skip
        have hp : 0 < ar 11 (2 * k + 1) := (pairB_t (zb_ne (b := pairB ar k 1) h26)).2
        refine lv_bipush (v := 31) hx hb d_M_hashed_29 rfl ?_
        refine lv_iload_n hx hb d_M_hashed_31 rfl (lv_at hl 2 rfl) ?_
        refine lv_imul hx hb d_M_hashed_32 ?_
        refine zz_as (y := nI (31 * (hs1 ar k 0 (hs ar k)))) (pk_mul 31 (hs1 ar k 0 (hs ar k))) ?_
        refine lv_aload_n hx hb d_M_hashed_33 rfl (lv_at hl 3 rfl) ?_
        refine mm_get hx hb hts hown hK hP (index := 40) 10 (by decide) mf_M_40 (v := .ref (am 11)) rfl d_M_hashed_34 ?_
        refine lv_iconst (v := 2) hx hb d_M_hashed_37 rfl ?_
        refine lv_iload_n hx hb d_M_hashed_38 rfl (lv_at hl 1 rfl) ?_
        refine lv_imul hx hb d_M_hashed_39 ?_
        refine zz_as (y := nI (2 * k)) (pk_mul 2 k) ?_
        refine lv_iload_n hx hb d_M_hashed_40 rfl (lv_at hl 0 rfl) ?_
        refine lv_iadd hx hb d_M_hashed_41 ?_
        refine zz_as (y := nI ((2 * k) + 1)) (nI_add (2 * k) 1) ?_
        refine mm_ald hx hb hK hP 10 (by decide) rfl ((2 * k) + 1) rfl (show (2 * k) + 1 < 16 from by omega) (ar 11 ((2 * k) + 1)) (rfl) d_M_hashed_42 ?_
        refine lv_iadd hx hb d_M_hashed_43 ?_
        refine zz_as (y := nI ((31 * (hs1 ar k 0 (hs ar k))) + (ar 11 ((2 * k) + 1)))) (nI_add (31 * (hs1 ar k 0 (hs ar k))) (ar 11 ((2 * k) + 1))) ?_
        refine lv_istore_n (lv' := [(1, .int (nI ((31 * (hs1 ar k 0 (hs ar k))) + (ar 11 ((2 * k) + 1))))), (3, .int 1), (2, .int (nI k)), (0, .ref (am 0))]) hx hb d_M_hashed_44 rfl hl (by decide) rfl (fun ls hl => ?_)
        refine lv_bipush (v := 31) hx hb d_M_hashed_45 rfl ?_
        refine lv_iload_n hx hb d_M_hashed_47 rfl (lv_at hl 0 rfl) ?_
        refine lv_imul hx hb d_M_hashed_48 ?_
        refine zz_as (y := nI (31 * ((31 * (hs1 ar k 0 (hs ar k))) + (ar 11 ((2 * k) + 1))))) (pk_mul 31 ((31 * (hs1 ar k 0 (hs ar k))) + (ar 11 ((2 * k) + 1)))) ?_
        refine lv_aload_n hx hb d_M_hashed_49 rfl (lv_at hl 3 rfl) ?_
        refine mm_get hx hb hts hown hK hP (index := 43) 11 (by decide) mf_M_43 (v := .ref (am 12)) rfl d_M_hashed_50 ?_
        refine lv_iconst (v := 2) hx hb d_M_hashed_53 rfl ?_
        refine lv_iload_n hx hb d_M_hashed_54 rfl (lv_at hl 2 rfl) ?_
        refine lv_imul hx hb d_M_hashed_55 ?_
        refine zz_as (y := nI (2 * k)) (pk_mul 2 k) ?_
        refine lv_iload_n hx hb d_M_hashed_56 rfl (lv_at hl 1 rfl) ?_
        refine lv_iadd hx hb d_M_hashed_57 ?_
        refine zz_as (y := nI ((2 * k) + 1)) (nI_add (2 * k) 1) ?_
        refine mm_ald hx hb hK hP 11 (by decide) rfl ((2 * k) + 1) rfl (show (2 * k) + 1 < 16 from by omega) (ar 12 ((2 * k) + 1)) (rfl) d_M_hashed_58 ?_
        refine lv_iadd hx hb d_M_hashed_59 ?_
        refine zz_as (y := nI ((31 * ((31 * (hs1 ar k 0 (hs ar k))) + (ar 11 ((2 * k) + 1)))) + (ar 12 ((2 * k) + 1)))) (nI_add (31 * ((31 * (hs1 ar k 0 (hs ar k))) + (ar 11 ((2 * k) + 1)))) (ar 12 ((2 * k) + 1))) ?_
        refine lv_istore_n (lv' := [(1, .int (nI ((31 * ((31 * (hs1 ar k 0 (hs ar k))) + (ar 11 ((2 * k) + 1)))) + (ar 12 ((2 * k) + 1))))), (3, .int 1), (2, .int (nI k)), (0, .ref (am 0))]) hx hb d_M_hashed_60 rfl hl (by decide) rfl (fun ls hl => ?_)
        refine lv_bipush (v := 31) hx hb d_M_hashed_61 rfl ?_
        refine lv_iload_n hx hb d_M_hashed_63 rfl (lv_at hl 0 rfl) ?_
        refine lv_imul hx hb d_M_hashed_64 ?_
        refine zz_as (y := nI (31 * ((31 * ((31 * (hs1 ar k 0 (hs ar k))) + (ar 11 ((2 * k) + 1)))) + (ar 12 ((2 * k) + 1))))) (pk_mul 31 ((31 * ((31 * (hs1 ar k 0 (hs ar k))) + (ar 11 ((2 * k) + 1)))) + (ar 12 ((2 * k) + 1)))) ?_
        refine lv_aload_n hx hb d_M_hashed_65 rfl (lv_at hl 3 rfl) ?_
        refine mm_get hx hb hts hown hK hP (index := 49) 13 (by decide) mf_M_49 (v := .ref (am 14)) rfl d_M_hashed_66 ?_
        refine lv_iconst (v := 2) hx hb d_M_hashed_69 rfl ?_
        refine lv_iload_n hx hb d_M_hashed_70 rfl (lv_at hl 2 rfl) ?_
        refine lv_imul hx hb d_M_hashed_71 ?_
        refine zz_as (y := nI (2 * k)) (pk_mul 2 k) ?_
        refine lv_iload_n hx hb d_M_hashed_72 rfl (lv_at hl 1 rfl) ?_
        refine lv_iadd hx hb d_M_hashed_73 ?_
        refine zz_as (y := nI ((2 * k) + 1)) (nI_add (2 * k) 1) ?_
        refine mm_ald hx hb hK hP 13 (by decide) rfl ((2 * k) + 1) rfl (show (2 * k) + 1 < 16 from by omega) (ar 14 ((2 * k) + 1)) (rfl) d_M_hashed_74 ?_
        refine lv_iadd hx hb d_M_hashed_75 ?_
        refine zz_as (y := nI ((31 * ((31 * ((31 * (hs1 ar k 0 (hs ar k))) + (ar 11 ((2 * k) + 1)))) + (ar 12 ((2 * k) + 1)))) + (ar 14 ((2 * k) + 1)))) (nI_add (31 * ((31 * ((31 * (hs1 ar k 0 (hs ar k))) + (ar 11 ((2 * k) + 1)))) + (ar 12 ((2 * k) + 1)))) (ar 14 ((2 * k) + 1))) ?_
        refine lv_istore_n (lv' := [(1, .int (nI ((31 * ((31 * ((31 * (hs1 ar k 0 (hs ar k))) + (ar 11 ((2 * k) + 1)))) + (ar 12 ((2 * k) + 1)))) + (ar 14 ((2 * k) + 1))))), (3, .int 1), (2, .int (nI k)), (0, .ref (am 0))]) hx hb d_M_hashed_76 rfl hl (by decide) rfl (fun ls hl => ?_)
        have hl : lv_has ls 4 [(1, .int (nI (hs1 ar k 1 (hs1 ar k 0 (hs ar k))))), (3, .int 1), (2, .int (nI k)), (0, .ref (am 0))] := by rw [hs1_t hp]; exact hl
        refine lv_iinc (k := 1) (v := nI (1 + 1)) (lv' := [(3, .int (nI (1 + 1))), (1, .int (nI (hs1 ar k 1 (hs1 ar k 0 (hs ar k))))), (2, .int (nI k)), (0, .ref (am 0))]) hx hb d_M_hashed_77 hl rfl (nI_1 _) (by decide) rfl (fun ls hl => ?_)
        refine lv_goto (tgt := 15) hx hb d_M_hashed_80 rfl ?_
        have hl : lv_has ls 4 [(3, .int 2), (1, .int (nI (hs1 ar k 1 (hs1 ar k 0 (hs ar k))))), (2, .int (nI k)), (0, .ref (am 0))] := hl
        refine lv_iload_n hx hb d_M_hashed_15 rfl (lv_at hl 0 rfl) ?_
        refine lv_iconst (v := 2) hx hb d_M_hashed_16 rfl ?_
        refine lv_icmp_ge (tgt := 83) hx hb d_M_hashed_17 rfl (fun h17 => ?_) (fun h17 => absurd (by decide) h17)
        refine lv_iinc (k := 2) (v := nI (k + 1)) (lv' := [(2, .int (nI (k + 1))), (3, .int 2), (1, .int (nI (hs1 ar k 1 (hs1 ar k 0 (hs ar k))))), (0, .ref (am 0))]) hx hb d_M_hashed_83 hl rfl (nI_1 _) (by decide) rfl (fun ls hl => ?_)
        refine lv_goto (tgt := 5) hx hb d_M_hashed_86 rfl ?_
        have hl := lv_sub (l' := [(2, .int (nI (k + 1))), (1, .int (nI (hs1 ar k 1 (hs1 ar k 0 (hs ar k))))), (0, .ref (am 0))]) hl [0, 2, 3] rfl
        exact ih (k + 1) (by omega) ls hl
    · skip
      have hp : 0 < ar 11 (2 * k + 0) := (pairB_t (zb_ne (b := pairB ar k 0) h26)).2
      refine lv_bipush (v := 31) hx hb d_M_hashed_29 rfl ?_
      refine lv_iload_n hx hb d_M_hashed_31 rfl (lv_at hl 2 rfl) ?_
      refine lv_imul hx hb d_M_hashed_32 ?_
      refine zz_as (y := nI (31 * (hs ar k))) (pk_mul 31 (hs ar k)) ?_
      refine lv_aload_n hx hb d_M_hashed_33 rfl (lv_at hl 3 rfl) ?_
      refine mm_get hx hb hts hown hK hP (index := 40) 10 (by decide) mf_M_40 (v := .ref (am 11)) rfl d_M_hashed_34 ?_
      refine lv_iconst (v := 2) hx hb d_M_hashed_37 rfl ?_
      refine lv_iload_n hx hb d_M_hashed_38 rfl (lv_at hl 1 rfl) ?_
      refine lv_imul hx hb d_M_hashed_39 ?_
      refine zz_as (y := nI (2 * k)) (pk_mul 2 k) ?_
      refine lv_iload_n hx hb d_M_hashed_40 rfl (lv_at hl 0 rfl) ?_
      refine lv_iadd hx hb d_M_hashed_41 ?_
      refine zz_as (y := nI ((2 * k) + 0)) (nI_add (2 * k) 0) ?_
      refine mm_ald hx hb hK hP 10 (by decide) rfl ((2 * k) + 0) rfl (show (2 * k) + 0 < 16 from by omega) (ar 11 ((2 * k) + 0)) (rfl) d_M_hashed_42 ?_
      refine lv_iadd hx hb d_M_hashed_43 ?_
      refine zz_as (y := nI ((31 * (hs ar k)) + (ar 11 ((2 * k) + 0)))) (nI_add (31 * (hs ar k)) (ar 11 ((2 * k) + 0))) ?_
      refine lv_istore_n (lv' := [(1, .int (nI ((31 * (hs ar k)) + (ar 11 ((2 * k) + 0))))), (3, .int 0), (2, .int (nI k)), (0, .ref (am 0))]) hx hb d_M_hashed_44 rfl hl (by decide) rfl (fun ls hl => ?_)
      refine lv_bipush (v := 31) hx hb d_M_hashed_45 rfl ?_
      refine lv_iload_n hx hb d_M_hashed_47 rfl (lv_at hl 0 rfl) ?_
      refine lv_imul hx hb d_M_hashed_48 ?_
      refine zz_as (y := nI (31 * ((31 * (hs ar k)) + (ar 11 ((2 * k) + 0))))) (pk_mul 31 ((31 * (hs ar k)) + (ar 11 ((2 * k) + 0)))) ?_
      refine lv_aload_n hx hb d_M_hashed_49 rfl (lv_at hl 3 rfl) ?_
      refine mm_get hx hb hts hown hK hP (index := 43) 11 (by decide) mf_M_43 (v := .ref (am 12)) rfl d_M_hashed_50 ?_
      refine lv_iconst (v := 2) hx hb d_M_hashed_53 rfl ?_
      refine lv_iload_n hx hb d_M_hashed_54 rfl (lv_at hl 2 rfl) ?_
      refine lv_imul hx hb d_M_hashed_55 ?_
      refine zz_as (y := nI (2 * k)) (pk_mul 2 k) ?_
      refine lv_iload_n hx hb d_M_hashed_56 rfl (lv_at hl 1 rfl) ?_
      refine lv_iadd hx hb d_M_hashed_57 ?_
      refine zz_as (y := nI ((2 * k) + 0)) (nI_add (2 * k) 0) ?_
      refine mm_ald hx hb hK hP 11 (by decide) rfl ((2 * k) + 0) rfl (show (2 * k) + 0 < 16 from by omega) (ar 12 ((2 * k) + 0)) (rfl) d_M_hashed_58 ?_
      refine lv_iadd hx hb d_M_hashed_59 ?_
      refine zz_as (y := nI ((31 * ((31 * (hs ar k)) + (ar 11 ((2 * k) + 0)))) + (ar 12 ((2 * k) + 0)))) (nI_add (31 * ((31 * (hs ar k)) + (ar 11 ((2 * k) + 0)))) (ar 12 ((2 * k) + 0))) ?_
      refine lv_istore_n (lv' := [(1, .int (nI ((31 * ((31 * (hs ar k)) + (ar 11 ((2 * k) + 0)))) + (ar 12 ((2 * k) + 0))))), (3, .int 0), (2, .int (nI k)), (0, .ref (am 0))]) hx hb d_M_hashed_60 rfl hl (by decide) rfl (fun ls hl => ?_)
      refine lv_bipush (v := 31) hx hb d_M_hashed_61 rfl ?_
      refine lv_iload_n hx hb d_M_hashed_63 rfl (lv_at hl 0 rfl) ?_
      refine lv_imul hx hb d_M_hashed_64 ?_
      refine zz_as (y := nI (31 * ((31 * ((31 * (hs ar k)) + (ar 11 ((2 * k) + 0)))) + (ar 12 ((2 * k) + 0))))) (pk_mul 31 ((31 * ((31 * (hs ar k)) + (ar 11 ((2 * k) + 0)))) + (ar 12 ((2 * k) + 0)))) ?_
      refine lv_aload_n hx hb d_M_hashed_65 rfl (lv_at hl 3 rfl) ?_
      refine mm_get hx hb hts hown hK hP (index := 49) 13 (by decide) mf_M_49 (v := .ref (am 14)) rfl d_M_hashed_66 ?_
      refine lv_iconst (v := 2) hx hb d_M_hashed_69 rfl ?_
      refine lv_iload_n hx hb d_M_hashed_70 rfl (lv_at hl 2 rfl) ?_
      refine lv_imul hx hb d_M_hashed_71 ?_
      refine zz_as (y := nI (2 * k)) (pk_mul 2 k) ?_
      refine lv_iload_n hx hb d_M_hashed_72 rfl (lv_at hl 1 rfl) ?_
      refine lv_iadd hx hb d_M_hashed_73 ?_
      refine zz_as (y := nI ((2 * k) + 0)) (nI_add (2 * k) 0) ?_
      refine mm_ald hx hb hK hP 13 (by decide) rfl ((2 * k) + 0) rfl (show (2 * k) + 0 < 16 from by omega) (ar 14 ((2 * k) + 0)) (rfl) d_M_hashed_74 ?_
      refine lv_iadd hx hb d_M_hashed_75 ?_
      refine zz_as (y := nI ((31 * ((31 * ((31 * (hs ar k)) + (ar 11 ((2 * k) + 0)))) + (ar 12 ((2 * k) + 0)))) + (ar 14 ((2 * k) + 0)))) (nI_add (31 * ((31 * ((31 * (hs ar k)) + (ar 11 ((2 * k) + 0)))) + (ar 12 ((2 * k) + 0)))) (ar 14 ((2 * k) + 0))) ?_
      refine lv_istore_n (lv' := [(1, .int (nI ((31 * ((31 * ((31 * (hs ar k)) + (ar 11 ((2 * k) + 0)))) + (ar 12 ((2 * k) + 0)))) + (ar 14 ((2 * k) + 0))))), (3, .int 0), (2, .int (nI k)), (0, .ref (am 0))]) hx hb d_M_hashed_76 rfl hl (by decide) rfl (fun ls hl => ?_)
      have hl : lv_has ls 4 [(1, .int (nI (hs1 ar k 0 (hs ar k)))), (3, .int 0), (2, .int (nI k)), (0, .ref (am 0))] := by rw [hs1_t hp]; exact hl
      refine lv_iinc (k := 1) (v := nI (0 + 1)) (lv' := [(3, .int (nI (0 + 1))), (1, .int (nI (hs1 ar k 0 (hs ar k)))), (2, .int (nI k)), (0, .ref (am 0))]) hx hb d_M_hashed_77 hl rfl (nI_1 _) (by decide) rfl (fun ls hl => ?_)
      refine lv_goto (tgt := 15) hx hb d_M_hashed_80 rfl ?_
      have hl : lv_has ls 4 [(3, .int 1), (1, .int (nI (hs1 ar k 0 (hs ar k)))), (2, .int (nI k)), (0, .ref (am 0))] := hl
      refine lv_iload_n hx hb d_M_hashed_15 rfl (lv_at hl 0 rfl) ?_
      refine lv_iconst (v := 2) hx hb d_M_hashed_16 rfl ?_
      refine lv_icmp_ge (tgt := 83) hx hb d_M_hashed_17 rfl (fun h17 => absurd h17 (by decide)) (fun h17 => ?_)
      refine lv_aload_n hx hb d_M_hashed_20 rfl (lv_at hl 3 rfl) ?_
      refine lv_iload_n hx hb d_M_hashed_21 rfl (lv_at hl 2 rfl) ?_
      refine lv_iload_n hx hb d_M_hashed_22 rfl (lv_at hl 0 rfl) ?_
      refine zz_cV (index := 138) (n := 2) (As := [.int (nI k), .int 1]) (rest := []) ⟨hx, hb, hml, hown, hts⟩ (k_isPairM l D ca am (ar) k 1 (by omega) (by decide) hl2 hbs) mk_M_138 mo_M_isPair me_M_M_isPair_M mi_M mc_M_isPair (by decide +kernel) ⟨rfl, rfl⟩ ⟨Nat.le_trans (by decide) hRf, Nat.le_trans (by decide) hRl⟩ (mm_pre hK hP) rfl hl.1 rfl (Nat.le_of_ble_eq_true rfl) d_M_hashed_23 ⟨hc, hsl⟩ ?_
      refine lv_if_eq (tgt := 77) hx hb d_M_hashed_26 rfl (fun h26 => ?_) (fun h26 => ?_)
      · skip
        have hp : ¬ 0 < ar 11 (2 * k + 1) := pairB_f hN (zb_eq (b := pairB ar k 1) h26)
        have hl : lv_has ls 4 [(3, .int 1), (1, .int (nI (hs1 ar k 1 (hs1 ar k 0 (hs ar k))))), (2, .int (nI k)), (0, .ref (am 0))] := by rw [hs1_f hp]; exact hl
        refine lv_iinc (k := 0) (v := nI (1 + 1)) (lv' := [(3, .int (nI (1 + 1))), (1, .int (nI (hs1 ar k 1 (hs1 ar k 0 (hs ar k))))), (2, .int (nI k)), (0, .ref (am 0))]) hx hb d_M_hashed_77 hl rfl (nI_1 _) (by decide) rfl (fun ls hl => ?_)
        refine lv_goto (tgt := 15) hx hb d_M_hashed_80 rfl ?_
        have hl : lv_has ls 4 [(3, .int 2), (1, .int (nI (hs1 ar k 1 (hs1 ar k 0 (hs ar k))))), (2, .int (nI k)), (0, .ref (am 0))] := hl
        refine lv_iload_n hx hb d_M_hashed_15 rfl (lv_at hl 0 rfl) ?_
        refine lv_iconst (v := 2) hx hb d_M_hashed_16 rfl ?_
        refine lv_icmp_ge (tgt := 83) hx hb d_M_hashed_17 rfl (fun h17 => ?_) (fun h17 => absurd (by decide) h17)
        refine lv_iinc (k := 2) (v := nI (k + 1)) (lv' := [(2, .int (nI (k + 1))), (3, .int 2), (1, .int (nI (hs1 ar k 1 (hs1 ar k 0 (hs ar k))))), (0, .ref (am 0))]) hx hb d_M_hashed_83 hl rfl (nI_1 _) (by decide) rfl (fun ls hl => ?_)
        refine lv_goto (tgt := 5) hx hb d_M_hashed_86 rfl ?_
        have hl := lv_sub (l' := [(2, .int (nI (k + 1))), (1, .int (nI (hs1 ar k 1 (hs1 ar k 0 (hs ar k))))), (0, .ref (am 0))]) hl [0, 2, 3] rfl
        exact ih (k + 1) (by omega) ls hl
      · skip
        have hp : 0 < ar 11 (2 * k + 1) := (pairB_t (zb_ne (b := pairB ar k 1) h26)).2
        refine lv_bipush (v := 31) hx hb d_M_hashed_29 rfl ?_
        refine lv_iload_n hx hb d_M_hashed_31 rfl (lv_at hl 1 rfl) ?_
        refine lv_imul hx hb d_M_hashed_32 ?_
        refine zz_as (y := nI (31 * (hs1 ar k 0 (hs ar k)))) (pk_mul 31 (hs1 ar k 0 (hs ar k))) ?_
        refine lv_aload_n hx hb d_M_hashed_33 rfl (lv_at hl 3 rfl) ?_
        refine mm_get hx hb hts hown hK hP (index := 40) 10 (by decide) mf_M_40 (v := .ref (am 11)) rfl d_M_hashed_34 ?_
        refine lv_iconst (v := 2) hx hb d_M_hashed_37 rfl ?_
        refine lv_iload_n hx hb d_M_hashed_38 rfl (lv_at hl 2 rfl) ?_
        refine lv_imul hx hb d_M_hashed_39 ?_
        refine zz_as (y := nI (2 * k)) (pk_mul 2 k) ?_
        refine lv_iload_n hx hb d_M_hashed_40 rfl (lv_at hl 0 rfl) ?_
        refine lv_iadd hx hb d_M_hashed_41 ?_
        refine zz_as (y := nI ((2 * k) + 1)) (nI_add (2 * k) 1) ?_
        refine mm_ald hx hb hK hP 10 (by decide) rfl ((2 * k) + 1) rfl (show (2 * k) + 1 < 16 from by omega) (ar 11 ((2 * k) + 1)) (rfl) d_M_hashed_42 ?_
        refine lv_iadd hx hb d_M_hashed_43 ?_
        refine zz_as (y := nI ((31 * (hs1 ar k 0 (hs ar k))) + (ar 11 ((2 * k) + 1)))) (nI_add (31 * (hs1 ar k 0 (hs ar k))) (ar 11 ((2 * k) + 1))) ?_
        refine lv_istore_n (lv' := [(1, .int (nI ((31 * (hs1 ar k 0 (hs ar k))) + (ar 11 ((2 * k) + 1))))), (3, .int 1), (2, .int (nI k)), (0, .ref (am 0))]) hx hb d_M_hashed_44 rfl hl (by decide) rfl (fun ls hl => ?_)
        refine lv_bipush (v := 31) hx hb d_M_hashed_45 rfl ?_
        refine lv_iload_n hx hb d_M_hashed_47 rfl (lv_at hl 0 rfl) ?_
        refine lv_imul hx hb d_M_hashed_48 ?_
        refine zz_as (y := nI (31 * ((31 * (hs1 ar k 0 (hs ar k))) + (ar 11 ((2 * k) + 1))))) (pk_mul 31 ((31 * (hs1 ar k 0 (hs ar k))) + (ar 11 ((2 * k) + 1)))) ?_
        refine lv_aload_n hx hb d_M_hashed_49 rfl (lv_at hl 3 rfl) ?_
        refine mm_get hx hb hts hown hK hP (index := 43) 11 (by decide) mf_M_43 (v := .ref (am 12)) rfl d_M_hashed_50 ?_
        refine lv_iconst (v := 2) hx hb d_M_hashed_53 rfl ?_
        refine lv_iload_n hx hb d_M_hashed_54 rfl (lv_at hl 2 rfl) ?_
        refine lv_imul hx hb d_M_hashed_55 ?_
        refine zz_as (y := nI (2 * k)) (pk_mul 2 k) ?_
        refine lv_iload_n hx hb d_M_hashed_56 rfl (lv_at hl 1 rfl) ?_
        refine lv_iadd hx hb d_M_hashed_57 ?_
        refine zz_as (y := nI ((2 * k) + 1)) (nI_add (2 * k) 1) ?_
        refine mm_ald hx hb hK hP 11 (by decide) rfl ((2 * k) + 1) rfl (show (2 * k) + 1 < 16 from by omega) (ar 12 ((2 * k) + 1)) (rfl) d_M_hashed_58 ?_
        refine lv_iadd hx hb d_M_hashed_59 ?_
        refine zz_as (y := nI ((31 * ((31 * (hs1 ar k 0 (hs ar k))) + (ar 11 ((2 * k) + 1)))) + (ar 12 ((2 * k) + 1)))) (nI_add (31 * ((31 * (hs1 ar k 0 (hs ar k))) + (ar 11 ((2 * k) + 1)))) (ar 12 ((2 * k) + 1))) ?_
        refine lv_istore_n (lv' := [(1, .int (nI ((31 * ((31 * (hs1 ar k 0 (hs ar k))) + (ar 11 ((2 * k) + 1)))) + (ar 12 ((2 * k) + 1))))), (3, .int 1), (2, .int (nI k)), (0, .ref (am 0))]) hx hb d_M_hashed_60 rfl hl (by decide) rfl (fun ls hl => ?_)
        refine lv_bipush (v := 31) hx hb d_M_hashed_61 rfl ?_
        refine lv_iload_n hx hb d_M_hashed_63 rfl (lv_at hl 0 rfl) ?_
        refine lv_imul hx hb d_M_hashed_64 ?_
        refine zz_as (y := nI (31 * ((31 * ((31 * (hs1 ar k 0 (hs ar k))) + (ar 11 ((2 * k) + 1)))) + (ar 12 ((2 * k) + 1))))) (pk_mul 31 ((31 * ((31 * (hs1 ar k 0 (hs ar k))) + (ar 11 ((2 * k) + 1)))) + (ar 12 ((2 * k) + 1)))) ?_
        refine lv_aload_n hx hb d_M_hashed_65 rfl (lv_at hl 3 rfl) ?_
        refine mm_get hx hb hts hown hK hP (index := 49) 13 (by decide) mf_M_49 (v := .ref (am 14)) rfl d_M_hashed_66 ?_
        refine lv_iconst (v := 2) hx hb d_M_hashed_69 rfl ?_
        refine lv_iload_n hx hb d_M_hashed_70 rfl (lv_at hl 2 rfl) ?_
        refine lv_imul hx hb d_M_hashed_71 ?_
        refine zz_as (y := nI (2 * k)) (pk_mul 2 k) ?_
        refine lv_iload_n hx hb d_M_hashed_72 rfl (lv_at hl 1 rfl) ?_
        refine lv_iadd hx hb d_M_hashed_73 ?_
        refine zz_as (y := nI ((2 * k) + 1)) (nI_add (2 * k) 1) ?_
        refine mm_ald hx hb hK hP 13 (by decide) rfl ((2 * k) + 1) rfl (show (2 * k) + 1 < 16 from by omega) (ar 14 ((2 * k) + 1)) (rfl) d_M_hashed_74 ?_
        refine lv_iadd hx hb d_M_hashed_75 ?_
        refine zz_as (y := nI ((31 * ((31 * ((31 * (hs1 ar k 0 (hs ar k))) + (ar 11 ((2 * k) + 1)))) + (ar 12 ((2 * k) + 1)))) + (ar 14 ((2 * k) + 1)))) (nI_add (31 * ((31 * ((31 * (hs1 ar k 0 (hs ar k))) + (ar 11 ((2 * k) + 1)))) + (ar 12 ((2 * k) + 1)))) (ar 14 ((2 * k) + 1))) ?_
        refine lv_istore_n (lv' := [(1, .int (nI ((31 * ((31 * ((31 * (hs1 ar k 0 (hs ar k))) + (ar 11 ((2 * k) + 1)))) + (ar 12 ((2 * k) + 1)))) + (ar 14 ((2 * k) + 1))))), (3, .int 1), (2, .int (nI k)), (0, .ref (am 0))]) hx hb d_M_hashed_76 rfl hl (by decide) rfl (fun ls hl => ?_)
        have hl : lv_has ls 4 [(1, .int (nI (hs1 ar k 1 (hs1 ar k 0 (hs ar k))))), (3, .int 1), (2, .int (nI k)), (0, .ref (am 0))] := by rw [hs1_t hp]; exact hl
        refine lv_iinc (k := 1) (v := nI (1 + 1)) (lv' := [(3, .int (nI (1 + 1))), (1, .int (nI (hs1 ar k 1 (hs1 ar k 0 (hs ar k))))), (2, .int (nI k)), (0, .ref (am 0))]) hx hb d_M_hashed_77 hl rfl (nI_1 _) (by decide) rfl (fun ls hl => ?_)
        refine lv_goto (tgt := 15) hx hb d_M_hashed_80 rfl ?_
        have hl : lv_has ls 4 [(3, .int 2), (1, .int (nI (hs1 ar k 1 (hs1 ar k 0 (hs ar k))))), (2, .int (nI k)), (0, .ref (am 0))] := hl
        refine lv_iload_n hx hb d_M_hashed_15 rfl (lv_at hl 0 rfl) ?_
        refine lv_iconst (v := 2) hx hb d_M_hashed_16 rfl ?_
        refine lv_icmp_ge (tgt := 83) hx hb d_M_hashed_17 rfl (fun h17 => ?_) (fun h17 => absurd (by decide) h17)
        refine lv_iinc (k := 2) (v := nI (k + 1)) (lv' := [(2, .int (nI (k + 1))), (3, .int 2), (1, .int (nI (hs1 ar k 1 (hs1 ar k 0 (hs ar k))))), (0, .ref (am 0))]) hx hb d_M_hashed_83 hl rfl (nI_1 _) (by decide) rfl (fun ls hl => ?_)
        refine lv_goto (tgt := 5) hx hb d_M_hashed_86 rfl ?_
        have hl := lv_sub (l' := [(2, .int (nI (k + 1))), (1, .int (nI (hs1 ar k 1 (hs1 ar k 0 (hs ar k))))), (0, .ref (am 0))]) hl [0, 2, 3] rfl
        exact ih (k + 1) (by omega) ls hl
end MH

set_option maxHeartbeats 4000000 in
set_option maxRecDepth 100000 in
/-- hashed() -/
theorem k_hashedM (l : Launch) (D : va_G) (ca : Nat → ClassId) (am : Nat → Nat) (ar : Nat → Nat → Nat) (hI : mI am) (hl2 : ar 0 2 ≤ 8) (hbs : ∀ i, i < 16 → ar 11 i < 10007) : Met l y_M_hashed (Cond.code y_M_hashed c_M_hashed 4 (some .int) :: zT) ({ frames := 3, cells := 0, slots := 0, locals := 120 }) (va_Pc [.ref (am 0)] (mw D ca am ar)) (QcRead (nI (hsv ar))) 0 0 (fun _ => False) := by
  refine Met.ofW (cc := c_M_hashed) (maxL := 4) (ret := (some .int)) (by decide) rfl ?_
  intro p e s m args below meth c s₁ B hml hv
  obtain ⟨rfl, hK, hP⟩ := hv
  have hx := B.exec
  have hb := B.bytes
  have hr := B.returns
  have hts0 := atoms_spec (ws := Cond.code y_M_hashed c_M_hashed 4 (some .int) :: zT) B.pre
  have hts := fun w h => hts0 w (List.mem_cons_of_mem _ h)
  have hown : s.vm.findClass R_M = some m.cls := findClass_of_methodNamed B.named
  have hlocks := B.notSynchronized
  have hl := lv_entry ([.ref (am 0)]) (n := 4) (Nat.le_of_ble_eq_true rfl)
  rw [lg_entry_eq]
  generalize (lg_sl ([.ref (am 0)]) ++ List.replicate (4 - (lg_sl ([.ref (am 0)])).length) Slot.unset).toArray = ls at hl ⊢
  have hl : lv_has ls 4 [(0, .ref (am 0))] := hl
  refine lv_bipush (v := 17) hx hb d_M_hashed_0 rfl ?_
  refine lv_istore_n (lv' := [(1, .int 17), (0, .ref (am 0))]) hx hb d_M_hashed_2 rfl hl (by decide) rfl (fun ls hl => ?_)
  refine lv_iconst (v := 0) hx hb d_M_hashed_3 rfl ?_
  refine lv_istore_n (lv' := [(2, .int 0), (1, .int 17), (0, .ref (am 0))]) hx hb d_M_hashed_4 rfl hl (by decide) rfl (fun ls hl => ?_)
  have hl : lv_has ls 4 [(2, .int (nI 0)), (1, .int (nI (hs ar 0))), (0, .ref (am 0))] := hl
  refine hashed_loop hx hb hml hown hts hK (mI_D hI) hI (fun _ q => q) (by decide) (by decide) (Nat.zero_le _) (Nat.zero_le _) hl2 hbs hP (fun ls hl => ?_) (ar 0 2) 0 (Nat.zero_add _) ls hl
  refine lv_iload_n hx hb d_M_hashed_89 rfl (lv_at hl 0 rfl) ?_
  refine lv_ldc (v := 2147483647) hx hb hown (hts _ mn_M_181) d_M_hashed_90 ?_
  refine lv_iand hx hb d_M_hashed_92 ?_
  refine zz_as (y := nI (hs ar (ar 0 2) % 2147483648)) (zn_and _) ?_
  refine lv_sipush (v := 5003) hx hb d_M_hashed_93 rfl ?_
  refine lv_irem hx hb d_M_hashed_96 (by decide) ?_
  refine zz_as (y := nI (hsv ar)) (pk_rem (d := 5003) (Nat.mod_lt _ (by decide)) (by decide) (by decide)) ?_
  exact W.iret hx hb hr (fun t ht hW => ⟨rfl, ht⟩) (fun q h => absurd h List.not_mem_nil) d_M_hashed_97

theorem d_M_hash_0 : decode c_M_hash 0 = .ok (.aload_n 0, 1) := by decide +kernel
theorem d_M_hash_1 : decode c_M_hash 1 = .ok (.getfield 122, 3) := by decide +kernel
theorem d_M_hash_4 : decode c_M_hash 4 = .ok (.ifCond .ne 8, 3) := by decide +kernel
theorem d_M_hash_7 : decode c_M_hash 7 = .ok (.bipush (-2), 2) := by decide +kernel
theorem d_M_hash_9 : decode c_M_hash 9 = .ok (.goto 7, 3) := by decide +kernel
theorem d_M_hash_12 : decode c_M_hash 12 = .ok (.aload_n 0, 1) := by decide +kernel
theorem d_M_hash_13 : decode c_M_hash 13 = .ok (.invokevirtual 186, 3) := by decide +kernel
theorem d_M_hash_16 : decode c_M_hash 16 = .ok (.ireturn, 1) := by decide +kernel

set_option maxHeartbeats 4000000 in
set_option maxRecDepth 100000 in
/-- hash() -/
theorem k_hashM (l : Launch) (D : va_G) (ca : Nat → ClassId) (am : Nat → Nat) (ar : Nat → Nat → Nat) (hI : mI am) (hs1 : ar 0 1 ≤ 15) (hl2 : ar 0 2 ≤ 8) (hbs : ∀ i, i < 16 → ar 11 i < 10007) : Met l y_M_hash (Cond.code y_M_hash c_M_hash 1 (some .int) :: zT) ({ frames := 4, cells := 0, slots := 0, locals := 160 }) (va_Pc [.ref (am 0)] (mw D ca am ar)) (QcRead (if ar 0 1 = 0 then -2 else nI (hsv ar))) 0 0 (fun _ => False) := by
  refine Met.ofW (cc := c_M_hash) (maxL := 1) (ret := (some .int)) (by decide) rfl ?_
  intro p e s m args below meth c s₁ B hml hv
  obtain ⟨rfl, hK, hP⟩ := hv
  have hx := B.exec
  have hb := B.bytes
  have hr := B.returns
  have hts0 := atoms_spec (ws := Cond.code y_M_hash c_M_hash 1 (some .int) :: zT) B.pre
  have hts := fun w h => hts0 w (List.mem_cons_of_mem _ h)
  have hown : s.vm.findClass R_M = some m.cls := findClass_of_methodNamed B.named
  have hlocks := B.notSynchronized
  have hl := lv_entry ([.ref (am 0)]) (n := 1) (Nat.le_of_ble_eq_true rfl)
  rw [lg_entry_eq]
  generalize (lg_sl ([.ref (am 0)]) ++ List.replicate (1 - (lg_sl ([.ref (am 0)])).length) Slot.unset).toArray = ls at hl ⊢
  have hl : lv_has ls 1 [(0, .ref (am 0))] := hl
  refine lv_aload_n hx hb d_M_hash_0 rfl (lv_at hl 0 rfl) ?_
  refine mm_get hx hb hts hown hK hP (index := 122) 28 (by decide) mf_M_122 (v := .int (nI (ar 0 1))) rfl d_M_hash_1 ?_
  refine lv_if_ne (tgt := 12) hx hb d_M_hash_4 rfl (fun h4 => ?_) (fun h4 => ?_)
  · skip
    have z : ¬ ar 0 1 = 0 := fun q => h4 (by rw [q]; rfl)
    have hq : (if ar 0 1 = 0 then -2 else nI (hsv ar)) = nI (hsv ar) := by rw [if_neg z]
    refine lv_aload_n hx hb d_M_hash_12 rfl (lv_at hl 0 rfl) ?_
    refine zz_cV (index := 186) (n := 0) (As := []) (rest := []) ⟨hx, hb, hml, hown, hts⟩ (k_hashedM l D ca am (ar) hI hl2 hbs) mk_M_186 mo_M_hashed me_M_M_hashed_M mi_M mc_M_hashed (by decide +kernel) ⟨rfl, rfl⟩ ⟨by decide, by decide⟩ (mm_pre hK hP) rfl hl.1 rfl (Nat.le_of_ble_eq_true rfl) d_M_hash_13 ⟨Nat.zero_le _, Nat.zero_le _⟩ ?_
    refine zz_as (y := if ar 0 1 = 0 then -2 else nI (hsv ar)) (hq.symm) ?_
    exact W.iret hx hb hr (fun t ht hW => ⟨rfl, ht⟩) (fun q h => absurd h List.not_mem_nil) d_M_hash_16
  · skip
    have z : ar 0 1 = 0 := (zn_inj (by omega) (by decide)).mp h4
    have hq : (if ar 0 1 = 0 then -2 else nI (hsv ar)) = (-2 : Int32) := by rw [if_pos z]
    refine lv_bipush (v := (-2)) hx hb d_M_hash_7 rfl ?_
    refine lv_goto (tgt := 16) hx hb d_M_hash_9 rfl ?_
    refine zz_as (y := if ar 0 1 = 0 then -2 else nI (hsv ar)) (hq.symm) ?_
    exact W.iret hx hb hr (fun t ht hW => ⟨rfl, ht⟩) (fun q h => absurd h List.not_mem_nil) d_M_hash_16

theorem d_M_joined_0 : decode c_M_joined 0 = .ok (.iconst 0, 1) := by decide +kernel
theorem d_M_joined_1 : decode c_M_joined 1 = .ok (.istore_n 2, 1) := by decide +kernel
theorem d_M_joined_2 : decode c_M_joined 2 = .ok (.iload_n 2, 1) := by decide +kernel
theorem d_M_joined_3 : decode c_M_joined 3 = .ok (.aload_n 0, 1) := by decide +kernel
theorem d_M_joined_4 : decode c_M_joined 4 = .ok (.getfield 122, 3) := by decide +kernel
theorem d_M_joined_7 : decode c_M_joined 7 = .ok (.if_icmp .ge 132, 3) := by decide +kernel
theorem d_M_joined_10 : decode c_M_joined 10 = .ok (.aload_n 0, 1) := by decide +kernel
theorem d_M_joined_11 : decode c_M_joined 11 = .ok (.getfield 28, 3) := by decide +kernel
theorem d_M_joined_14 : decode c_M_joined 14 = .ok (.iload_n 2, 1) := by decide +kernel
theorem d_M_joined_15 : decode c_M_joined 15 = .ok (.iaload, 1) := by decide +kernel
theorem d_M_joined_16 : decode c_M_joined 16 = .ok (.ifCond .ne 41, 3) := by decide +kernel
theorem d_M_joined_19 : decode c_M_joined 19 = .ok (.aload_n 0, 1) := by decide +kernel
theorem d_M_joined_20 : decode c_M_joined 20 = .ok (.getfield 86, 3) := by decide +kernel
theorem d_M_joined_23 : decode c_M_joined 23 = .ok (.iload_n 2, 1) := by decide +kernel
theorem d_M_joined_24 : decode c_M_joined 24 = .ok (.iload_n 1, 1) := by decide +kernel
theorem d_M_joined_25 : decode c_M_joined 25 = .ok (.ifCond .eq 17, 3) := by decide +kernel
theorem d_M_joined_28 : decode c_M_joined 28 = .ok (.aload_n 0, 1) := by decide +kernel
theorem d_M_joined_29 : decode c_M_joined 29 = .ok (.getfield 61, 3) := by decide +kernel
theorem d_M_joined_32 : decode c_M_joined 32 = .ok (.aload_n 0, 1) := by decide +kernel
theorem d_M_joined_33 : decode c_M_joined 33 = .ok (.getfield 37, 3) := by decide +kernel
theorem d_M_joined_36 : decode c_M_joined 36 = .ok (.iload_n 2, 1) := by decide +kernel
theorem d_M_joined_37 : decode c_M_joined 37 = .ok (.iaload, 1) := by decide +kernel
theorem d_M_joined_38 : decode c_M_joined 38 = .ok (.iaload, 1) := by decide +kernel
theorem d_M_joined_39 : decode c_M_joined 39 = .ok (.goto 14, 3) := by decide +kernel
theorem d_M_joined_42 : decode c_M_joined 42 = .ok (.aload_n 0, 1) := by decide +kernel
theorem d_M_joined_43 : decode c_M_joined 43 = .ok (.getfield 52, 3) := by decide +kernel
theorem d_M_joined_46 : decode c_M_joined 46 = .ok (.aload_n 0, 1) := by decide +kernel
theorem d_M_joined_47 : decode c_M_joined 47 = .ok (.getfield 37, 3) := by decide +kernel
theorem d_M_joined_50 : decode c_M_joined 50 = .ok (.iload_n 2, 1) := by decide +kernel
theorem d_M_joined_51 : decode c_M_joined 51 = .ok (.iaload, 1) := by decide +kernel
theorem d_M_joined_52 : decode c_M_joined 52 = .ok (.iaload, 1) := by decide +kernel
theorem d_M_joined_53 : decode c_M_joined 53 = .ok (.iastore, 1) := by decide +kernel
theorem d_M_joined_54 : decode c_M_joined 54 = .ok (.goto 79, 3) := by decide +kernel
theorem d_M_joined_57 : decode c_M_joined 57 = .ok (.aload_n 0, 1) := by decide +kernel
theorem d_M_joined_58 : decode c_M_joined 58 = .ok (.getfield 86, 3) := by decide +kernel
theorem d_M_joined_61 : decode c_M_joined 61 = .ok (.aload_n 0, 1) := by decide +kernel
theorem d_M_joined_62 : decode c_M_joined 62 = .ok (.getfield 31, 3) := by decide +kernel
theorem d_M_joined_65 : decode c_M_joined 65 = .ok (.iload_n 2, 1) := by decide +kernel
theorem d_M_joined_66 : decode c_M_joined 66 = .ok (.iaload, 1) := by decide +kernel
theorem d_M_joined_67 : decode c_M_joined 67 = .ok (.iaload, 1) := by decide +kernel
theorem d_M_joined_68 : decode c_M_joined 68 = .ok (.istore_n 3, 1) := by decide +kernel
theorem d_M_joined_69 : decode c_M_joined 69 = .ok (.aload_n 0, 1) := by decide +kernel
theorem d_M_joined_70 : decode c_M_joined 70 = .ok (.getfield 86, 3) := by decide +kernel
theorem d_M_joined_73 : decode c_M_joined 73 = .ok (.aload_n 0, 1) := by decide +kernel
theorem d_M_joined_74 : decode c_M_joined 74 = .ok (.getfield 34, 3) := by decide +kernel
theorem d_M_joined_77 : decode c_M_joined 77 = .ok (.iload_n 2, 1) := by decide +kernel
theorem d_M_joined_78 : decode c_M_joined 78 = .ok (.iaload, 1) := by decide +kernel
theorem d_M_joined_79 : decode c_M_joined 79 = .ok (.iaload, 1) := by decide +kernel
theorem d_M_joined_80 : decode c_M_joined 80 = .ok (.istore 4, 2) := by decide +kernel
theorem d_M_joined_82 : decode c_M_joined 82 = .ok (.aload_n 0, 1) := by decide +kernel
theorem d_M_joined_83 : decode c_M_joined 83 = .ok (.getfield 86, 3) := by decide +kernel
theorem d_M_joined_86 : decode c_M_joined 86 = .ok (.iload_n 2, 1) := by decide +kernel
theorem d_M_joined_87 : decode c_M_joined 87 = .ok (.iload_n 3, 1) := by decide +kernel
theorem d_M_joined_88 : decode c_M_joined 88 = .ok (.ifCond .lt 8, 3) := by decide +kernel
theorem d_M_joined_91 : decode c_M_joined 91 = .ok (.iload 4, 2) := by decide +kernel
theorem d_M_joined_93 : decode c_M_joined 93 = .ok (.ifCond .ge 7, 3) := by decide +kernel
theorem d_M_joined_96 : decode c_M_joined 96 = .ok (.iconst (-1), 1) := by decide +kernel
theorem d_M_joined_97 : decode c_M_joined 97 = .ok (.goto 35, 3) := by decide +kernel
theorem d_M_joined_100 : decode c_M_joined 100 = .ok (.aload_n 0, 1) := by decide +kernel
theorem d_M_joined_101 : decode c_M_joined 101 = .ok (.getfield 28, 3) := by decide +kernel
theorem d_M_joined_104 : decode c_M_joined 104 = .ok (.iload_n 2, 1) := by decide +kernel
theorem d_M_joined_105 : decode c_M_joined 105 = .ok (.iaload, 1) := by decide +kernel
theorem d_M_joined_106 : decode c_M_joined 106 = .ok (.iconst 2, 1) := by decide +kernel
theorem d_M_joined_107 : decode c_M_joined 107 = .ok (.if_icmp .ne 14, 3) := by decide +kernel
theorem d_M_joined_110 : decode c_M_joined 110 = .ok (.iload_n 3, 1) := by decide +kernel
theorem d_M_joined_111 : decode c_M_joined 111 = .ok (.iload 4, 2) := by decide +kernel
theorem d_M_joined_113 : decode c_M_joined 113 = .ok (.iadd, 1) := by decide +kernel
theorem d_M_joined_114 : decode c_M_joined 114 = .ok (.sipush 5003, 3) := by decide +kernel
theorem d_M_joined_117 : decode c_M_joined 117 = .ok (.irem, 1) := by decide +kernel
theorem d_M_joined_118 : decode c_M_joined 118 = .ok (.goto 14, 3) := by decide +kernel
theorem d_M_joined_121 : decode c_M_joined 121 = .ok (.iload_n 3, 1) := by decide +kernel
theorem d_M_joined_122 : decode c_M_joined 122 = .ok (.iload 4, 2) := by decide +kernel
theorem d_M_joined_124 : decode c_M_joined 124 = .ok (.if_icmp .ne 7, 3) := by decide +kernel
theorem d_M_joined_127 : decode c_M_joined 127 = .ok (.iload_n 3, 1) := by decide +kernel
theorem d_M_joined_128 : decode c_M_joined 128 = .ok (.goto 4, 3) := by decide +kernel
theorem d_M_joined_131 : decode c_M_joined 131 = .ok (.iconst (-1), 1) := by decide +kernel
theorem d_M_joined_132 : decode c_M_joined 132 = .ok (.iastore, 1) := by decide +kernel
theorem d_M_joined_133 : decode c_M_joined 133 = .ok (.iinc 2 1, 3) := by decide +kernel
theorem d_M_joined_136 : decode c_M_joined 136 = .ok (.goto (-134), 3) := by decide +kernel
theorem d_M_joined_139 : decode c_M_joined 139 = .ok (.aload_n 0, 1) := by decide +kernel
theorem d_M_joined_140 : decode c_M_joined 140 = .ok (.getfield 86, 3) := by decide +kernel
theorem d_M_joined_143 : decode c_M_joined 143 = .ok (.aload_n 0, 1) := by decide +kernel
theorem d_M_joined_144 : decode c_M_joined 144 = .ok (.getfield 122, 3) := by decide +kernel
theorem d_M_joined_147 : decode c_M_joined 147 = .ok (.iconst 1, 1) := by decide +kernel
theorem d_M_joined_148 : decode c_M_joined 148 = .ok (.isub, 1) := by decide +kernel
theorem d_M_joined_149 : decode c_M_joined 149 = .ok (.iaload, 1) := by decide +kernel
theorem d_M_joined_150 : decode c_M_joined 150 = .ok (.ireturn, 1) := by decide +kernel

section MJ
variable {p : Program} {l : Launch} {e : Env} {R : Room} {s : State} {m : MethodId} {args : Array Value} {below : List Frame} {meth : Method} {c : Code} {H0 : Heap} {cells slots : Nat} {Q : State → Prop} {A : Nat → Prop} {D : va_G} {ca : Nat → ClassId} {am : Nat → Nat} {ar : Nat → Nat → Nat}
set_option maxHeartbeats 4000000 in
set_option maxRecDepth 100000 in
theorem joined_loop (hx : p.tables.exec = Jvm.exec) (hb : c.code = c_M_joined) (hml : c.maxLocals = 5) (hown : s.vm.findClass R_M = some m.cls) (hts : ∀ w ∈ zT, w.before args s = true) (hK : va_K D zC (zty ca) s) (hD : zD A 28 am) (old : Bool) (hT : tT ar) (hN8 : tN ar) (kk : ∀ (h : Nat → Nat) (H : Heap) (locs : List Loc) (ls : Array Slot), vOK ar (cR old) h (ar 0 1) → vB h (ar 0 1) → va_P D zC (zl 28 am (mct ca am (va_up ar 26 h))) H → va_S A H0 H locs → lv_has ls 5 [(0, .ref (am 0))] → W p l e R s m args below meth c H locs cells slots Q (F0 m 139 ls [])) : ∀ (j k : Nat), k + j = ar 0 1 → ∀ (h : Nat → Nat) (H : Heap) (locs : List Loc) (ls : Array Slot), vOK ar (cR old) h k → vB h k → va_P D zC (zl 28 am (mct ca am (va_up ar 26 h))) H → va_S A H0 H locs → lv_has ls 5 [(2, .int (nI k)), (1, .int (zb old)), (0, .ref (am 0))] → W p l e R s m args below meth c H locs cells slots Q (F0 m 2 ls []) := by
  have hs1 := hT.1
  have hl2 := hT.2.1
  intro j
  induction j with
  | zero =>
    intro k hk h H locs ls hk0 hh hP hS hl
    obtain rfl : k = ar 0 1 := by omega
    refine lv_iload_n hx hb d_M_joined_2 rfl (lv_at hl 0 rfl) ?_
    refine lv_aload_n hx hb d_M_joined_3 rfl (lv_at hl 2 rfl) ?_
    refine mm_get hx hb hts hown hK hP (index := 122) 28 (by decide) mf_M_122 (v := .int (nI (ar 0 1))) rfl d_M_joined_4 ?_
    refine lv_icmp_ge (tgt := 139) hx hb d_M_joined_7 rfl (fun h7 => ?_) (fun h7 => absurd (Int32.le_refl _) h7)
    have hl := lv_sub (l' := [(0, .ref (am 0))]) hl [2] rfl
    exact kk h H locs ls hk0 hh hP hS hl
  | succ j ih =>
    intro k hk h H locs ls hk0 hh hP hS hl
    have hN : k < ar 0 1 := by omega
    obtain ⟨hkd, hlf, hch⟩ := hT.2.2 k hN
    rcases (show ar 7 k = 0 ∨ ar 7 k = 1 ∨ ar 7 k = 2 by omega) with c0 | c0 | c0
    · cases old with
      | false =>
        have hlf := hlf c0
        have hb8 := hN8.2 (ar 10 k) (by omega)
        refine lv_iload_n hx hb d_M_joined_2 rfl (lv_at hl 0 rfl) ?_
        refine lv_aload_n hx hb d_M_joined_3 rfl (lv_at hl 2 rfl) ?_
        refine mm_get hx hb hts hown hK hP (index := 122) 28 (by decide) mf_M_122 (v := .int (nI (ar 0 1))) rfl d_M_joined_4 ?_
        refine lv_icmp_ge (tgt := 139) hx hb d_M_joined_7 rfl (fun h7 => absurd h7 (nI_ge hN (by omega))) (fun h7 => ?_)
        refine lv_aload_n hx hb d_M_joined_10 rfl (lv_at hl 2 rfl) ?_
        refine mm_get hx hb hts hown hK hP (index := 28) 6 (by decide) mf_M_28 (v := .ref (am 7)) rfl d_M_joined_11 ?_
        refine lv_iload_n hx hb d_M_joined_14 rfl (lv_at hl 0 rfl) ?_
        refine mm_ald hx hb hK hP 6 (by decide) rfl (k) rfl (show k < 15 from by omega) (ar 7 k) (rfl) d_M_joined_15 ?_
        refine lv_if_ne (tgt := 57) hx hb d_M_joined_16 rfl (fun h16 => absurd (by rw [c0]; rfl) h16) (fun h16 => ?_)
        refine lv_aload_n hx hb d_M_joined_19 rfl (lv_at hl 2 rfl) ?_
        refine mm_get hx hb hts hown hK hP (index := 86) 25 (by decide) mf_M_86 (v := .ref (am 26)) rfl d_M_joined_20 ?_
        refine lv_iload_n hx hb d_M_joined_23 rfl (lv_at hl 0 rfl) ?_
        refine lv_iload_n hx hb d_M_joined_24 rfl (lv_at hl 1 rfl) ?_
        refine lv_if_eq (tgt := 42) hx hb d_M_joined_25 rfl (fun h25 => ?_) (fun h25 => absurd (rfl) h25)
        refine lv_aload_n hx hb d_M_joined_42 rfl (lv_at hl 2 rfl) ?_
        refine mm_get hx hb hts hown hK hP (index := 52) 14 (by decide) mf_M_52 (v := .ref (am 15)) rfl d_M_joined_43 ?_
        refine lv_aload_n hx hb d_M_joined_46 rfl (lv_at hl 2 rfl) ?_
        refine mm_get hx hb hts hown hK hP (index := 37) 9 (by decide) mf_M_37 (v := .ref (am 10)) rfl d_M_joined_47 ?_
        refine lv_iload_n hx hb d_M_joined_50 rfl (lv_at hl 0 rfl) ?_
        refine mm_ald hx hb hK hP 9 (by decide) rfl (k) rfl (show k < 15 from by omega) (ar 10 k) (rfl) d_M_joined_51 ?_
        refine mm_ald hx hb hK hP 14 (by decide) rfl (ar 10 k) rfl (show ar 10 k < 8 from by omega) (ar 15 (ar 10 k)) (rfl) d_M_joined_52 ?_
        have hv : ar 15 (ar 10 k) = vv ar (cR false) h k := by unfold vv; rw [if_pos c0]; rfl
        have hv2 : ar 15 (ar 10 k) < 5003 ∨ ar 15 (ar 10 k) = 4294967295 := by omega
        refine mm_ast hx hb hK hP hD hS 25 (by decide) rfl (k) rfl (show k < 15 from by omega) (ar 15 (ar 10 k)) (rfl) d_M_joined_53 (fun H locs hP hS => ?_)
        refine lv_goto (tgt := 133) hx hb d_M_joined_54 rfl ?_
        refine lv_iinc (k := 0) (v := nI (k + 1)) (lv' := [(2, .int (nI (k + 1))), (1, .int (zb false)), (0, .ref (am 0))]) hx hb d_M_joined_133 hl rfl (nI_1 _) (by decide) rfl (fun ls hl => ?_)
        refine lv_goto (tgt := 2) hx hb d_M_joined_136 rfl ?_
        rw [zs_up] at hP
        have hl := lv_sub (l' := [(2, .int (nI (k + 1))), (1, .int (zb false)), (0, .ref (am 0))]) hl [0, 1, 2] rfl
        exact ih (k + 1) (by omega) (va_up h k (ar 15 (ar 10 k))) H locs ls (vOK_s hk0 hT hN hv) (vB_s hh hv2) hP hS hl
      | true =>
        have hlf := hlf c0
        have hb8 := hN8.2 (ar 10 k) (by omega)
        refine lv_iload_n hx hb d_M_joined_2 rfl (lv_at hl 0 rfl) ?_
        refine lv_aload_n hx hb d_M_joined_3 rfl (lv_at hl 2 rfl) ?_
        refine mm_get hx hb hts hown hK hP (index := 122) 28 (by decide) mf_M_122 (v := .int (nI (ar 0 1))) rfl d_M_joined_4 ?_
        refine lv_icmp_ge (tgt := 139) hx hb d_M_joined_7 rfl (fun h7 => absurd h7 (nI_ge hN (by omega))) (fun h7 => ?_)
        refine lv_aload_n hx hb d_M_joined_10 rfl (lv_at hl 2 rfl) ?_
        refine mm_get hx hb hts hown hK hP (index := 28) 6 (by decide) mf_M_28 (v := .ref (am 7)) rfl d_M_joined_11 ?_
        refine lv_iload_n hx hb d_M_joined_14 rfl (lv_at hl 0 rfl) ?_
        refine mm_ald hx hb hK hP 6 (by decide) rfl (k) rfl (show k < 15 from by omega) (ar 7 k) (rfl) d_M_joined_15 ?_
        refine lv_if_ne (tgt := 57) hx hb d_M_joined_16 rfl (fun h16 => absurd (by rw [c0]; rfl) h16) (fun h16 => ?_)
        refine lv_aload_n hx hb d_M_joined_19 rfl (lv_at hl 2 rfl) ?_
        refine mm_get hx hb hts hown hK hP (index := 86) 25 (by decide) mf_M_86 (v := .ref (am 26)) rfl d_M_joined_20 ?_
        refine lv_iload_n hx hb d_M_joined_23 rfl (lv_at hl 0 rfl) ?_
        refine lv_iload_n hx hb d_M_joined_24 rfl (lv_at hl 1 rfl) ?_
        refine lv_if_eq (tgt := 42) hx hb d_M_joined_25 rfl (fun h25 => absurd h25 (by decide)) (fun h25 => ?_)
        refine lv_aload_n hx hb d_M_joined_28 rfl (lv_at hl 2 rfl) ?_
        refine mm_get hx hb hts hown hK hP (index := 61) 17 (by decide) mf_M_61 (v := .ref (am 18)) rfl d_M_joined_29 ?_
        refine lv_aload_n hx hb d_M_joined_32 rfl (lv_at hl 2 rfl) ?_
        refine mm_get hx hb hts hown hK hP (index := 37) 9 (by decide) mf_M_37 (v := .ref (am 10)) rfl d_M_joined_33 ?_
        refine lv_iload_n hx hb d_M_joined_36 rfl (lv_at hl 0 rfl) ?_
        refine mm_ald hx hb hK hP 9 (by decide) rfl (k) rfl (show k < 15 from by omega) (ar 10 k) (rfl) d_M_joined_37 ?_
        refine mm_ald hx hb hK hP 17 (by decide) rfl (ar 10 k) rfl (show ar 10 k < 8 from by omega) (ar 18 (ar 10 k)) (rfl) d_M_joined_38 ?_
        refine lv_goto (tgt := 53) hx hb d_M_joined_39 rfl ?_
        have hv : ar 18 (ar 10 k) = vv ar (cR true) h k := by unfold vv; rw [if_pos c0]; rfl
        have hv2 : ar 18 (ar 10 k) < 5003 ∨ ar 18 (ar 10 k) = 4294967295 := by omega
        refine mm_ast hx hb hK hP hD hS 25 (by decide) rfl (k) rfl (show k < 15 from by omega) (ar 18 (ar 10 k)) (rfl) d_M_joined_53 (fun H locs hP hS => ?_)
        refine lv_goto (tgt := 133) hx hb d_M_joined_54 rfl ?_
        refine lv_iinc (k := 0) (v := nI (k + 1)) (lv' := [(2, .int (nI (k + 1))), (1, .int (zb true)), (0, .ref (am 0))]) hx hb d_M_joined_133 hl rfl (nI_1 _) (by decide) rfl (fun ls hl => ?_)
        refine lv_goto (tgt := 2) hx hb d_M_joined_136 rfl ?_
        rw [zs_up] at hP
        have hl := lv_sub (l' := [(2, .int (nI (k + 1))), (1, .int (zb true)), (0, .ref (am 0))]) hl [0, 1, 2] rfl
        exact ih (k + 1) (by omega) (va_up h k (ar 18 (ar 10 k))) H locs ls (vOK_s hk0 hT hN hv) (vB_s hh hv2) hP hS hl
    · skip
      have hch := hch (by rw [c0]; decide)
      have hb1 := hh _ hch.1
      have hb2 := hh _ hch.2
      have hc0 : ¬ ar 7 k = 0 := by rw [c0]; decide
      have ha : h (ar 8 k) < 2 ^ 32 := by omega
      have hb0 : h (ar 9 k) < 2 ^ 32 := by omega
      refine lv_iload_n hx hb d_M_joined_2 rfl (lv_at hl 0 rfl) ?_
      refine lv_aload_n hx hb d_M_joined_3 rfl (lv_at hl 2 rfl) ?_
      refine mm_get hx hb hts hown hK hP (index := 122) 28 (by decide) mf_M_122 (v := .int (nI (ar 0 1))) rfl d_M_joined_4 ?_
      refine lv_icmp_ge (tgt := 139) hx hb d_M_joined_7 rfl (fun h7 => absurd h7 (nI_ge hN (by omega))) (fun h7 => ?_)
      refine lv_aload_n hx hb d_M_joined_10 rfl (lv_at hl 2 rfl) ?_
      refine mm_get hx hb hts hown hK hP (index := 28) 6 (by decide) mf_M_28 (v := .ref (am 7)) rfl d_M_joined_11 ?_
      refine lv_iload_n hx hb d_M_joined_14 rfl (lv_at hl 0 rfl) ?_
      refine mm_ald hx hb hK hP 6 (by decide) rfl (k) rfl (show k < 15 from by omega) (ar 7 k) (rfl) d_M_joined_15 ?_
      refine lv_if_ne (tgt := 57) hx hb d_M_joined_16 rfl (fun h16 => ?_) (fun h16 => absurd h16 (by rw [c0]; decide))
      refine lv_aload_n hx hb d_M_joined_57 rfl (lv_at hl 2 rfl) ?_
      refine mm_get hx hb hts hown hK hP (index := 86) 25 (by decide) mf_M_86 (v := .ref (am 26)) rfl d_M_joined_58 ?_
      refine lv_aload_n hx hb d_M_joined_61 rfl (lv_at hl 2 rfl) ?_
      refine mm_get hx hb hts hown hK hP (index := 31) 7 (by decide) mf_M_31 (v := .ref (am 8)) rfl d_M_joined_62 ?_
      refine lv_iload_n hx hb d_M_joined_65 rfl (lv_at hl 0 rfl) ?_
      refine mm_ald hx hb hK hP 7 (by decide) rfl (k) rfl (show k < 15 from by omega) (ar 8 k) (rfl) d_M_joined_66 ?_
      refine mm_ald hx hb hK hP 25 (by decide) rfl (ar 8 k) rfl (show ar 8 k < 15 from by omega) (h (ar 8 k)) (rfl) d_M_joined_67 ?_
      refine lv_istore_n (lv' := [(3, .int (nI (h (ar 8 k)))), (2, .int (nI k)), (1, .int (zb old)), (0, .ref (am 0))]) hx hb d_M_joined_68 rfl hl (by decide) rfl (fun ls hl => ?_)
      refine lv_aload_n hx hb d_M_joined_69 rfl (lv_at hl 3 rfl) ?_
      refine mm_get hx hb hts hown hK hP (index := 86) 25 (by decide) mf_M_86 (v := .ref (am 26)) rfl d_M_joined_70 ?_
      refine lv_aload_n hx hb d_M_joined_73 rfl (lv_at hl 3 rfl) ?_
      refine mm_get hx hb hts hown hK hP (index := 34) 8 (by decide) mf_M_34 (v := .ref (am 9)) rfl d_M_joined_74 ?_
      refine lv_iload_n hx hb d_M_joined_77 rfl (lv_at hl 1 rfl) ?_
      refine mm_ald hx hb hK hP 8 (by decide) rfl (k) rfl (show k < 15 from by omega) (ar 9 k) (rfl) d_M_joined_78 ?_
      refine mm_ald hx hb hK hP 25 (by decide) rfl (ar 9 k) rfl (show ar 9 k < 15 from by omega) (h (ar 9 k)) (rfl) d_M_joined_79 ?_
      refine lv_istore (lv' := [(4, .int (nI (h (ar 9 k)))), (3, .int (nI (h (ar 8 k)))), (2, .int (nI k)), (1, .int (zb old)), (0, .ref (am 0))]) hx hb d_M_joined_80 hl (by decide) rfl (fun ls hl => ?_)
      refine lv_aload_n hx hb d_M_joined_82 rfl (lv_at hl 4 rfl) ?_
      refine mm_get hx hb hts hown hK hP (index := 86) 25 (by decide) mf_M_86 (v := .ref (am 26)) rfl d_M_joined_83 ?_
      refine lv_iload_n hx hb d_M_joined_86 rfl (lv_at hl 2 rfl) ?_
      refine lv_iload_n hx hb d_M_joined_87 rfl (lv_at hl 1 rfl) ?_
      refine lv_if_lt (tgt := 96) hx hb d_M_joined_88 rfl (fun h88 => ?_) (fun h88 => ?_)
      · skip
        have a1 := (zn_lt0 ha).mp h88
        have hv : 4294967295 = vv ar (cR old) h k := by unfold vv; rw [if_neg hc0, if_neg (by omega)]
        have hv2 : 4294967295 < 5003 ∨ 4294967295 = 4294967295 := Or.inr rfl
        refine lv_iconst (v := (-1)) hx hb d_M_joined_96 rfl ?_
        refine lv_goto (tgt := 132) hx hb d_M_joined_97 rfl ?_
        refine mm_ast hx hb hK hP hD hS 25 (by decide) rfl (k) rfl (show k < 15 from by omega) (4294967295) (zn_m1.symm) d_M_joined_132 (fun H locs hP hS => ?_)
        refine lv_iinc (k := 2) (v := nI (k + 1)) (lv' := [(2, .int (nI (k + 1))), (4, .int (nI (h (ar 9 k)))), (3, .int (nI (h (ar 8 k)))), (1, .int (zb old)), (0, .ref (am 0))]) hx hb d_M_joined_133 hl rfl (nI_1 _) (by decide) rfl (fun ls hl => ?_)
        refine lv_goto (tgt := 2) hx hb d_M_joined_136 rfl ?_
        rw [zs_up] at hP
        have hl := lv_sub (l' := [(2, .int (nI (k + 1))), (1, .int (zb old)), (0, .ref (am 0))]) hl [0, 3, 4] rfl
        exact ih (k + 1) (by omega) (va_up h k (4294967295)) H locs ls (vOK_s hk0 hT hN hv) (vB_s hh hv2) hP hS hl
      · skip
        have a1 := mt (zn_lt0 ha).mpr h88
        refine lv_iload hx hb d_M_joined_91 (lv_at hl 0 rfl) ?_
        refine lv_if_ge (tgt := 100) hx hb d_M_joined_93 rfl (fun h93 => ?_) (fun h93 => ?_)
        · skip
          have b1 := (zn_ge0 hb0).mp h93
          refine lv_aload_n hx hb d_M_joined_100 rfl (lv_at hl 4 rfl) ?_
          refine mm_get hx hb hts hown hK hP (index := 28) 6 (by decide) mf_M_28 (v := .ref (am 7)) rfl d_M_joined_101 ?_
          refine lv_iload_n hx hb d_M_joined_104 rfl (lv_at hl 2 rfl) ?_
          refine mm_ald hx hb hK hP 6 (by decide) rfl (k) rfl (show k < 15 from by omega) (ar 7 k) (rfl) d_M_joined_105 ?_
          refine lv_iconst (v := 2) hx hb d_M_joined_106 rfl ?_
          refine lv_icmp_ne (tgt := 121) hx hb d_M_joined_107 rfl (fun h107 => ?_) (fun h107 => absurd h107 (by rw [c0]; decide))
          refine lv_iload_n hx hb d_M_joined_121 rfl (lv_at hl 1 rfl) ?_
          refine lv_iload hx hb d_M_joined_122 (lv_at hl 0 rfl) ?_
          refine lv_icmp_ne (tgt := 131) hx hb d_M_joined_124 rfl (fun h124 => ?_) (fun h124 => ?_)
          · skip
            have e1 : ¬ h (ar 8 k) = h (ar 9 k) := fun q => h124 (by rw [q])
            have hv : 4294967295 = vv ar (cR old) h k := by unfold vv; rw [if_neg hc0, if_pos (by omega), if_neg (by rw [c0]; decide), if_neg e1]
            have hv2 : 4294967295 < 5003 ∨ 4294967295 = 4294967295 := Or.inr rfl
            refine lv_iconst (v := (-1)) hx hb d_M_joined_131 rfl ?_
            refine mm_ast hx hb hK hP hD hS 25 (by decide) rfl (k) rfl (show k < 15 from by omega) (4294967295) (zn_m1.symm) d_M_joined_132 (fun H locs hP hS => ?_)
            refine lv_iinc (k := 2) (v := nI (k + 1)) (lv' := [(2, .int (nI (k + 1))), (4, .int (nI (h (ar 9 k)))), (3, .int (nI (h (ar 8 k)))), (1, .int (zb old)), (0, .ref (am 0))]) hx hb d_M_joined_133 hl rfl (nI_1 _) (by decide) rfl (fun ls hl => ?_)
            refine lv_goto (tgt := 2) hx hb d_M_joined_136 rfl ?_
            rw [zs_up] at hP
            have hl := lv_sub (l' := [(2, .int (nI (k + 1))), (1, .int (zb old)), (0, .ref (am 0))]) hl [0, 3, 4] rfl
            exact ih (k + 1) (by omega) (va_up h k (4294967295)) H locs ls (vOK_s hk0 hT hN hv) (vB_s hh hv2) hP hS hl
          · skip
            have e1 : h (ar 8 k) = h (ar 9 k) := (zn_inj ha hb0).mp h124
            have hv : h (ar 8 k) = vv ar (cR old) h k := by unfold vv; rw [if_neg hc0, if_pos (by omega), if_neg (by rw [c0]; decide), if_pos e1]
            have hv2 := hb1
            refine lv_iload_n hx hb d_M_joined_127 rfl (lv_at hl 1 rfl) ?_
            refine lv_goto (tgt := 132) hx hb d_M_joined_128 rfl ?_
            refine mm_ast hx hb hK hP hD hS 25 (by decide) rfl (k) rfl (show k < 15 from by omega) (h (ar 8 k)) (rfl) d_M_joined_132 (fun H locs hP hS => ?_)
            refine lv_iinc (k := 2) (v := nI (k + 1)) (lv' := [(2, .int (nI (k + 1))), (4, .int (nI (h (ar 9 k)))), (3, .int (nI (h (ar 8 k)))), (1, .int (zb old)), (0, .ref (am 0))]) hx hb d_M_joined_133 hl rfl (nI_1 _) (by decide) rfl (fun ls hl => ?_)
            refine lv_goto (tgt := 2) hx hb d_M_joined_136 rfl ?_
            rw [zs_up] at hP
            have hl := lv_sub (l' := [(2, .int (nI (k + 1))), (1, .int (zb old)), (0, .ref (am 0))]) hl [0, 3, 4] rfl
            exact ih (k + 1) (by omega) (va_up h k (h (ar 8 k))) H locs ls (vOK_s hk0 hT hN hv) (vB_s hh hv2) hP hS hl
        · skip
          have b1 := mt (zn_ge0 hb0).mpr h93
          have hv : 4294967295 = vv ar (cR old) h k := by unfold vv; rw [if_neg hc0, if_neg (by omega)]
          have hv2 : 4294967295 < 5003 ∨ 4294967295 = 4294967295 := Or.inr rfl
          refine lv_iconst (v := (-1)) hx hb d_M_joined_96 rfl ?_
          refine lv_goto (tgt := 132) hx hb d_M_joined_97 rfl ?_
          refine mm_ast hx hb hK hP hD hS 25 (by decide) rfl (k) rfl (show k < 15 from by omega) (4294967295) (zn_m1.symm) d_M_joined_132 (fun H locs hP hS => ?_)
          refine lv_iinc (k := 2) (v := nI (k + 1)) (lv' := [(2, .int (nI (k + 1))), (4, .int (nI (h (ar 9 k)))), (3, .int (nI (h (ar 8 k)))), (1, .int (zb old)), (0, .ref (am 0))]) hx hb d_M_joined_133 hl rfl (nI_1 _) (by decide) rfl (fun ls hl => ?_)
          refine lv_goto (tgt := 2) hx hb d_M_joined_136 rfl ?_
          rw [zs_up] at hP
          have hl := lv_sub (l' := [(2, .int (nI (k + 1))), (1, .int (zb old)), (0, .ref (am 0))]) hl [0, 3, 4] rfl
          exact ih (k + 1) (by omega) (va_up h k (4294967295)) H locs ls (vOK_s hk0 hT hN hv) (vB_s hh hv2) hP hS hl
    · skip
      have hch := hch (by rw [c0]; decide)
      have hb1 := hh _ hch.1
      have hb2 := hh _ hch.2
      have hc0 : ¬ ar 7 k = 0 := by rw [c0]; decide
      have ha : h (ar 8 k) < 2 ^ 32 := by omega
      have hb0 : h (ar 9 k) < 2 ^ 32 := by omega
      refine lv_iload_n hx hb d_M_joined_2 rfl (lv_at hl 0 rfl) ?_
      refine lv_aload_n hx hb d_M_joined_3 rfl (lv_at hl 2 rfl) ?_
      refine mm_get hx hb hts hown hK hP (index := 122) 28 (by decide) mf_M_122 (v := .int (nI (ar 0 1))) rfl d_M_joined_4 ?_
      refine lv_icmp_ge (tgt := 139) hx hb d_M_joined_7 rfl (fun h7 => absurd h7 (nI_ge hN (by omega))) (fun h7 => ?_)
      refine lv_aload_n hx hb d_M_joined_10 rfl (lv_at hl 2 rfl) ?_
      refine mm_get hx hb hts hown hK hP (index := 28) 6 (by decide) mf_M_28 (v := .ref (am 7)) rfl d_M_joined_11 ?_
      refine lv_iload_n hx hb d_M_joined_14 rfl (lv_at hl 0 rfl) ?_
      refine mm_ald hx hb hK hP 6 (by decide) rfl (k) rfl (show k < 15 from by omega) (ar 7 k) (rfl) d_M_joined_15 ?_
      refine lv_if_ne (tgt := 57) hx hb d_M_joined_16 rfl (fun h16 => ?_) (fun h16 => absurd h16 (by rw [c0]; decide))
      refine lv_aload_n hx hb d_M_joined_57 rfl (lv_at hl 2 rfl) ?_
      refine mm_get hx hb hts hown hK hP (index := 86) 25 (by decide) mf_M_86 (v := .ref (am 26)) rfl d_M_joined_58 ?_
      refine lv_aload_n hx hb d_M_joined_61 rfl (lv_at hl 2 rfl) ?_
      refine mm_get hx hb hts hown hK hP (index := 31) 7 (by decide) mf_M_31 (v := .ref (am 8)) rfl d_M_joined_62 ?_
      refine lv_iload_n hx hb d_M_joined_65 rfl (lv_at hl 0 rfl) ?_
      refine mm_ald hx hb hK hP 7 (by decide) rfl (k) rfl (show k < 15 from by omega) (ar 8 k) (rfl) d_M_joined_66 ?_
      refine mm_ald hx hb hK hP 25 (by decide) rfl (ar 8 k) rfl (show ar 8 k < 15 from by omega) (h (ar 8 k)) (rfl) d_M_joined_67 ?_
      refine lv_istore_n (lv' := [(3, .int (nI (h (ar 8 k)))), (2, .int (nI k)), (1, .int (zb old)), (0, .ref (am 0))]) hx hb d_M_joined_68 rfl hl (by decide) rfl (fun ls hl => ?_)
      refine lv_aload_n hx hb d_M_joined_69 rfl (lv_at hl 3 rfl) ?_
      refine mm_get hx hb hts hown hK hP (index := 86) 25 (by decide) mf_M_86 (v := .ref (am 26)) rfl d_M_joined_70 ?_
      refine lv_aload_n hx hb d_M_joined_73 rfl (lv_at hl 3 rfl) ?_
      refine mm_get hx hb hts hown hK hP (index := 34) 8 (by decide) mf_M_34 (v := .ref (am 9)) rfl d_M_joined_74 ?_
      refine lv_iload_n hx hb d_M_joined_77 rfl (lv_at hl 1 rfl) ?_
      refine mm_ald hx hb hK hP 8 (by decide) rfl (k) rfl (show k < 15 from by omega) (ar 9 k) (rfl) d_M_joined_78 ?_
      refine mm_ald hx hb hK hP 25 (by decide) rfl (ar 9 k) rfl (show ar 9 k < 15 from by omega) (h (ar 9 k)) (rfl) d_M_joined_79 ?_
      refine lv_istore (lv' := [(4, .int (nI (h (ar 9 k)))), (3, .int (nI (h (ar 8 k)))), (2, .int (nI k)), (1, .int (zb old)), (0, .ref (am 0))]) hx hb d_M_joined_80 hl (by decide) rfl (fun ls hl => ?_)
      refine lv_aload_n hx hb d_M_joined_82 rfl (lv_at hl 4 rfl) ?_
      refine mm_get hx hb hts hown hK hP (index := 86) 25 (by decide) mf_M_86 (v := .ref (am 26)) rfl d_M_joined_83 ?_
      refine lv_iload_n hx hb d_M_joined_86 rfl (lv_at hl 2 rfl) ?_
      refine lv_iload_n hx hb d_M_joined_87 rfl (lv_at hl 1 rfl) ?_
      refine lv_if_lt (tgt := 96) hx hb d_M_joined_88 rfl (fun h88 => ?_) (fun h88 => ?_)
      · skip
        have a1 := (zn_lt0 ha).mp h88
        have hv : 4294967295 = vv ar (cR old) h k := by unfold vv; rw [if_neg hc0, if_neg (by omega)]
        have hv2 : 4294967295 < 5003 ∨ 4294967295 = 4294967295 := Or.inr rfl
        refine lv_iconst (v := (-1)) hx hb d_M_joined_96 rfl ?_
        refine lv_goto (tgt := 132) hx hb d_M_joined_97 rfl ?_
        refine mm_ast hx hb hK hP hD hS 25 (by decide) rfl (k) rfl (show k < 15 from by omega) (4294967295) (zn_m1.symm) d_M_joined_132 (fun H locs hP hS => ?_)
        refine lv_iinc (k := 2) (v := nI (k + 1)) (lv' := [(2, .int (nI (k + 1))), (4, .int (nI (h (ar 9 k)))), (3, .int (nI (h (ar 8 k)))), (1, .int (zb old)), (0, .ref (am 0))]) hx hb d_M_joined_133 hl rfl (nI_1 _) (by decide) rfl (fun ls hl => ?_)
        refine lv_goto (tgt := 2) hx hb d_M_joined_136 rfl ?_
        rw [zs_up] at hP
        have hl := lv_sub (l' := [(2, .int (nI (k + 1))), (1, .int (zb old)), (0, .ref (am 0))]) hl [0, 3, 4] rfl
        exact ih (k + 1) (by omega) (va_up h k (4294967295)) H locs ls (vOK_s hk0 hT hN hv) (vB_s hh hv2) hP hS hl
      · skip
        have a1 := mt (zn_lt0 ha).mpr h88
        refine lv_iload hx hb d_M_joined_91 (lv_at hl 0 rfl) ?_
        refine lv_if_ge (tgt := 100) hx hb d_M_joined_93 rfl (fun h93 => ?_) (fun h93 => ?_)
        · skip
          have b1 := (zn_ge0 hb0).mp h93
          refine lv_aload_n hx hb d_M_joined_100 rfl (lv_at hl 4 rfl) ?_
          refine mm_get hx hb hts hown hK hP (index := 28) 6 (by decide) mf_M_28 (v := .ref (am 7)) rfl d_M_joined_101 ?_
          refine lv_iload_n hx hb d_M_joined_104 rfl (lv_at hl 2 rfl) ?_
          refine mm_ald hx hb hK hP 6 (by decide) rfl (k) rfl (show k < 15 from by omega) (ar 7 k) (rfl) d_M_joined_105 ?_
          refine lv_iconst (v := 2) hx hb d_M_joined_106 rfl ?_
          refine lv_icmp_ne (tgt := 121) hx hb d_M_joined_107 rfl (fun h107 => absurd (by rw [c0]; rfl) h107) (fun h107 => ?_)
          refine lv_iload_n hx hb d_M_joined_110 rfl (lv_at hl 1 rfl) ?_
          refine lv_iload hx hb d_M_joined_111 (lv_at hl 0 rfl) ?_
          refine lv_iadd hx hb d_M_joined_113 ?_
          refine zz_as (y := nI ((h (ar 8 k)) + (h (ar 9 k)))) (nI_add (h (ar 8 k)) (h (ar 9 k))) ?_
          refine lv_sipush (v := 5003) hx hb d_M_joined_114 rfl ?_
          refine lv_irem hx hb d_M_joined_117 (by decide) ?_
          refine zz_as (y := nI (((h (ar 8 k)) + (h (ar 9 k))) % 5003)) (pk_rem (d := 5003) (by omega) (by decide) (by decide)) ?_
          have hv : (h (ar 8 k) + h (ar 9 k)) % 5003 = vv ar (cR old) h k := by unfold vv; rw [if_neg hc0, if_pos (by omega), if_pos c0]
          have hv2 : (h (ar 8 k) + h (ar 9 k)) % 5003 < 5003 ∨ (h (ar 8 k) + h (ar 9 k)) % 5003 = 4294967295 := Or.inl (Nat.mod_lt _ (by decide))
          refine lv_goto (tgt := 132) hx hb d_M_joined_118 rfl ?_
          refine mm_ast hx hb hK hP hD hS 25 (by decide) rfl (k) rfl (show k < 15 from by omega) (((h (ar 8 k)) + (h (ar 9 k))) % 5003) (rfl) d_M_joined_132 (fun H locs hP hS => ?_)
          refine lv_iinc (k := 2) (v := nI (k + 1)) (lv' := [(2, .int (nI (k + 1))), (4, .int (nI (h (ar 9 k)))), (3, .int (nI (h (ar 8 k)))), (1, .int (zb old)), (0, .ref (am 0))]) hx hb d_M_joined_133 hl rfl (nI_1 _) (by decide) rfl (fun ls hl => ?_)
          refine lv_goto (tgt := 2) hx hb d_M_joined_136 rfl ?_
          rw [zs_up] at hP
          have hl := lv_sub (l' := [(2, .int (nI (k + 1))), (1, .int (zb old)), (0, .ref (am 0))]) hl [0, 3, 4] rfl
          exact ih (k + 1) (by omega) (va_up h k (((h (ar 8 k)) + (h (ar 9 k))) % 5003)) H locs ls (vOK_s hk0 hT hN hv) (vB_s hh hv2) hP hS hl
        · skip
          have b1 := mt (zn_ge0 hb0).mpr h93
          have hv : 4294967295 = vv ar (cR old) h k := by unfold vv; rw [if_neg hc0, if_neg (by omega)]
          have hv2 : 4294967295 < 5003 ∨ 4294967295 = 4294967295 := Or.inr rfl
          refine lv_iconst (v := (-1)) hx hb d_M_joined_96 rfl ?_
          refine lv_goto (tgt := 132) hx hb d_M_joined_97 rfl ?_
          refine mm_ast hx hb hK hP hD hS 25 (by decide) rfl (k) rfl (show k < 15 from by omega) (4294967295) (zn_m1.symm) d_M_joined_132 (fun H locs hP hS => ?_)
          refine lv_iinc (k := 2) (v := nI (k + 1)) (lv' := [(2, .int (nI (k + 1))), (4, .int (nI (h (ar 9 k)))), (3, .int (nI (h (ar 8 k)))), (1, .int (zb old)), (0, .ref (am 0))]) hx hb d_M_joined_133 hl rfl (nI_1 _) (by decide) rfl (fun ls hl => ?_)
          refine lv_goto (tgt := 2) hx hb d_M_joined_136 rfl ?_
          rw [zs_up] at hP
          have hl := lv_sub (l' := [(2, .int (nI (k + 1))), (1, .int (zb old)), (0, .ref (am 0))]) hl [0, 3, 4] rfl
          exact ih (k + 1) (by omega) (va_up h k (4294967295)) H locs ls (vOK_s hk0 hT hN hv) (vB_s hh hv2) hP hS hl
end MJ

set_option maxHeartbeats 4000000 in
set_option maxRecDepth 100000 in
/-- joined(old) -/
theorem k_joinedM (l : Launch) (D : va_G) (ca : Nat → ClassId) (am : Nat → Nat) (ar : Nat → Nat → Nat) (hI : mI am) (old : Bool) (hT : tT ar) (hN8 : tN ar) (hsz : 0 < ar 0 1) : Met l y_M_joined (Cond.code y_M_joined c_M_joined 5 (some .int) :: zT) ({ frames := 1, cells := 0, slots := 0, locals := 40 }) (va_Pc [.ref (am 0), .int (zb old)] (mw D ca am ar)) (va_Qi (fun r ar1 => ∃ h : Nat → Nat, vOK ar (cR old) h (ar 0 1) ∧ vB h (ar 0 1) ∧ ar1 = va_up ar 26 h ∧ r = nI (h (ar 0 1 - 1))) (mw D ca am) (mA am)) 0 0 (mA am) := by
  refine Met.ofW (cc := c_M_joined) (maxL := 5) (ret := (some .int)) (by decide) rfl ?_
  intro p e s m args below meth c s₁ B hml hv
  obtain ⟨rfl, hK, hP⟩ := hv
  have hx := B.exec
  have hb := B.bytes
  have hr := B.returns
  have hts0 := atoms_spec (ws := Cond.code y_M_joined c_M_joined 5 (some .int) :: zT) B.pre
  have hts := fun w h => hts0 w (List.mem_cons_of_mem _ h)
  have hown : s.vm.findClass R_M = some m.cls := findClass_of_methodNamed B.named
  have hlocks := B.notSynchronized
  have hD := mI_D hI
  have hS : va_S (mA am) s.heap s.heap [] := va_S.rf
  have hAA : ∀ q, mA am q → mA am q := fun _ h => h
  have hl := lv_entry ([.ref (am 0), .int (zb old)]) (n := 5) (Nat.le_of_ble_eq_true rfl)
  rw [lg_entry_eq]
  generalize (lg_sl ([.ref (am 0), .int (zb old)]) ++ List.replicate (5 - (lg_sl ([.ref (am 0), .int (zb old)])).length) Slot.unset).toArray = ls at hl ⊢
  have hl : lv_has ls 5 [(0, .ref (am 0)), (1, .int (zb old))] := hl
  skip
  refine lv_iconst (v := 0) hx hb d_M_joined_0 rfl ?_
  refine lv_istore_n (lv' := [(2, .int 0), (0, .ref (am 0)), (1, .int (zb old))]) hx hb d_M_joined_1 rfl hl (by decide) rfl (fun ls hl => ?_)
  have hP : va_P D zC (zl 28 am (mct ca am (va_up ar 26 (ar 26)))) s.heap := by rw [va_up_row]; exact hP
  refine joined_loop hx hb hml hown hts hK hD old hT hN8 (fun h H locs ls hk hh hP hS hl => ?_) (ar 0 1) 0 (Nat.zero_add _) (ar 26) s.heap [] ls (fun _ q => absurd q (Nat.not_lt_zero _)) (fun _ q => absurd q (Nat.not_lt_zero _)) hP hS (lv_sub hl [0, 2, 1] rfl)
  have hs1 := hT.1
  refine lv_aload_n hx hb d_M_joined_139 rfl (lv_at hl 0 rfl) ?_
  refine mm_get hx hb hts hown hK hP (index := 86) 25 (by decide) mf_M_86 (v := .ref (am 26)) rfl d_M_joined_140 ?_
  refine lv_aload_n hx hb d_M_joined_143 rfl (lv_at hl 0 rfl) ?_
  refine mm_get hx hb hts hown hK hP (index := 122) 28 (by decide) mf_M_122 (v := .int (nI (ar 0 1))) rfl d_M_joined_144 ?_
  refine lv_iconst (v := 1) hx hb d_M_joined_147 rfl ?_
  refine lv_isub hx hb d_M_joined_148 ?_
  refine zz_as (y := nI ((ar 0 1) - 1)) (pk_sub (a := ar 0 1) (b := 1) (by omega)) ?_
  refine mm_ald hx hb hK hP 25 (by decide) rfl ((ar 0 1) - 1) rfl (show (ar 0 1) - 1 < 15 from by omega) (h ((ar 0 1) - 1)) (rfl) d_M_joined_149 ?_
  exact W.iret hx hb hr (fun t ht hW => ⟨⟨_, va_up ar 26 h, rfl, ⟨h, hk, hh, rfl, rfl⟩, va_K.moved hW.alike hK, by rw [ht]; exact hP⟩, hS.F ht⟩) hS.2.2 d_M_joined_150

theorem d_M_accepts_0 : decode c_M_accepts 0 = .ok (.iconst 1, 1) := by decide +kernel
theorem d_M_accepts_1 : decode c_M_accepts 1 = .ok (.istore_n 3, 1) := by decide +kernel
theorem d_M_accepts_2 : decode c_M_accepts 2 = .ok (.iload_n 2, 1) := by decide +kernel
theorem d_M_accepts_3 : decode c_M_accepts 3 = .ok (.ifCond .eq 12, 3) := by decide +kernel
theorem d_M_accepts_6 : decode c_M_accepts 6 = .ok (.aload_n 0, 1) := by decide +kernel
theorem d_M_accepts_7 : decode c_M_accepts 7 = .ok (.getfield 61, 3) := by decide +kernel
theorem d_M_accepts_10 : decode c_M_accepts 10 = .ok (.iload_n 1, 1) := by decide +kernel
theorem d_M_accepts_11 : decode c_M_accepts 11 = .ok (.iaload, 1) := by decide +kernel
theorem d_M_accepts_12 : decode c_M_accepts 12 = .ok (.goto 9, 3) := by decide +kernel
theorem d_M_accepts_15 : decode c_M_accepts 15 = .ok (.aload_n 0, 1) := by decide +kernel
theorem d_M_accepts_16 : decode c_M_accepts 16 = .ok (.getfield 52, 3) := by decide +kernel
theorem d_M_accepts_19 : decode c_M_accepts 19 = .ok (.iload_n 1, 1) := by decide +kernel
theorem d_M_accepts_20 : decode c_M_accepts 20 = .ok (.iaload, 1) := by decide +kernel
theorem d_M_accepts_21 : decode c_M_accepts 21 = .ok (.istore 4, 2) := by decide +kernel
theorem d_M_accepts_23 : decode c_M_accepts 23 = .ok (.iload_n 2, 1) := by decide +kernel
theorem d_M_accepts_24 : decode c_M_accepts 24 = .ok (.ifCond .eq 12, 3) := by decide +kernel
theorem d_M_accepts_27 : decode c_M_accepts 27 = .ok (.aload_n 0, 1) := by decide +kernel
theorem d_M_accepts_28 : decode c_M_accepts 28 = .ok (.getfield 64, 3) := by decide +kernel
theorem d_M_accepts_31 : decode c_M_accepts 31 = .ok (.iload_n 1, 1) := by decide +kernel
theorem d_M_accepts_32 : decode c_M_accepts 32 = .ok (.iaload, 1) := by decide +kernel
theorem d_M_accepts_33 : decode c_M_accepts 33 = .ok (.goto 9, 3) := by decide +kernel
theorem d_M_accepts_36 : decode c_M_accepts 36 = .ok (.aload_n 0, 1) := by decide +kernel
theorem d_M_accepts_37 : decode c_M_accepts 37 = .ok (.getfield 55, 3) := by decide +kernel
theorem d_M_accepts_40 : decode c_M_accepts 40 = .ok (.iload_n 1, 1) := by decide +kernel
theorem d_M_accepts_41 : decode c_M_accepts 41 = .ok (.iaload, 1) := by decide +kernel
theorem d_M_accepts_42 : decode c_M_accepts 42 = .ok (.istore 5, 2) := by decide +kernel
theorem d_M_accepts_44 : decode c_M_accepts 44 = .ok (.iconst 0, 1) := by decide +kernel
theorem d_M_accepts_45 : decode c_M_accepts 45 = .ok (.istore 6, 2) := by decide +kernel
theorem d_M_accepts_47 : decode c_M_accepts 47 = .ok (.iload 6, 2) := by decide +kernel
theorem d_M_accepts_49 : decode c_M_accepts 49 = .ok (.iconst 2, 1) := by decide +kernel
theorem d_M_accepts_50 : decode c_M_accepts 50 = .ok (.if_icmp .ge 95, 3) := by decide +kernel
theorem d_M_accepts_53 : decode c_M_accepts 53 = .ok (.iconst 2, 1) := by decide +kernel
theorem d_M_accepts_54 : decode c_M_accepts 54 = .ok (.iload_n 1, 1) := by decide +kernel
theorem d_M_accepts_55 : decode c_M_accepts 55 = .ok (.imul, 1) := by decide +kernel
theorem d_M_accepts_56 : decode c_M_accepts 56 = .ok (.iload 6, 2) := by decide +kernel
theorem d_M_accepts_58 : decode c_M_accepts 58 = .ok (.iadd, 1) := by decide +kernel
theorem d_M_accepts_59 : decode c_M_accepts 59 = .ok (.istore 7, 2) := by decide +kernel
theorem d_M_accepts_61 : decode c_M_accepts 61 = .ok (.iload_n 2, 1) := by decide +kernel
theorem d_M_accepts_62 : decode c_M_accepts 62 = .ok (.ifCond .eq 13, 3) := by decide +kernel
theorem d_M_accepts_65 : decode c_M_accepts 65 = .ok (.aload_n 0, 1) := by decide +kernel
theorem d_M_accepts_66 : decode c_M_accepts 66 = .ok (.getfield 58, 3) := by decide +kernel
theorem d_M_accepts_69 : decode c_M_accepts 69 = .ok (.iload 7, 2) := by decide +kernel
theorem d_M_accepts_71 : decode c_M_accepts 71 = .ok (.iaload, 1) := by decide +kernel
theorem d_M_accepts_72 : decode c_M_accepts 72 = .ok (.goto 10, 3) := by decide +kernel
theorem d_M_accepts_75 : decode c_M_accepts 75 = .ok (.aload_n 0, 1) := by decide +kernel
theorem d_M_accepts_76 : decode c_M_accepts 76 = .ok (.getfield 49, 3) := by decide +kernel
theorem d_M_accepts_79 : decode c_M_accepts 79 = .ok (.iload 7, 2) := by decide +kernel
theorem d_M_accepts_81 : decode c_M_accepts 81 = .ok (.iaload, 1) := by decide +kernel
theorem d_M_accepts_82 : decode c_M_accepts 82 = .ok (.istore 8, 2) := by decide +kernel
theorem d_M_accepts_84 : decode c_M_accepts 84 = .ok (.aload_n 0, 1) := by decide +kernel
theorem d_M_accepts_85 : decode c_M_accepts 85 = .ok (.iload_n 1, 1) := by decide +kernel
theorem d_M_accepts_86 : decode c_M_accepts 86 = .ok (.iload 6, 2) := by decide +kernel
theorem d_M_accepts_88 : decode c_M_accepts 88 = .ok (.invokevirtual 138, 3) := by decide +kernel
theorem d_M_accepts_91 : decode c_M_accepts 91 = .ok (.ifCond .eq 48, 3) := by decide +kernel
theorem d_M_accepts_94 : decode c_M_accepts 94 = .ok (.iload_n 3, 1) := by decide +kernel
theorem d_M_accepts_95 : decode c_M_accepts 95 = .ok (.ifCond .eq 42, 3) := by decide +kernel
theorem d_M_accepts_98 : decode c_M_accepts 98 = .ok (.aload_n 0, 1) := by decide +kernel
theorem d_M_accepts_99 : decode c_M_accepts 99 = .ok (.getfield 40, 3) := by decide +kernel
theorem d_M_accepts_102 : decode c_M_accepts 102 = .ok (.iload 7, 2) := by decide +kernel
theorem d_M_accepts_104 : decode c_M_accepts 104 = .ok (.iaload, 1) := by decide +kernel
theorem d_M_accepts_105 : decode c_M_accepts 105 = .ok (.iload 5, 2) := by decide +kernel
theorem d_M_accepts_107 : decode c_M_accepts 107 = .ok (.invokestatic 96, 3) := by decide +kernel
theorem d_M_accepts_110 : decode c_M_accepts 110 = .ok (.iload 8, 2) := by decide +kernel
theorem d_M_accepts_112 : decode c_M_accepts 112 = .ok (.aload_n 0, 1) := by decide +kernel
theorem d_M_accepts_113 : decode c_M_accepts 113 = .ok (.getfield 43, 3) := by decide +kernel
theorem d_M_accepts_116 : decode c_M_accepts 116 = .ok (.iload 7, 2) := by decide +kernel
theorem d_M_accepts_118 : decode c_M_accepts 118 = .ok (.iaload, 1) := by decide +kernel
theorem d_M_accepts_119 : decode c_M_accepts 119 = .ok (.iload 4, 2) := by decide +kernel
theorem d_M_accepts_121 : decode c_M_accepts 121 = .ok (.invokestatic 96, 3) := by decide +kernel
theorem d_M_accepts_124 : decode c_M_accepts 124 = .ok (.sipush 10007, 3) := by decide +kernel
theorem d_M_accepts_127 : decode c_M_accepts 127 = .ok (.invokestatic 92, 3) := by decide +kernel
theorem d_M_accepts_130 : decode c_M_accepts 130 = .ok (.if_icmp .ne 7, 3) := by decide +kernel
theorem d_M_accepts_133 : decode c_M_accepts 133 = .ok (.iconst 1, 1) := by decide +kernel
theorem d_M_accepts_134 : decode c_M_accepts 134 = .ok (.goto 4, 3) := by decide +kernel
theorem d_M_accepts_137 : decode c_M_accepts 137 = .ok (.iconst 0, 1) := by decide +kernel
theorem d_M_accepts_138 : decode c_M_accepts 138 = .ok (.istore_n 3, 1) := by decide +kernel
theorem d_M_accepts_139 : decode c_M_accepts 139 = .ok (.iinc 6 1, 3) := by decide +kernel
theorem d_M_accepts_142 : decode c_M_accepts 142 = .ok (.goto (-95), 3) := by decide +kernel
theorem d_M_accepts_145 : decode c_M_accepts 145 = .ok (.iload_n 3, 1) := by decide +kernel
theorem d_M_accepts_146 : decode c_M_accepts 146 = .ok (.ireturn, 1) := by decide +kernel

set_option maxHeartbeats 4000000 in
set_option maxRecDepth 100000 in
/-- accepts(n, old) -/
theorem k_acceptsM (l : Launch) (D : va_G) (ca : Nat → ClassId) (am : Nat → Nat) (ar : Nat → Nat → Nat) (n : Nat) (old : Bool) (hn : n < ar 0 2) (hl2 : ar 0 2 ≤ 8) (hN8 : tN ar) (hbs : ∀ i, i < 16 → ar 11 i < 10007) (his : ∀ i, i < 16 → ar 12 i < 10007) : Met l y_M_accepts (Cond.code y_M_accepts c_M_accepts 9 (some .boolean) :: zT) ({ frames := 3, cells := 0, slots := 0, locals := 120 }) (va_Pc [.ref (am 0), .int (nI n), .int (zb old)] (mw D ca am ar)) (QcRead (zb (acB ar old n))) 0 0 (fun _ => False) := by
  refine Met.ofW (cc := c_M_accepts) (maxL := 9) (ret := (some .boolean)) (by decide) rfl ?_
  intro p e s m args below meth c s₁ B hml hv
  obtain ⟨rfl, hK, hP⟩ := hv
  have hx := B.exec
  have hb := B.bytes
  have hr := B.returns
  have hts0 := atoms_spec (ws := Cond.code y_M_accepts c_M_accepts 9 (some .boolean) :: zT) B.pre
  have hts := fun w h => hts0 w (List.mem_cons_of_mem _ h)
  have hown : s.vm.findClass R_M = some m.cls := findClass_of_methodNamed B.named
  have hlocks := B.notSynchronized
  have hl := lv_entry ([.ref (am 0), .int (nI n), .int (zb old)]) (n := 9) (Nat.le_of_ble_eq_true rfl)
  rw [lg_entry_eq]
  generalize (lg_sl ([.ref (am 0), .int (nI n), .int (zb old)]) ++ List.replicate (9 - (lg_sl ([.ref (am 0), .int (nI n), .int (zb old)])).length) Slot.unset).toArray = ls at hl ⊢
  have hl : lv_has ls 9 [(0, .ref (am 0)), (1, .int (nI n)), (2, .int (zb old))] := hl
  cases old with
  | false =>
    have hb8 := hN8.2 n (by omega)
    refine lv_iconst (v := 1) hx hb d_M_accepts_0 rfl ?_
    refine lv_istore_n (lv' := [(3, .int 1), (0, .ref (am 0)), (1, .int (nI n)), (2, .int (zb false))]) hx hb d_M_accepts_1 rfl hl (by decide) rfl (fun ls hl => ?_)
    refine lv_iload_n hx hb d_M_accepts_2 rfl (lv_at hl 3 rfl) ?_
    refine lv_if_eq (tgt := 15) hx hb d_M_accepts_3 rfl (fun h3 => ?_) (fun h3 => absurd (rfl) h3)
    refine lv_aload_n hx hb d_M_accepts_15 rfl (lv_at hl 1 rfl) ?_
    refine mm_get hx hb hts hown hK hP (index := 52) 14 (by decide) mf_M_52 (v := .ref (am 15)) rfl d_M_accepts_16 ?_
    refine lv_iload_n hx hb d_M_accepts_19 rfl (lv_at hl 2 rfl) ?_
    refine mm_ald hx hb hK hP 14 (by decide) rfl (n) rfl (show n < 8 from by omega) (ar 15 n) (rfl) d_M_accepts_20 ?_
    refine lv_istore (lv' := [(4, .int (nI (ar 15 n))), (3, .int 1), (0, .ref (am 0)), (1, .int (nI n)), (2, .int (zb false))]) hx hb d_M_accepts_21 hl (by decide) rfl (fun ls hl => ?_)
    refine lv_iload_n hx hb d_M_accepts_23 rfl (lv_at hl 4 rfl) ?_
    refine lv_if_eq (tgt := 36) hx hb d_M_accepts_24 rfl (fun h24 => ?_) (fun h24 => absurd (rfl) h24)
    refine lv_aload_n hx hb d_M_accepts_36 rfl (lv_at hl 2 rfl) ?_
    refine mm_get hx hb hts hown hK hP (index := 55) 15 (by decide) mf_M_55 (v := .ref (am 16)) rfl d_M_accepts_37 ?_
    refine lv_iload_n hx hb d_M_accepts_40 rfl (lv_at hl 3 rfl) ?_
    refine mm_ald hx hb hK hP 15 (by decide) rfl (n) rfl (show n < 8 from by omega) (ar 16 n) (rfl) d_M_accepts_41 ?_
    refine lv_istore (lv' := [(5, .int (nI (ar 16 n))), (4, .int (nI (ar 15 n))), (3, .int 1), (0, .ref (am 0)), (1, .int (nI n)), (2, .int (zb false))]) hx hb d_M_accepts_42 hl (by decide) rfl (fun ls hl => ?_)
    refine lv_iconst (v := 0) hx hb d_M_accepts_44 rfl ?_
    refine lv_istore (lv' := [(6, .int 0), (5, .int (nI (ar 16 n))), (4, .int (nI (ar 15 n))), (3, .int 1), (0, .ref (am 0)), (1, .int (nI n)), (2, .int (zb false))]) hx hb d_M_accepts_45 hl (by decide) rfl (fun ls hl => ?_)
    have hl : lv_has ls 9 [(6, .int 0), (5, .int (nI (ar 16 n))), (4, .int (nI (ar 15 n))), (3, .int 1), (0, .ref (am 0)), (1, .int (nI n)), (2, .int (zb false))] := hl
    refine lv_iload hx hb d_M_accepts_47 (lv_at hl 0 rfl) ?_
    refine lv_iconst (v := 2) hx hb d_M_accepts_49 rfl ?_
    refine lv_icmp_ge (tgt := 145) hx hb d_M_accepts_50 rfl (fun h50 => absurd h50 (by decide)) (fun h50 => ?_)
    refine lv_iconst (v := 2) hx hb d_M_accepts_53 rfl ?_
    refine lv_iload_n hx hb d_M_accepts_54 rfl (lv_at hl 5 rfl) ?_
    refine lv_imul hx hb d_M_accepts_55 ?_
    refine zz_as (y := nI (2 * n)) (pk_mul 2 n) ?_
    refine lv_iload hx hb d_M_accepts_56 (lv_at hl 0 rfl) ?_
    refine lv_iadd hx hb d_M_accepts_58 ?_
    refine zz_as (y := nI ((2 * n) + 0)) (nI_add (2 * n) 0) ?_
    refine lv_istore (lv' := [(7, .int (nI ((2 * n) + 0))), (6, .int 0), (5, .int (nI (ar 16 n))), (4, .int (nI (ar 15 n))), (3, .int 1), (0, .ref (am 0)), (1, .int (nI n)), (2, .int (zb false))]) hx hb d_M_accepts_59 hl (by decide) rfl (fun ls hl => ?_)
    refine lv_iload_n hx hb d_M_accepts_61 rfl (lv_at hl 7 rfl) ?_
    refine lv_if_eq (tgt := 75) hx hb d_M_accepts_62 rfl (fun h62 => ?_) (fun h62 => absurd (rfl) h62)
    refine lv_aload_n hx hb d_M_accepts_75 rfl (lv_at hl 5 rfl) ?_
    refine mm_get hx hb hts hown hK hP (index := 49) 13 (by decide) mf_M_49 (v := .ref (am 14)) rfl d_M_accepts_76 ?_
    refine lv_iload hx hb d_M_accepts_79 (lv_at hl 0 rfl) ?_
    refine mm_ald hx hb hK hP 13 (by decide) rfl ((2 * n) + 0) rfl (show (2 * n) + 0 < 16 from by omega) (ar 14 ((2 * n) + 0)) (rfl) d_M_accepts_81 ?_
    refine lv_istore (lv' := [(8, .int (nI (ar 14 ((2 * n) + 0)))), (7, .int (nI ((2 * n) + 0))), (6, .int 0), (5, .int (nI (ar 16 n))), (4, .int (nI (ar 15 n))), (3, .int 1), (0, .ref (am 0)), (1, .int (nI n)), (2, .int (zb false))]) hx hb d_M_accepts_82 hl (by decide) rfl (fun ls hl => ?_)
    refine lv_aload_n hx hb d_M_accepts_84 rfl (lv_at hl 6 rfl) ?_
    refine lv_iload_n hx hb d_M_accepts_85 rfl (lv_at hl 7 rfl) ?_
    refine lv_iload hx hb d_M_accepts_86 (lv_at hl 2 rfl) ?_
    refine zz_cV (index := 138) (n := 2) (As := [.int (nI n), .int 0]) (rest := []) ⟨hx, hb, hml, hown, hts⟩ (k_isPairM l D ca am (ar) n 0 (by omega) (by decide) hl2 hbs) mk_M_138 mo_M_isPair me_M_M_isPair_M mi_M mc_M_isPair (by decide +kernel) ⟨rfl, rfl⟩ ⟨by decide, by decide⟩ (mm_pre hK hP) rfl hl.1 rfl (Nat.le_of_ble_eq_true rfl) d_M_accepts_88 ⟨Nat.zero_le _, Nat.zero_le _⟩ ?_
    refine lv_if_eq (tgt := 139) hx hb d_M_accepts_91 rfl (fun h91 => ?_) (fun h91 => ?_)
    · skip
      have a0 : acP ar false n 0 = true := acP_n (pairB_f hn (zb_eq (b := pairB ar n 0) h91))
      refine lv_iinc (k := 2) (v := nI (0 + 1)) (lv' := [(6, .int (nI (0 + 1))), (8, .int (nI (ar 14 ((2 * n) + 0)))), (7, .int (nI ((2 * n) + 0))), (5, .int (nI (ar 16 n))), (4, .int (nI (ar 15 n))), (3, .int 1), (0, .ref (am 0)), (1, .int (nI n)), (2, .int (zb false))]) hx hb d_M_accepts_139 hl rfl (nI_1 _) (by decide) rfl (fun ls hl => ?_)
      refine lv_goto (tgt := 47) hx hb d_M_accepts_142 rfl ?_
      have hl : lv_has ls 9 [(6, .int 1), (8, .int (nI (ar 14 ((2 * n) + 0)))), (7, .int (nI ((2 * n) + 0))), (5, .int (nI (ar 16 n))), (4, .int (nI (ar 15 n))), (3, .int 1), (0, .ref (am 0)), (1, .int (nI n)), (2, .int (zb false))] := hl
      refine lv_iload hx hb d_M_accepts_47 (lv_at hl 0 rfl) ?_
      refine lv_iconst (v := 2) hx hb d_M_accepts_49 rfl ?_
      refine lv_icmp_ge (tgt := 145) hx hb d_M_accepts_50 rfl (fun h50 => absurd h50 (by decide)) (fun h50 => ?_)
      refine lv_iconst (v := 2) hx hb d_M_accepts_53 rfl ?_
      refine lv_iload_n hx hb d_M_accepts_54 rfl (lv_at hl 7 rfl) ?_
      refine lv_imul hx hb d_M_accepts_55 ?_
      refine zz_as (y := nI (2 * n)) (pk_mul 2 n) ?_
      refine lv_iload hx hb d_M_accepts_56 (lv_at hl 0 rfl) ?_
      refine lv_iadd hx hb d_M_accepts_58 ?_
      refine zz_as (y := nI ((2 * n) + 1)) (nI_add (2 * n) 1) ?_
      refine lv_istore (lv' := [(7, .int (nI ((2 * n) + 1))), (6, .int 1), (8, .int (nI (ar 14 ((2 * n) + 0)))), (5, .int (nI (ar 16 n))), (4, .int (nI (ar 15 n))), (3, .int 1), (0, .ref (am 0)), (1, .int (nI n)), (2, .int (zb false))]) hx hb d_M_accepts_59 hl (by decide) rfl (fun ls hl => ?_)
      refine lv_iload_n hx hb d_M_accepts_61 rfl (lv_at hl 8 rfl) ?_
      refine lv_if_eq (tgt := 75) hx hb d_M_accepts_62 rfl (fun h62 => ?_) (fun h62 => absurd (rfl) h62)
      refine lv_aload_n hx hb d_M_accepts_75 rfl (lv_at hl 6 rfl) ?_
      refine mm_get hx hb hts hown hK hP (index := 49) 13 (by decide) mf_M_49 (v := .ref (am 14)) rfl d_M_accepts_76 ?_
      refine lv_iload hx hb d_M_accepts_79 (lv_at hl 0 rfl) ?_
      refine mm_ald hx hb hK hP 13 (by decide) rfl ((2 * n) + 1) rfl (show (2 * n) + 1 < 16 from by omega) (ar 14 ((2 * n) + 1)) (rfl) d_M_accepts_81 ?_
      refine lv_istore (lv' := [(8, .int (nI (ar 14 ((2 * n) + 1)))), (7, .int (nI ((2 * n) + 1))), (6, .int 1), (5, .int (nI (ar 16 n))), (4, .int (nI (ar 15 n))), (3, .int 1), (0, .ref (am 0)), (1, .int (nI n)), (2, .int (zb false))]) hx hb d_M_accepts_82 hl (by decide) rfl (fun ls hl => ?_)
      refine lv_aload_n hx hb d_M_accepts_84 rfl (lv_at hl 6 rfl) ?_
      refine lv_iload_n hx hb d_M_accepts_85 rfl (lv_at hl 7 rfl) ?_
      refine lv_iload hx hb d_M_accepts_86 (lv_at hl 2 rfl) ?_
      refine zz_cV (index := 138) (n := 2) (As := [.int (nI n), .int 1]) (rest := []) ⟨hx, hb, hml, hown, hts⟩ (k_isPairM l D ca am (ar) n 1 (by omega) (by decide) hl2 hbs) mk_M_138 mo_M_isPair me_M_M_isPair_M mi_M mc_M_isPair (by decide +kernel) ⟨rfl, rfl⟩ ⟨by decide, by decide⟩ (mm_pre hK hP) rfl hl.1 rfl (Nat.le_of_ble_eq_true rfl) d_M_accepts_88 ⟨Nat.zero_le _, Nat.zero_le _⟩ ?_
      refine lv_if_eq (tgt := 139) hx hb d_M_accepts_91 rfl (fun h91 => ?_) (fun h91 => ?_)
      · skip
        have a1 : acP ar false n 1 = true := acP_n (pairB_f hn (zb_eq (b := pairB ar n 1) h91))
        refine lv_iinc (k := 2) (v := nI (1 + 1)) (lv' := [(6, .int (nI (1 + 1))), (8, .int (nI (ar 14 ((2 * n) + 1)))), (7, .int (nI ((2 * n) + 1))), (5, .int (nI (ar 16 n))), (4, .int (nI (ar 15 n))), (3, .int 1), (0, .ref (am 0)), (1, .int (nI n)), (2, .int (zb false))]) hx hb d_M_accepts_139 hl rfl (nI_1 _) (by decide) rfl (fun ls hl => ?_)
        refine lv_goto (tgt := 47) hx hb d_M_accepts_142 rfl ?_
        have hl : lv_has ls 9 [(6, .int 2), (8, .int (nI (ar 14 ((2 * n) + 1)))), (7, .int (nI ((2 * n) + 1))), (5, .int (nI (ar 16 n))), (4, .int (nI (ar 15 n))), (3, .int 1), (0, .ref (am 0)), (1, .int (nI n)), (2, .int (zb false))] := hl
        refine lv_iload hx hb d_M_accepts_47 (lv_at hl 0 rfl) ?_
        refine lv_iconst (v := 2) hx hb d_M_accepts_49 rfl ?_
        refine lv_icmp_ge (tgt := 145) hx hb d_M_accepts_50 rfl (fun h50 => ?_) (fun h50 => absurd (by decide) h50)
        refine lv_iload_n hx hb d_M_accepts_145 rfl (lv_at hl 5 rfl) ?_
        have hq : acB ar false n = true := by unfold acB; rw [a0, a1]; rfl
        refine zz_as (y := zb (acB ar false n)) (by rw [hq]; rfl) ?_
        exact W.zret hx hb hr (zb_nar _) (fun t ht hW => ⟨rfl, ht⟩) (fun q h => absurd h List.not_mem_nil) d_M_accepts_146
      · skip
        have hp : 0 < ar 11 (2 * n + 1) := (pairB_t (zb_ne (b := pairB ar n 1) h91)).2
        refine lv_iload_n hx hb d_M_accepts_94 rfl (lv_at hl 5 rfl) ?_
        refine lv_if_eq (tgt := 137) hx hb d_M_accepts_95 rfl (fun h95 => absurd h95 (by decide)) (fun h95 => ?_)
        refine lv_aload_n hx hb d_M_accepts_98 rfl (lv_at hl 6 rfl) ?_
        refine mm_get hx hb hts hown hK hP (index := 40) 10 (by decide) mf_M_40 (v := .ref (am 11)) rfl d_M_accepts_99 ?_
        refine lv_iload hx hb d_M_accepts_102 (lv_at hl 1 rfl) ?_
        refine mm_ald hx hb hK hP 10 (by decide) rfl ((2 * n) + 1) rfl (show (2 * n) + 1 < 16 from by omega) (ar 11 ((2 * n) + 1)) (rfl) d_M_accepts_104 ?_
        refine lv_iload hx hb d_M_accepts_105 (lv_at hl 3 rfl) ?_
        refine zz_cS (index := 96) (n := 2) (As := [.int (nI (ar 11 (2 * n + 1))), .int (nI (ar 16 n))]) (rest := []) ⟨hx, hb, hml, hown, hts⟩ (k_raised l (ar 11 (2 * n + 1)) (ar 16 n) (hbs _ (by omega)) (by omega)) mk_M_96 ms_M_raised mi_M mc_M_raised (by decide +kernel) ⟨rfl, rfl⟩ ⟨by decide, by decide⟩ preEq rfl hl.1 rfl (Nat.le_of_ble_eq_true rfl) d_M_accepts_107 ⟨Nat.zero_le _, Nat.zero_le _⟩ ?_
        refine lv_iload hx hb d_M_accepts_110 (lv_at hl 0 rfl) ?_
        refine lv_aload_n hx hb d_M_accepts_112 rfl (lv_at hl 6 rfl) ?_
        refine mm_get hx hb hts hown hK hP (index := 43) 11 (by decide) mf_M_43 (v := .ref (am 12)) rfl d_M_accepts_113 ?_
        refine lv_iload hx hb d_M_accepts_116 (lv_at hl 1 rfl) ?_
        refine mm_ald hx hb hK hP 11 (by decide) rfl ((2 * n) + 1) rfl (show (2 * n) + 1 < 16 from by omega) (ar 12 ((2 * n) + 1)) (rfl) d_M_accepts_118 ?_
        refine lv_iload hx hb d_M_accepts_119 (lv_at hl 4 rfl) ?_
        refine zz_cS (index := 96) (n := 2) (As := [.int (nI (ar 12 (2 * n + 1))), .int (nI (ar 15 n))]) (rest := [.int (nI (ar 14 ((2 * n) + 1))), .int (nI (ar 11 (2 * n + 1) ^ ar 16 n % 10007))]) ⟨hx, hb, hml, hown, hts⟩ (k_raised l (ar 12 (2 * n + 1)) (ar 15 n) (his _ (by omega)) (by omega)) mk_M_96 ms_M_raised mi_M mc_M_raised (by decide +kernel) ⟨rfl, rfl⟩ ⟨by decide, by decide⟩ preEq rfl hl.1 rfl (Nat.le_of_ble_eq_true rfl) d_M_accepts_121 ⟨Nat.zero_le _, Nat.zero_le _⟩ ?_
        refine lv_sipush (v := 10007) hx hb d_M_accepts_124 rfl ?_
        refine zz_cS (index := 92) (n := 3) (As := [.int (nI (ar 14 (2 * n + 1))), .int (nI (ar 12 (2 * n + 1) ^ ar 15 n % 10007)), .int 10007]) (rest := [.int (nI (ar 11 (2 * n + 1) ^ ar 16 n % 10007))]) ⟨hx, hb, hml, hown, hts⟩ (k_times l (ar 14 (2 * n + 1)) (ar 12 (2 * n + 1) ^ ar 15 n % 10007) 10007 (by have := hN8.1 (2 * n + 1) (by omega); omega) (Nat.lt_trans (Nat.mod_lt _ (by decide)) (by decide)) (by decide) (by decide)) mk_M_92 ms_M_times mi_M mc_M_times (by decide +kernel) ⟨rfl, rfl⟩ ⟨by decide, by decide⟩ preEq rfl hl.1 rfl (Nat.le_of_ble_eq_true rfl) d_M_accepts_127 ⟨Nat.zero_le _, Nat.zero_le _⟩ ?_
        refine lv_icmp_ne (tgt := 137) hx hb d_M_accepts_130 rfl (fun h130 => ?_) (fun h130 => ?_)
        · skip
          have a1 : acP ar false n 1 = false := acP_f hp (fun q => h130 (congrArg nI q))
          refine lv_iconst (v := 0) hx hb d_M_accepts_137 rfl ?_
          refine lv_istore_n (lv' := [(3, .int 0), (8, .int (nI (ar 14 ((2 * n) + 1)))), (7, .int (nI ((2 * n) + 1))), (6, .int 1), (5, .int (nI (ar 16 n))), (4, .int (nI (ar 15 n))), (0, .ref (am 0)), (1, .int (nI n)), (2, .int (zb false))]) hx hb d_M_accepts_138 rfl hl (by decide) rfl (fun ls hl => ?_)
          refine lv_iinc (k := 3) (v := nI (1 + 1)) (lv' := [(6, .int (nI (1 + 1))), (3, .int 0), (8, .int (nI (ar 14 ((2 * n) + 1)))), (7, .int (nI ((2 * n) + 1))), (5, .int (nI (ar 16 n))), (4, .int (nI (ar 15 n))), (0, .ref (am 0)), (1, .int (nI n)), (2, .int (zb false))]) hx hb d_M_accepts_139 hl rfl (nI_1 _) (by decide) rfl (fun ls hl => ?_)
          refine lv_goto (tgt := 47) hx hb d_M_accepts_142 rfl ?_
          have hl : lv_has ls 9 [(6, .int 2), (3, .int 0), (8, .int (nI (ar 14 ((2 * n) + 1)))), (7, .int (nI ((2 * n) + 1))), (5, .int (nI (ar 16 n))), (4, .int (nI (ar 15 n))), (0, .ref (am 0)), (1, .int (nI n)), (2, .int (zb false))] := hl
          refine lv_iload hx hb d_M_accepts_47 (lv_at hl 0 rfl) ?_
          refine lv_iconst (v := 2) hx hb d_M_accepts_49 rfl ?_
          refine lv_icmp_ge (tgt := 145) hx hb d_M_accepts_50 rfl (fun h50 => ?_) (fun h50 => absurd (by decide) h50)
          refine lv_iload_n hx hb d_M_accepts_145 rfl (lv_at hl 1 rfl) ?_
          have hq : acB ar false n = false := by unfold acB; first | (rw [a0]; rfl) | (rw [a1, Bool.and_false])
          refine zz_as (y := zb (acB ar false n)) (by rw [hq]; rfl) ?_
          exact W.zret hx hb hr (zb_nar _) (fun t ht hW => ⟨rfl, ht⟩) (fun q h => absurd h List.not_mem_nil) d_M_accepts_146
        · skip
          have a1 : acP ar false n 1 = true := acP_e (zn_eqm.mp h130)
          refine lv_iconst (v := 1) hx hb d_M_accepts_133 rfl ?_
          refine lv_goto (tgt := 138) hx hb d_M_accepts_134 rfl ?_
          refine lv_istore_n (lv' := [(3, .int 1), (8, .int (nI (ar 14 ((2 * n) + 1)))), (7, .int (nI ((2 * n) + 1))), (6, .int 1), (5, .int (nI (ar 16 n))), (4, .int (nI (ar 15 n))), (0, .ref (am 0)), (1, .int (nI n)), (2, .int (zb false))]) hx hb d_M_accepts_138 rfl hl (by decide) rfl (fun ls hl => ?_)
          refine lv_iinc (k := 3) (v := nI (1 + 1)) (lv' := [(6, .int (nI (1 + 1))), (3, .int 1), (8, .int (nI (ar 14 ((2 * n) + 1)))), (7, .int (nI ((2 * n) + 1))), (5, .int (nI (ar 16 n))), (4, .int (nI (ar 15 n))), (0, .ref (am 0)), (1, .int (nI n)), (2, .int (zb false))]) hx hb d_M_accepts_139 hl rfl (nI_1 _) (by decide) rfl (fun ls hl => ?_)
          refine lv_goto (tgt := 47) hx hb d_M_accepts_142 rfl ?_
          have hl : lv_has ls 9 [(6, .int 2), (3, .int 1), (8, .int (nI (ar 14 ((2 * n) + 1)))), (7, .int (nI ((2 * n) + 1))), (5, .int (nI (ar 16 n))), (4, .int (nI (ar 15 n))), (0, .ref (am 0)), (1, .int (nI n)), (2, .int (zb false))] := hl
          refine lv_iload hx hb d_M_accepts_47 (lv_at hl 0 rfl) ?_
          refine lv_iconst (v := 2) hx hb d_M_accepts_49 rfl ?_
          refine lv_icmp_ge (tgt := 145) hx hb d_M_accepts_50 rfl (fun h50 => ?_) (fun h50 => absurd (by decide) h50)
          refine lv_iload_n hx hb d_M_accepts_145 rfl (lv_at hl 1 rfl) ?_
          have hq : acB ar false n = true := by unfold acB; rw [a0, a1]; rfl
          refine zz_as (y := zb (acB ar false n)) (by rw [hq]; rfl) ?_
          exact W.zret hx hb hr (zb_nar _) (fun t ht hW => ⟨rfl, ht⟩) (fun q h => absurd h List.not_mem_nil) d_M_accepts_146
    · skip
      have hp : 0 < ar 11 (2 * n + 0) := (pairB_t (zb_ne (b := pairB ar n 0) h91)).2
      refine lv_iload_n hx hb d_M_accepts_94 rfl (lv_at hl 5 rfl) ?_
      refine lv_if_eq (tgt := 137) hx hb d_M_accepts_95 rfl (fun h95 => absurd h95 (by decide)) (fun h95 => ?_)
      refine lv_aload_n hx hb d_M_accepts_98 rfl (lv_at hl 6 rfl) ?_
      refine mm_get hx hb hts hown hK hP (index := 40) 10 (by decide) mf_M_40 (v := .ref (am 11)) rfl d_M_accepts_99 ?_
      refine lv_iload hx hb d_M_accepts_102 (lv_at hl 1 rfl) ?_
      refine mm_ald hx hb hK hP 10 (by decide) rfl ((2 * n) + 0) rfl (show (2 * n) + 0 < 16 from by omega) (ar 11 ((2 * n) + 0)) (rfl) d_M_accepts_104 ?_
      refine lv_iload hx hb d_M_accepts_105 (lv_at hl 3 rfl) ?_
      refine zz_cS (index := 96) (n := 2) (As := [.int (nI (ar 11 (2 * n + 0))), .int (nI (ar 16 n))]) (rest := []) ⟨hx, hb, hml, hown, hts⟩ (k_raised l (ar 11 (2 * n + 0)) (ar 16 n) (hbs _ (by omega)) (by omega)) mk_M_96 ms_M_raised mi_M mc_M_raised (by decide +kernel) ⟨rfl, rfl⟩ ⟨by decide, by decide⟩ preEq rfl hl.1 rfl (Nat.le_of_ble_eq_true rfl) d_M_accepts_107 ⟨Nat.zero_le _, Nat.zero_le _⟩ ?_
      refine lv_iload hx hb d_M_accepts_110 (lv_at hl 0 rfl) ?_
      refine lv_aload_n hx hb d_M_accepts_112 rfl (lv_at hl 6 rfl) ?_
      refine mm_get hx hb hts hown hK hP (index := 43) 11 (by decide) mf_M_43 (v := .ref (am 12)) rfl d_M_accepts_113 ?_
      refine lv_iload hx hb d_M_accepts_116 (lv_at hl 1 rfl) ?_
      refine mm_ald hx hb hK hP 11 (by decide) rfl ((2 * n) + 0) rfl (show (2 * n) + 0 < 16 from by omega) (ar 12 ((2 * n) + 0)) (rfl) d_M_accepts_118 ?_
      refine lv_iload hx hb d_M_accepts_119 (lv_at hl 4 rfl) ?_
      refine zz_cS (index := 96) (n := 2) (As := [.int (nI (ar 12 (2 * n + 0))), .int (nI (ar 15 n))]) (rest := [.int (nI (ar 14 ((2 * n) + 0))), .int (nI (ar 11 (2 * n + 0) ^ ar 16 n % 10007))]) ⟨hx, hb, hml, hown, hts⟩ (k_raised l (ar 12 (2 * n + 0)) (ar 15 n) (his _ (by omega)) (by omega)) mk_M_96 ms_M_raised mi_M mc_M_raised (by decide +kernel) ⟨rfl, rfl⟩ ⟨by decide, by decide⟩ preEq rfl hl.1 rfl (Nat.le_of_ble_eq_true rfl) d_M_accepts_121 ⟨Nat.zero_le _, Nat.zero_le _⟩ ?_
      refine lv_sipush (v := 10007) hx hb d_M_accepts_124 rfl ?_
      refine zz_cS (index := 92) (n := 3) (As := [.int (nI (ar 14 (2 * n + 0))), .int (nI (ar 12 (2 * n + 0) ^ ar 15 n % 10007)), .int 10007]) (rest := [.int (nI (ar 11 (2 * n + 0) ^ ar 16 n % 10007))]) ⟨hx, hb, hml, hown, hts⟩ (k_times l (ar 14 (2 * n + 0)) (ar 12 (2 * n + 0) ^ ar 15 n % 10007) 10007 (by have := hN8.1 (2 * n + 0) (by omega); omega) (Nat.lt_trans (Nat.mod_lt _ (by decide)) (by decide)) (by decide) (by decide)) mk_M_92 ms_M_times mi_M mc_M_times (by decide +kernel) ⟨rfl, rfl⟩ ⟨by decide, by decide⟩ preEq rfl hl.1 rfl (Nat.le_of_ble_eq_true rfl) d_M_accepts_127 ⟨Nat.zero_le _, Nat.zero_le _⟩ ?_
      refine lv_icmp_ne (tgt := 137) hx hb d_M_accepts_130 rfl (fun h130 => ?_) (fun h130 => ?_)
      · skip
        have a0 : acP ar false n 0 = false := acP_f hp (fun q => h130 (congrArg nI q))
        refine lv_iconst (v := 0) hx hb d_M_accepts_137 rfl ?_
        refine lv_istore_n (lv' := [(3, .int 0), (8, .int (nI (ar 14 ((2 * n) + 0)))), (7, .int (nI ((2 * n) + 0))), (6, .int 0), (5, .int (nI (ar 16 n))), (4, .int (nI (ar 15 n))), (0, .ref (am 0)), (1, .int (nI n)), (2, .int (zb false))]) hx hb d_M_accepts_138 rfl hl (by decide) rfl (fun ls hl => ?_)
        refine lv_iinc (k := 3) (v := nI (0 + 1)) (lv' := [(6, .int (nI (0 + 1))), (3, .int 0), (8, .int (nI (ar 14 ((2 * n) + 0)))), (7, .int (nI ((2 * n) + 0))), (5, .int (nI (ar 16 n))), (4, .int (nI (ar 15 n))), (0, .ref (am 0)), (1, .int (nI n)), (2, .int (zb false))]) hx hb d_M_accepts_139 hl rfl (nI_1 _) (by decide) rfl (fun ls hl => ?_)
        refine lv_goto (tgt := 47) hx hb d_M_accepts_142 rfl ?_
        have hl : lv_has ls 9 [(6, .int 1), (3, .int 0), (8, .int (nI (ar 14 ((2 * n) + 0)))), (7, .int (nI ((2 * n) + 0))), (5, .int (nI (ar 16 n))), (4, .int (nI (ar 15 n))), (0, .ref (am 0)), (1, .int (nI n)), (2, .int (zb false))] := hl
        refine lv_iload hx hb d_M_accepts_47 (lv_at hl 0 rfl) ?_
        refine lv_iconst (v := 2) hx hb d_M_accepts_49 rfl ?_
        refine lv_icmp_ge (tgt := 145) hx hb d_M_accepts_50 rfl (fun h50 => absurd h50 (by decide)) (fun h50 => ?_)
        refine lv_iconst (v := 2) hx hb d_M_accepts_53 rfl ?_
        refine lv_iload_n hx hb d_M_accepts_54 rfl (lv_at hl 7 rfl) ?_
        refine lv_imul hx hb d_M_accepts_55 ?_
        refine zz_as (y := nI (2 * n)) (pk_mul 2 n) ?_
        refine lv_iload hx hb d_M_accepts_56 (lv_at hl 0 rfl) ?_
        refine lv_iadd hx hb d_M_accepts_58 ?_
        refine zz_as (y := nI ((2 * n) + 1)) (nI_add (2 * n) 1) ?_
        refine lv_istore (lv' := [(7, .int (nI ((2 * n) + 1))), (6, .int 1), (3, .int 0), (8, .int (nI (ar 14 ((2 * n) + 0)))), (5, .int (nI (ar 16 n))), (4, .int (nI (ar 15 n))), (0, .ref (am 0)), (1, .int (nI n)), (2, .int (zb false))]) hx hb d_M_accepts_59 hl (by decide) rfl (fun ls hl => ?_)
        refine lv_iload_n hx hb d_M_accepts_61 rfl (lv_at hl 8 rfl) ?_
        refine lv_if_eq (tgt := 75) hx hb d_M_accepts_62 rfl (fun h62 => ?_) (fun h62 => absurd (rfl) h62)
        refine lv_aload_n hx hb d_M_accepts_75 rfl (lv_at hl 6 rfl) ?_
        refine mm_get hx hb hts hown hK hP (index := 49) 13 (by decide) mf_M_49 (v := .ref (am 14)) rfl d_M_accepts_76 ?_
        refine lv_iload hx hb d_M_accepts_79 (lv_at hl 0 rfl) ?_
        refine mm_ald hx hb hK hP 13 (by decide) rfl ((2 * n) + 1) rfl (show (2 * n) + 1 < 16 from by omega) (ar 14 ((2 * n) + 1)) (rfl) d_M_accepts_81 ?_
        refine lv_istore (lv' := [(8, .int (nI (ar 14 ((2 * n) + 1)))), (7, .int (nI ((2 * n) + 1))), (6, .int 1), (3, .int 0), (5, .int (nI (ar 16 n))), (4, .int (nI (ar 15 n))), (0, .ref (am 0)), (1, .int (nI n)), (2, .int (zb false))]) hx hb d_M_accepts_82 hl (by decide) rfl (fun ls hl => ?_)
        refine lv_aload_n hx hb d_M_accepts_84 rfl (lv_at hl 6 rfl) ?_
        refine lv_iload_n hx hb d_M_accepts_85 rfl (lv_at hl 7 rfl) ?_
        refine lv_iload hx hb d_M_accepts_86 (lv_at hl 2 rfl) ?_
        refine zz_cV (index := 138) (n := 2) (As := [.int (nI n), .int 1]) (rest := []) ⟨hx, hb, hml, hown, hts⟩ (k_isPairM l D ca am (ar) n 1 (by omega) (by decide) hl2 hbs) mk_M_138 mo_M_isPair me_M_M_isPair_M mi_M mc_M_isPair (by decide +kernel) ⟨rfl, rfl⟩ ⟨by decide, by decide⟩ (mm_pre hK hP) rfl hl.1 rfl (Nat.le_of_ble_eq_true rfl) d_M_accepts_88 ⟨Nat.zero_le _, Nat.zero_le _⟩ ?_
        refine lv_if_eq (tgt := 139) hx hb d_M_accepts_91 rfl (fun h91 => ?_) (fun h91 => ?_)
        · skip
          have a1 : acP ar false n 1 = true := acP_n (pairB_f hn (zb_eq (b := pairB ar n 1) h91))
          refine lv_iinc (k := 2) (v := nI (1 + 1)) (lv' := [(6, .int (nI (1 + 1))), (8, .int (nI (ar 14 ((2 * n) + 1)))), (7, .int (nI ((2 * n) + 1))), (3, .int 0), (5, .int (nI (ar 16 n))), (4, .int (nI (ar 15 n))), (0, .ref (am 0)), (1, .int (nI n)), (2, .int (zb false))]) hx hb d_M_accepts_139 hl rfl (nI_1 _) (by decide) rfl (fun ls hl => ?_)
          refine lv_goto (tgt := 47) hx hb d_M_accepts_142 rfl ?_
          have hl : lv_has ls 9 [(6, .int 2), (8, .int (nI (ar 14 ((2 * n) + 1)))), (7, .int (nI ((2 * n) + 1))), (3, .int 0), (5, .int (nI (ar 16 n))), (4, .int (nI (ar 15 n))), (0, .ref (am 0)), (1, .int (nI n)), (2, .int (zb false))] := hl
          refine lv_iload hx hb d_M_accepts_47 (lv_at hl 0 rfl) ?_
          refine lv_iconst (v := 2) hx hb d_M_accepts_49 rfl ?_
          refine lv_icmp_ge (tgt := 145) hx hb d_M_accepts_50 rfl (fun h50 => ?_) (fun h50 => absurd (by decide) h50)
          refine lv_iload_n hx hb d_M_accepts_145 rfl (lv_at hl 3 rfl) ?_
          have hq : acB ar false n = false := by unfold acB; first | (rw [a0]; rfl) | (rw [a1, Bool.and_false])
          refine zz_as (y := zb (acB ar false n)) (by rw [hq]; rfl) ?_
          exact W.zret hx hb hr (zb_nar _) (fun t ht hW => ⟨rfl, ht⟩) (fun q h => absurd h List.not_mem_nil) d_M_accepts_146
        · skip
          have hp : 0 < ar 11 (2 * n + 1) := (pairB_t (zb_ne (b := pairB ar n 1) h91)).2
          refine lv_iload_n hx hb d_M_accepts_94 rfl (lv_at hl 3 rfl) ?_
          refine lv_if_eq (tgt := 137) hx hb d_M_accepts_95 rfl (fun h95 => ?_) (fun h95 => absurd (rfl) h95)
          refine lv_iconst (v := 0) hx hb d_M_accepts_137 rfl ?_
          refine lv_istore_n (lv' := [(3, .int 0), (8, .int (nI (ar 14 ((2 * n) + 1)))), (7, .int (nI ((2 * n) + 1))), (6, .int 1), (5, .int (nI (ar 16 n))), (4, .int (nI (ar 15 n))), (0, .ref (am 0)), (1, .int (nI n)), (2, .int (zb false))]) hx hb d_M_accepts_138 rfl hl (by decide) rfl (fun ls hl => ?_)
          refine lv_iinc (k := 3) (v := nI (1 + 1)) (lv' := [(6, .int (nI (1 + 1))), (3, .int 0), (8, .int (nI (ar 14 ((2 * n) + 1)))), (7, .int (nI ((2 * n) + 1))), (5, .int (nI (ar 16 n))), (4, .int (nI (ar 15 n))), (0, .ref (am 0)), (1, .int (nI n)), (2, .int (zb false))]) hx hb d_M_accepts_139 hl rfl (nI_1 _) (by decide) rfl (fun ls hl => ?_)
          refine lv_goto (tgt := 47) hx hb d_M_accepts_142 rfl ?_
          have hl : lv_has ls 9 [(6, .int 2), (3, .int 0), (8, .int (nI (ar 14 ((2 * n) + 1)))), (7, .int (nI ((2 * n) + 1))), (5, .int (nI (ar 16 n))), (4, .int (nI (ar 15 n))), (0, .ref (am 0)), (1, .int (nI n)), (2, .int (zb false))] := hl
          refine lv_iload hx hb d_M_accepts_47 (lv_at hl 0 rfl) ?_
          refine lv_iconst (v := 2) hx hb d_M_accepts_49 rfl ?_
          refine lv_icmp_ge (tgt := 145) hx hb d_M_accepts_50 rfl (fun h50 => ?_) (fun h50 => absurd (by decide) h50)
          refine lv_iload_n hx hb d_M_accepts_145 rfl (lv_at hl 1 rfl) ?_
          have hq : acB ar false n = false := by unfold acB; first | (rw [a0]; rfl) | (rw [a1, Bool.and_false])
          refine zz_as (y := zb (acB ar false n)) (by rw [hq]; rfl) ?_
          exact W.zret hx hb hr (zb_nar _) (fun t ht hW => ⟨rfl, ht⟩) (fun q h => absurd h List.not_mem_nil) d_M_accepts_146
      · skip
        have a0 : acP ar false n 0 = true := acP_e (zn_eqm.mp h130)
        refine lv_iconst (v := 1) hx hb d_M_accepts_133 rfl ?_
        refine lv_goto (tgt := 138) hx hb d_M_accepts_134 rfl ?_
        refine lv_istore_n (lv' := [(3, .int 1), (8, .int (nI (ar 14 ((2 * n) + 0)))), (7, .int (nI ((2 * n) + 0))), (6, .int 0), (5, .int (nI (ar 16 n))), (4, .int (nI (ar 15 n))), (0, .ref (am 0)), (1, .int (nI n)), (2, .int (zb false))]) hx hb d_M_accepts_138 rfl hl (by decide) rfl (fun ls hl => ?_)
        refine lv_iinc (k := 3) (v := nI (0 + 1)) (lv' := [(6, .int (nI (0 + 1))), (3, .int 1), (8, .int (nI (ar 14 ((2 * n) + 0)))), (7, .int (nI ((2 * n) + 0))), (5, .int (nI (ar 16 n))), (4, .int (nI (ar 15 n))), (0, .ref (am 0)), (1, .int (nI n)), (2, .int (zb false))]) hx hb d_M_accepts_139 hl rfl (nI_1 _) (by decide) rfl (fun ls hl => ?_)
        refine lv_goto (tgt := 47) hx hb d_M_accepts_142 rfl ?_
        have hl : lv_has ls 9 [(6, .int 1), (3, .int 1), (8, .int (nI (ar 14 ((2 * n) + 0)))), (7, .int (nI ((2 * n) + 0))), (5, .int (nI (ar 16 n))), (4, .int (nI (ar 15 n))), (0, .ref (am 0)), (1, .int (nI n)), (2, .int (zb false))] := hl
        refine lv_iload hx hb d_M_accepts_47 (lv_at hl 0 rfl) ?_
        refine lv_iconst (v := 2) hx hb d_M_accepts_49 rfl ?_
        refine lv_icmp_ge (tgt := 145) hx hb d_M_accepts_50 rfl (fun h50 => absurd h50 (by decide)) (fun h50 => ?_)
        refine lv_iconst (v := 2) hx hb d_M_accepts_53 rfl ?_
        refine lv_iload_n hx hb d_M_accepts_54 rfl (lv_at hl 7 rfl) ?_
        refine lv_imul hx hb d_M_accepts_55 ?_
        refine zz_as (y := nI (2 * n)) (pk_mul 2 n) ?_
        refine lv_iload hx hb d_M_accepts_56 (lv_at hl 0 rfl) ?_
        refine lv_iadd hx hb d_M_accepts_58 ?_
        refine zz_as (y := nI ((2 * n) + 1)) (nI_add (2 * n) 1) ?_
        refine lv_istore (lv' := [(7, .int (nI ((2 * n) + 1))), (6, .int 1), (3, .int 1), (8, .int (nI (ar 14 ((2 * n) + 0)))), (5, .int (nI (ar 16 n))), (4, .int (nI (ar 15 n))), (0, .ref (am 0)), (1, .int (nI n)), (2, .int (zb false))]) hx hb d_M_accepts_59 hl (by decide) rfl (fun ls hl => ?_)
        refine lv_iload_n hx hb d_M_accepts_61 rfl (lv_at hl 8 rfl) ?_
        refine lv_if_eq (tgt := 75) hx hb d_M_accepts_62 rfl (fun h62 => ?_) (fun h62 => absurd (rfl) h62)
        refine lv_aload_n hx hb d_M_accepts_75 rfl (lv_at hl 6 rfl) ?_
        refine mm_get hx hb hts hown hK hP (index := 49) 13 (by decide) mf_M_49 (v := .ref (am 14)) rfl d_M_accepts_76 ?_
        refine lv_iload hx hb d_M_accepts_79 (lv_at hl 0 rfl) ?_
        refine mm_ald hx hb hK hP 13 (by decide) rfl ((2 * n) + 1) rfl (show (2 * n) + 1 < 16 from by omega) (ar 14 ((2 * n) + 1)) (rfl) d_M_accepts_81 ?_
        refine lv_istore (lv' := [(8, .int (nI (ar 14 ((2 * n) + 1)))), (7, .int (nI ((2 * n) + 1))), (6, .int 1), (3, .int 1), (5, .int (nI (ar 16 n))), (4, .int (nI (ar 15 n))), (0, .ref (am 0)), (1, .int (nI n)), (2, .int (zb false))]) hx hb d_M_accepts_82 hl (by decide) rfl (fun ls hl => ?_)
        refine lv_aload_n hx hb d_M_accepts_84 rfl (lv_at hl 6 rfl) ?_
        refine lv_iload_n hx hb d_M_accepts_85 rfl (lv_at hl 7 rfl) ?_
        refine lv_iload hx hb d_M_accepts_86 (lv_at hl 2 rfl) ?_
        refine zz_cV (index := 138) (n := 2) (As := [.int (nI n), .int 1]) (rest := []) ⟨hx, hb, hml, hown, hts⟩ (k_isPairM l D ca am (ar) n 1 (by omega) (by decide) hl2 hbs) mk_M_138 mo_M_isPair me_M_M_isPair_M mi_M mc_M_isPair (by decide +kernel) ⟨rfl, rfl⟩ ⟨by decide, by decide⟩ (mm_pre hK hP) rfl hl.1 rfl (Nat.le_of_ble_eq_true rfl) d_M_accepts_88 ⟨Nat.zero_le _, Nat.zero_le _⟩ ?_
        refine lv_if_eq (tgt := 139) hx hb d_M_accepts_91 rfl (fun h91 => ?_) (fun h91 => ?_)
        · skip
          have a1 : acP ar false n 1 = true := acP_n (pairB_f hn (zb_eq (b := pairB ar n 1) h91))
          refine lv_iinc (k := 2) (v := nI (1 + 1)) (lv' := [(6, .int (nI (1 + 1))), (8, .int (nI (ar 14 ((2 * n) + 1)))), (7, .int (nI ((2 * n) + 1))), (3, .int 1), (5, .int (nI (ar 16 n))), (4, .int (nI (ar 15 n))), (0, .ref (am 0)), (1, .int (nI n)), (2, .int (zb false))]) hx hb d_M_accepts_139 hl rfl (nI_1 _) (by decide) rfl (fun ls hl => ?_)
          refine lv_goto (tgt := 47) hx hb d_M_accepts_142 rfl ?_
          have hl : lv_has ls 9 [(6, .int 2), (8, .int (nI (ar 14 ((2 * n) + 1)))), (7, .int (nI ((2 * n) + 1))), (3, .int 1), (5, .int (nI (ar 16 n))), (4, .int (nI (ar 15 n))), (0, .ref (am 0)), (1, .int (nI n)), (2, .int (zb false))] := hl
          refine lv_iload hx hb d_M_accepts_47 (lv_at hl 0 rfl) ?_
          refine lv_iconst (v := 2) hx hb d_M_accepts_49 rfl ?_
          refine lv_icmp_ge (tgt := 145) hx hb d_M_accepts_50 rfl (fun h50 => ?_) (fun h50 => absurd (by decide) h50)
          refine lv_iload_n hx hb d_M_accepts_145 rfl (lv_at hl 3 rfl) ?_
          have hq : acB ar false n = true := by unfold acB; rw [a0, a1]; rfl
          refine zz_as (y := zb (acB ar false n)) (by rw [hq]; rfl) ?_
          exact W.zret hx hb hr (zb_nar _) (fun t ht hW => ⟨rfl, ht⟩) (fun q h => absurd h List.not_mem_nil) d_M_accepts_146
        · skip
          have hp : 0 < ar 11 (2 * n + 1) := (pairB_t (zb_ne (b := pairB ar n 1) h91)).2
          refine lv_iload_n hx hb d_M_accepts_94 rfl (lv_at hl 3 rfl) ?_
          refine lv_if_eq (tgt := 137) hx hb d_M_accepts_95 rfl (fun h95 => absurd h95 (by decide)) (fun h95 => ?_)
          refine lv_aload_n hx hb d_M_accepts_98 rfl (lv_at hl 6 rfl) ?_
          refine mm_get hx hb hts hown hK hP (index := 40) 10 (by decide) mf_M_40 (v := .ref (am 11)) rfl d_M_accepts_99 ?_
          refine lv_iload hx hb d_M_accepts_102 (lv_at hl 1 rfl) ?_
          refine mm_ald hx hb hK hP 10 (by decide) rfl ((2 * n) + 1) rfl (show (2 * n) + 1 < 16 from by omega) (ar 11 ((2 * n) + 1)) (rfl) d_M_accepts_104 ?_
          refine lv_iload hx hb d_M_accepts_105 (lv_at hl 4 rfl) ?_
          refine zz_cS (index := 96) (n := 2) (As := [.int (nI (ar 11 (2 * n + 1))), .int (nI (ar 16 n))]) (rest := []) ⟨hx, hb, hml, hown, hts⟩ (k_raised l (ar 11 (2 * n + 1)) (ar 16 n) (hbs _ (by omega)) (by omega)) mk_M_96 ms_M_raised mi_M mc_M_raised (by decide +kernel) ⟨rfl, rfl⟩ ⟨by decide, by decide⟩ preEq rfl hl.1 rfl (Nat.le_of_ble_eq_true rfl) d_M_accepts_107 ⟨Nat.zero_le _, Nat.zero_le _⟩ ?_
          refine lv_iload hx hb d_M_accepts_110 (lv_at hl 0 rfl) ?_
          refine lv_aload_n hx hb d_M_accepts_112 rfl (lv_at hl 6 rfl) ?_
          refine mm_get hx hb hts hown hK hP (index := 43) 11 (by decide) mf_M_43 (v := .ref (am 12)) rfl d_M_accepts_113 ?_
          refine lv_iload hx hb d_M_accepts_116 (lv_at hl 1 rfl) ?_
          refine mm_ald hx hb hK hP 11 (by decide) rfl ((2 * n) + 1) rfl (show (2 * n) + 1 < 16 from by omega) (ar 12 ((2 * n) + 1)) (rfl) d_M_accepts_118 ?_
          refine lv_iload hx hb d_M_accepts_119 (lv_at hl 5 rfl) ?_
          refine zz_cS (index := 96) (n := 2) (As := [.int (nI (ar 12 (2 * n + 1))), .int (nI (ar 15 n))]) (rest := [.int (nI (ar 14 ((2 * n) + 1))), .int (nI (ar 11 (2 * n + 1) ^ ar 16 n % 10007))]) ⟨hx, hb, hml, hown, hts⟩ (k_raised l (ar 12 (2 * n + 1)) (ar 15 n) (his _ (by omega)) (by omega)) mk_M_96 ms_M_raised mi_M mc_M_raised (by decide +kernel) ⟨rfl, rfl⟩ ⟨by decide, by decide⟩ preEq rfl hl.1 rfl (Nat.le_of_ble_eq_true rfl) d_M_accepts_121 ⟨Nat.zero_le _, Nat.zero_le _⟩ ?_
          refine lv_sipush (v := 10007) hx hb d_M_accepts_124 rfl ?_
          refine zz_cS (index := 92) (n := 3) (As := [.int (nI (ar 14 (2 * n + 1))), .int (nI (ar 12 (2 * n + 1) ^ ar 15 n % 10007)), .int 10007]) (rest := [.int (nI (ar 11 (2 * n + 1) ^ ar 16 n % 10007))]) ⟨hx, hb, hml, hown, hts⟩ (k_times l (ar 14 (2 * n + 1)) (ar 12 (2 * n + 1) ^ ar 15 n % 10007) 10007 (by have := hN8.1 (2 * n + 1) (by omega); omega) (Nat.lt_trans (Nat.mod_lt _ (by decide)) (by decide)) (by decide) (by decide)) mk_M_92 ms_M_times mi_M mc_M_times (by decide +kernel) ⟨rfl, rfl⟩ ⟨by decide, by decide⟩ preEq rfl hl.1 rfl (Nat.le_of_ble_eq_true rfl) d_M_accepts_127 ⟨Nat.zero_le _, Nat.zero_le _⟩ ?_
          refine lv_icmp_ne (tgt := 137) hx hb d_M_accepts_130 rfl (fun h130 => ?_) (fun h130 => ?_)
          · skip
            have a1 : acP ar false n 1 = false := acP_f hp (fun q => h130 (congrArg nI q))
            refine lv_iconst (v := 0) hx hb d_M_accepts_137 rfl ?_
            refine lv_istore_n (lv' := [(3, .int 0), (8, .int (nI (ar 14 ((2 * n) + 1)))), (7, .int (nI ((2 * n) + 1))), (6, .int 1), (5, .int (nI (ar 16 n))), (4, .int (nI (ar 15 n))), (0, .ref (am 0)), (1, .int (nI n)), (2, .int (zb false))]) hx hb d_M_accepts_138 rfl hl (by decide) rfl (fun ls hl => ?_)
            refine lv_iinc (k := 3) (v := nI (1 + 1)) (lv' := [(6, .int (nI (1 + 1))), (3, .int 0), (8, .int (nI (ar 14 ((2 * n) + 1)))), (7, .int (nI ((2 * n) + 1))), (5, .int (nI (ar 16 n))), (4, .int (nI (ar 15 n))), (0, .ref (am 0)), (1, .int (nI n)), (2, .int (zb false))]) hx hb d_M_accepts_139 hl rfl (nI_1 _) (by decide) rfl (fun ls hl => ?_)
            refine lv_goto (tgt := 47) hx hb d_M_accepts_142 rfl ?_
            have hl : lv_has ls 9 [(6, .int 2), (3, .int 0), (8, .int (nI (ar 14 ((2 * n) + 1)))), (7, .int (nI ((2 * n) + 1))), (5, .int (nI (ar 16 n))), (4, .int (nI (ar 15 n))), (0, .ref (am 0)), (1, .int (nI n)), (2, .int (zb false))] := hl
            refine lv_iload hx hb d_M_accepts_47 (lv_at hl 0 rfl) ?_
            refine lv_iconst (v := 2) hx hb d_M_accepts_49 rfl ?_
            refine lv_icmp_ge (tgt := 145) hx hb d_M_accepts_50 rfl (fun h50 => ?_) (fun h50 => absurd (by decide) h50)
            refine lv_iload_n hx hb d_M_accepts_145 rfl (lv_at hl 1 rfl) ?_
            have hq : acB ar false n = false := by unfold acB; first | (rw [a0]; rfl) | (rw [a1, Bool.and_false])
            refine zz_as (y := zb (acB ar false n)) (by rw [hq]; rfl) ?_
            exact W.zret hx hb hr (zb_nar _) (fun t ht hW => ⟨rfl, ht⟩) (fun q h => absurd h List.not_mem_nil) d_M_accepts_146
          · skip
            have a1 : acP ar false n 1 = true := acP_e (zn_eqm.mp h130)
            refine lv_iconst (v := 1) hx hb d_M_accepts_133 rfl ?_
            refine lv_goto (tgt := 138) hx hb d_M_accepts_134 rfl ?_
            refine lv_istore_n (lv' := [(3, .int 1), (8, .int (nI (ar 14 ((2 * n) + 1)))), (7, .int (nI ((2 * n) + 1))), (6, .int 1), (5, .int (nI (ar 16 n))), (4, .int (nI (ar 15 n))), (0, .ref (am 0)), (1, .int (nI n)), (2, .int (zb false))]) hx hb d_M_accepts_138 rfl hl (by decide) rfl (fun ls hl => ?_)
            refine lv_iinc (k := 3) (v := nI (1 + 1)) (lv' := [(6, .int (nI (1 + 1))), (3, .int 1), (8, .int (nI (ar 14 ((2 * n) + 1)))), (7, .int (nI ((2 * n) + 1))), (5, .int (nI (ar 16 n))), (4, .int (nI (ar 15 n))), (0, .ref (am 0)), (1, .int (nI n)), (2, .int (zb false))]) hx hb d_M_accepts_139 hl rfl (nI_1 _) (by decide) rfl (fun ls hl => ?_)
            refine lv_goto (tgt := 47) hx hb d_M_accepts_142 rfl ?_
            have hl : lv_has ls 9 [(6, .int 2), (3, .int 1), (8, .int (nI (ar 14 ((2 * n) + 1)))), (7, .int (nI ((2 * n) + 1))), (5, .int (nI (ar 16 n))), (4, .int (nI (ar 15 n))), (0, .ref (am 0)), (1, .int (nI n)), (2, .int (zb false))] := hl
            refine lv_iload hx hb d_M_accepts_47 (lv_at hl 0 rfl) ?_
            refine lv_iconst (v := 2) hx hb d_M_accepts_49 rfl ?_
            refine lv_icmp_ge (tgt := 145) hx hb d_M_accepts_50 rfl (fun h50 => ?_) (fun h50 => absurd (by decide) h50)
            refine lv_iload_n hx hb d_M_accepts_145 rfl (lv_at hl 1 rfl) ?_
            have hq : acB ar false n = true := by unfold acB; rw [a0, a1]; rfl
            refine zz_as (y := zb (acB ar false n)) (by rw [hq]; rfl) ?_
            exact W.zret hx hb hr (zb_nar _) (fun t ht hW => ⟨rfl, ht⟩) (fun q h => absurd h List.not_mem_nil) d_M_accepts_146
  | true =>
    have hb8 := hN8.2 n (by omega)
    refine lv_iconst (v := 1) hx hb d_M_accepts_0 rfl ?_
    refine lv_istore_n (lv' := [(3, .int 1), (0, .ref (am 0)), (1, .int (nI n)), (2, .int (zb true))]) hx hb d_M_accepts_1 rfl hl (by decide) rfl (fun ls hl => ?_)
    refine lv_iload_n hx hb d_M_accepts_2 rfl (lv_at hl 3 rfl) ?_
    refine lv_if_eq (tgt := 15) hx hb d_M_accepts_3 rfl (fun h3 => absurd h3 (by decide)) (fun h3 => ?_)
    refine lv_aload_n hx hb d_M_accepts_6 rfl (lv_at hl 1 rfl) ?_
    refine mm_get hx hb hts hown hK hP (index := 61) 17 (by decide) mf_M_61 (v := .ref (am 18)) rfl d_M_accepts_7 ?_
    refine lv_iload_n hx hb d_M_accepts_10 rfl (lv_at hl 2 rfl) ?_
    refine mm_ald hx hb hK hP 17 (by decide) rfl (n) rfl (show n < 8 from by omega) (ar 18 n) (rfl) d_M_accepts_11 ?_
    refine lv_goto (tgt := 21) hx hb d_M_accepts_12 rfl ?_
    refine lv_istore (lv' := [(4, .int (nI (ar 18 n))), (3, .int 1), (0, .ref (am 0)), (1, .int (nI n)), (2, .int (zb true))]) hx hb d_M_accepts_21 hl (by decide) rfl (fun ls hl => ?_)
    refine lv_iload_n hx hb d_M_accepts_23 rfl (lv_at hl 4 rfl) ?_
    refine lv_if_eq (tgt := 36) hx hb d_M_accepts_24 rfl (fun h24 => absurd h24 (by decide)) (fun h24 => ?_)
    refine lv_aload_n hx hb d_M_accepts_27 rfl (lv_at hl 2 rfl) ?_
    refine mm_get hx hb hts hown hK hP (index := 64) 18 (by decide) mf_M_64 (v := .ref (am 19)) rfl d_M_accepts_28 ?_
    refine lv_iload_n hx hb d_M_accepts_31 rfl (lv_at hl 3 rfl) ?_
    refine mm_ald hx hb hK hP 18 (by decide) rfl (n) rfl (show n < 8 from by omega) (ar 19 n) (rfl) d_M_accepts_32 ?_
    refine lv_goto (tgt := 42) hx hb d_M_accepts_33 rfl ?_
    refine lv_istore (lv' := [(5, .int (nI (ar 19 n))), (4, .int (nI (ar 18 n))), (3, .int 1), (0, .ref (am 0)), (1, .int (nI n)), (2, .int (zb true))]) hx hb d_M_accepts_42 hl (by decide) rfl (fun ls hl => ?_)
    refine lv_iconst (v := 0) hx hb d_M_accepts_44 rfl ?_
    refine lv_istore (lv' := [(6, .int 0), (5, .int (nI (ar 19 n))), (4, .int (nI (ar 18 n))), (3, .int 1), (0, .ref (am 0)), (1, .int (nI n)), (2, .int (zb true))]) hx hb d_M_accepts_45 hl (by decide) rfl (fun ls hl => ?_)
    have hl : lv_has ls 9 [(6, .int 0), (5, .int (nI (ar 19 n))), (4, .int (nI (ar 18 n))), (3, .int 1), (0, .ref (am 0)), (1, .int (nI n)), (2, .int (zb true))] := hl
    refine lv_iload hx hb d_M_accepts_47 (lv_at hl 0 rfl) ?_
    refine lv_iconst (v := 2) hx hb d_M_accepts_49 rfl ?_
    refine lv_icmp_ge (tgt := 145) hx hb d_M_accepts_50 rfl (fun h50 => absurd h50 (by decide)) (fun h50 => ?_)
    refine lv_iconst (v := 2) hx hb d_M_accepts_53 rfl ?_
    refine lv_iload_n hx hb d_M_accepts_54 rfl (lv_at hl 5 rfl) ?_
    refine lv_imul hx hb d_M_accepts_55 ?_
    refine zz_as (y := nI (2 * n)) (pk_mul 2 n) ?_
    refine lv_iload hx hb d_M_accepts_56 (lv_at hl 0 rfl) ?_
    refine lv_iadd hx hb d_M_accepts_58 ?_
    refine zz_as (y := nI ((2 * n) + 0)) (nI_add (2 * n) 0) ?_
    refine lv_istore (lv' := [(7, .int (nI ((2 * n) + 0))), (6, .int 0), (5, .int (nI (ar 19 n))), (4, .int (nI (ar 18 n))), (3, .int 1), (0, .ref (am 0)), (1, .int (nI n)), (2, .int (zb true))]) hx hb d_M_accepts_59 hl (by decide) rfl (fun ls hl => ?_)
    refine lv_iload_n hx hb d_M_accepts_61 rfl (lv_at hl 7 rfl) ?_
    refine lv_if_eq (tgt := 75) hx hb d_M_accepts_62 rfl (fun h62 => absurd h62 (by decide)) (fun h62 => ?_)
    refine lv_aload_n hx hb d_M_accepts_65 rfl (lv_at hl 5 rfl) ?_
    refine mm_get hx hb hts hown hK hP (index := 58) 16 (by decide) mf_M_58 (v := .ref (am 17)) rfl d_M_accepts_66 ?_
    refine lv_iload hx hb d_M_accepts_69 (lv_at hl 0 rfl) ?_
    refine mm_ald hx hb hK hP 16 (by decide) rfl ((2 * n) + 0) rfl (show (2 * n) + 0 < 16 from by omega) (ar 17 ((2 * n) + 0)) (rfl) d_M_accepts_71 ?_
    refine lv_goto (tgt := 82) hx hb d_M_accepts_72 rfl ?_
    refine lv_istore (lv' := [(8, .int (nI (ar 17 ((2 * n) + 0)))), (7, .int (nI ((2 * n) + 0))), (6, .int 0), (5, .int (nI (ar 19 n))), (4, .int (nI (ar 18 n))), (3, .int 1), (0, .ref (am 0)), (1, .int (nI n)), (2, .int (zb true))]) hx hb d_M_accepts_82 hl (by decide) rfl (fun ls hl => ?_)
    refine lv_aload_n hx hb d_M_accepts_84 rfl (lv_at hl 6 rfl) ?_
    refine lv_iload_n hx hb d_M_accepts_85 rfl (lv_at hl 7 rfl) ?_
    refine lv_iload hx hb d_M_accepts_86 (lv_at hl 2 rfl) ?_
    refine zz_cV (index := 138) (n := 2) (As := [.int (nI n), .int 0]) (rest := []) ⟨hx, hb, hml, hown, hts⟩ (k_isPairM l D ca am (ar) n 0 (by omega) (by decide) hl2 hbs) mk_M_138 mo_M_isPair me_M_M_isPair_M mi_M mc_M_isPair (by decide +kernel) ⟨rfl, rfl⟩ ⟨by decide, by decide⟩ (mm_pre hK hP) rfl hl.1 rfl (Nat.le_of_ble_eq_true rfl) d_M_accepts_88 ⟨Nat.zero_le _, Nat.zero_le _⟩ ?_
    refine lv_if_eq (tgt := 139) hx hb d_M_accepts_91 rfl (fun h91 => ?_) (fun h91 => ?_)
    · skip
      have a0 : acP ar true n 0 = true := acP_n (pairB_f hn (zb_eq (b := pairB ar n 0) h91))
      refine lv_iinc (k := 2) (v := nI (0 + 1)) (lv' := [(6, .int (nI (0 + 1))), (8, .int (nI (ar 17 ((2 * n) + 0)))), (7, .int (nI ((2 * n) + 0))), (5, .int (nI (ar 19 n))), (4, .int (nI (ar 18 n))), (3, .int 1), (0, .ref (am 0)), (1, .int (nI n)), (2, .int (zb true))]) hx hb d_M_accepts_139 hl rfl (nI_1 _) (by decide) rfl (fun ls hl => ?_)
      refine lv_goto (tgt := 47) hx hb d_M_accepts_142 rfl ?_
      have hl : lv_has ls 9 [(6, .int 1), (8, .int (nI (ar 17 ((2 * n) + 0)))), (7, .int (nI ((2 * n) + 0))), (5, .int (nI (ar 19 n))), (4, .int (nI (ar 18 n))), (3, .int 1), (0, .ref (am 0)), (1, .int (nI n)), (2, .int (zb true))] := hl
      refine lv_iload hx hb d_M_accepts_47 (lv_at hl 0 rfl) ?_
      refine lv_iconst (v := 2) hx hb d_M_accepts_49 rfl ?_
      refine lv_icmp_ge (tgt := 145) hx hb d_M_accepts_50 rfl (fun h50 => absurd h50 (by decide)) (fun h50 => ?_)
      refine lv_iconst (v := 2) hx hb d_M_accepts_53 rfl ?_
      refine lv_iload_n hx hb d_M_accepts_54 rfl (lv_at hl 7 rfl) ?_
      refine lv_imul hx hb d_M_accepts_55 ?_
      refine zz_as (y := nI (2 * n)) (pk_mul 2 n) ?_
      refine lv_iload hx hb d_M_accepts_56 (lv_at hl 0 rfl) ?_
      refine lv_iadd hx hb d_M_accepts_58 ?_
      refine zz_as (y := nI ((2 * n) + 1)) (nI_add (2 * n) 1) ?_
      refine lv_istore (lv' := [(7, .int (nI ((2 * n) + 1))), (6, .int 1), (8, .int (nI (ar 17 ((2 * n) + 0)))), (5, .int (nI (ar 19 n))), (4, .int (nI (ar 18 n))), (3, .int 1), (0, .ref (am 0)), (1, .int (nI n)), (2, .int (zb true))]) hx hb d_M_accepts_59 hl (by decide) rfl (fun ls hl => ?_)
      refine lv_iload_n hx hb d_M_accepts_61 rfl (lv_at hl 8 rfl) ?_
      refine lv_if_eq (tgt := 75) hx hb d_M_accepts_62 rfl (fun h62 => absurd h62 (by decide)) (fun h62 => ?_)
      refine lv_aload_n hx hb d_M_accepts_65 rfl (lv_at hl 6 rfl) ?_
      refine mm_get hx hb hts hown hK hP (index := 58) 16 (by decide) mf_M_58 (v := .ref (am 17)) rfl d_M_accepts_66 ?_
      refine lv_iload hx hb d_M_accepts_69 (lv_at hl 0 rfl) ?_
      refine mm_ald hx hb hK hP 16 (by decide) rfl ((2 * n) + 1) rfl (show (2 * n) + 1 < 16 from by omega) (ar 17 ((2 * n) + 1)) (rfl) d_M_accepts_71 ?_
      refine lv_goto (tgt := 82) hx hb d_M_accepts_72 rfl ?_
      refine lv_istore (lv' := [(8, .int (nI (ar 17 ((2 * n) + 1)))), (7, .int (nI ((2 * n) + 1))), (6, .int 1), (5, .int (nI (ar 19 n))), (4, .int (nI (ar 18 n))), (3, .int 1), (0, .ref (am 0)), (1, .int (nI n)), (2, .int (zb true))]) hx hb d_M_accepts_82 hl (by decide) rfl (fun ls hl => ?_)
      refine lv_aload_n hx hb d_M_accepts_84 rfl (lv_at hl 6 rfl) ?_
      refine lv_iload_n hx hb d_M_accepts_85 rfl (lv_at hl 7 rfl) ?_
      refine lv_iload hx hb d_M_accepts_86 (lv_at hl 2 rfl) ?_
      refine zz_cV (index := 138) (n := 2) (As := [.int (nI n), .int 1]) (rest := []) ⟨hx, hb, hml, hown, hts⟩ (k_isPairM l D ca am (ar) n 1 (by omega) (by decide) hl2 hbs) mk_M_138 mo_M_isPair me_M_M_isPair_M mi_M mc_M_isPair (by decide +kernel) ⟨rfl, rfl⟩ ⟨by decide, by decide⟩ (mm_pre hK hP) rfl hl.1 rfl (Nat.le_of_ble_eq_true rfl) d_M_accepts_88 ⟨Nat.zero_le _, Nat.zero_le _⟩ ?_
      refine lv_if_eq (tgt := 139) hx hb d_M_accepts_91 rfl (fun h91 => ?_) (fun h91 => ?_)
      · skip
        have a1 : acP ar true n 1 = true := acP_n (pairB_f hn (zb_eq (b := pairB ar n 1) h91))
        refine lv_iinc (k := 2) (v := nI (1 + 1)) (lv' := [(6, .int (nI (1 + 1))), (8, .int (nI (ar 17 ((2 * n) + 1)))), (7, .int (nI ((2 * n) + 1))), (5, .int (nI (ar 19 n))), (4, .int (nI (ar 18 n))), (3, .int 1), (0, .ref (am 0)), (1, .int (nI n)), (2, .int (zb true))]) hx hb d_M_accepts_139 hl rfl (nI_1 _) (by decide) rfl (fun ls hl => ?_)
        refine lv_goto (tgt := 47) hx hb d_M_accepts_142 rfl ?_
        have hl : lv_has ls 9 [(6, .int 2), (8, .int (nI (ar 17 ((2 * n) + 1)))), (7, .int (nI ((2 * n) + 1))), (5, .int (nI (ar 19 n))), (4, .int (nI (ar 18 n))), (3, .int 1), (0, .ref (am 0)), (1, .int (nI n)), (2, .int (zb true))] := hl
        refine lv_iload hx hb d_M_accepts_47 (lv_at hl 0 rfl) ?_
        refine lv_iconst (v := 2) hx hb d_M_accepts_49 rfl ?_
        refine lv_icmp_ge (tgt := 145) hx hb d_M_accepts_50 rfl (fun h50 => ?_) (fun h50 => absurd (by decide) h50)
        refine lv_iload_n hx hb d_M_accepts_145 rfl (lv_at hl 5 rfl) ?_
        have hq : acB ar true n = true := by unfold acB; rw [a0, a1]; rfl
        refine zz_as (y := zb (acB ar true n)) (by rw [hq]; rfl) ?_
        exact W.zret hx hb hr (zb_nar _) (fun t ht hW => ⟨rfl, ht⟩) (fun q h => absurd h List.not_mem_nil) d_M_accepts_146
      · skip
        have hp : 0 < ar 11 (2 * n + 1) := (pairB_t (zb_ne (b := pairB ar n 1) h91)).2
        refine lv_iload_n hx hb d_M_accepts_94 rfl (lv_at hl 5 rfl) ?_
        refine lv_if_eq (tgt := 137) hx hb d_M_accepts_95 rfl (fun h95 => absurd h95 (by decide)) (fun h95 => ?_)
        refine lv_aload_n hx hb d_M_accepts_98 rfl (lv_at hl 6 rfl) ?_
        refine mm_get hx hb hts hown hK hP (index := 40) 10 (by decide) mf_M_40 (v := .ref (am 11)) rfl d_M_accepts_99 ?_
        refine lv_iload hx hb d_M_accepts_102 (lv_at hl 1 rfl) ?_
        refine mm_ald hx hb hK hP 10 (by decide) rfl ((2 * n) + 1) rfl (show (2 * n) + 1 < 16 from by omega) (ar 11 ((2 * n) + 1)) (rfl) d_M_accepts_104 ?_
        refine lv_iload hx hb d_M_accepts_105 (lv_at hl 3 rfl) ?_
        refine zz_cS (index := 96) (n := 2) (As := [.int (nI (ar 11 (2 * n + 1))), .int (nI (ar 19 n))]) (rest := []) ⟨hx, hb, hml, hown, hts⟩ (k_raised l (ar 11 (2 * n + 1)) (ar 19 n) (hbs _ (by omega)) (by omega)) mk_M_96 ms_M_raised mi_M mc_M_raised (by decide +kernel) ⟨rfl, rfl⟩ ⟨by decide, by decide⟩ preEq rfl hl.1 rfl (Nat.le_of_ble_eq_true rfl) d_M_accepts_107 ⟨Nat.zero_le _, Nat.zero_le _⟩ ?_
        refine lv_iload hx hb d_M_accepts_110 (lv_at hl 0 rfl) ?_
        refine lv_aload_n hx hb d_M_accepts_112 rfl (lv_at hl 6 rfl) ?_
        refine mm_get hx hb hts hown hK hP (index := 43) 11 (by decide) mf_M_43 (v := .ref (am 12)) rfl d_M_accepts_113 ?_
        refine lv_iload hx hb d_M_accepts_116 (lv_at hl 1 rfl) ?_
        refine mm_ald hx hb hK hP 11 (by decide) rfl ((2 * n) + 1) rfl (show (2 * n) + 1 < 16 from by omega) (ar 12 ((2 * n) + 1)) (rfl) d_M_accepts_118 ?_
        refine lv_iload hx hb d_M_accepts_119 (lv_at hl 4 rfl) ?_
        refine zz_cS (index := 96) (n := 2) (As := [.int (nI (ar 12 (2 * n + 1))), .int (nI (ar 18 n))]) (rest := [.int (nI (ar 17 ((2 * n) + 1))), .int (nI (ar 11 (2 * n + 1) ^ ar 19 n % 10007))]) ⟨hx, hb, hml, hown, hts⟩ (k_raised l (ar 12 (2 * n + 1)) (ar 18 n) (his _ (by omega)) (by omega)) mk_M_96 ms_M_raised mi_M mc_M_raised (by decide +kernel) ⟨rfl, rfl⟩ ⟨by decide, by decide⟩ preEq rfl hl.1 rfl (Nat.le_of_ble_eq_true rfl) d_M_accepts_121 ⟨Nat.zero_le _, Nat.zero_le _⟩ ?_
        refine lv_sipush (v := 10007) hx hb d_M_accepts_124 rfl ?_
        refine zz_cS (index := 92) (n := 3) (As := [.int (nI (ar 17 (2 * n + 1))), .int (nI (ar 12 (2 * n + 1) ^ ar 18 n % 10007)), .int 10007]) (rest := [.int (nI (ar 11 (2 * n + 1) ^ ar 19 n % 10007))]) ⟨hx, hb, hml, hown, hts⟩ (k_times l (ar 17 (2 * n + 1)) (ar 12 (2 * n + 1) ^ ar 18 n % 10007) 10007 (by have := hN8.1 (2 * n + 1) (by omega); omega) (Nat.lt_trans (Nat.mod_lt _ (by decide)) (by decide)) (by decide) (by decide)) mk_M_92 ms_M_times mi_M mc_M_times (by decide +kernel) ⟨rfl, rfl⟩ ⟨by decide, by decide⟩ preEq rfl hl.1 rfl (Nat.le_of_ble_eq_true rfl) d_M_accepts_127 ⟨Nat.zero_le _, Nat.zero_le _⟩ ?_
        refine lv_icmp_ne (tgt := 137) hx hb d_M_accepts_130 rfl (fun h130 => ?_) (fun h130 => ?_)
        · skip
          have a1 : acP ar true n 1 = false := acP_f hp (fun q => h130 (congrArg nI q))
          refine lv_iconst (v := 0) hx hb d_M_accepts_137 rfl ?_
          refine lv_istore_n (lv' := [(3, .int 0), (8, .int (nI (ar 17 ((2 * n) + 1)))), (7, .int (nI ((2 * n) + 1))), (6, .int 1), (5, .int (nI (ar 19 n))), (4, .int (nI (ar 18 n))), (0, .ref (am 0)), (1, .int (nI n)), (2, .int (zb true))]) hx hb d_M_accepts_138 rfl hl (by decide) rfl (fun ls hl => ?_)
          refine lv_iinc (k := 3) (v := nI (1 + 1)) (lv' := [(6, .int (nI (1 + 1))), (3, .int 0), (8, .int (nI (ar 17 ((2 * n) + 1)))), (7, .int (nI ((2 * n) + 1))), (5, .int (nI (ar 19 n))), (4, .int (nI (ar 18 n))), (0, .ref (am 0)), (1, .int (nI n)), (2, .int (zb true))]) hx hb d_M_accepts_139 hl rfl (nI_1 _) (by decide) rfl (fun ls hl => ?_)
          refine lv_goto (tgt := 47) hx hb d_M_accepts_142 rfl ?_
          have hl : lv_has ls 9 [(6, .int 2), (3, .int 0), (8, .int (nI (ar 17 ((2 * n) + 1)))), (7, .int (nI ((2 * n) + 1))), (5, .int (nI (ar 19 n))), (4, .int (nI (ar 18 n))), (0, .ref (am 0)), (1, .int (nI n)), (2, .int (zb true))] := hl
          refine lv_iload hx hb d_M_accepts_47 (lv_at hl 0 rfl) ?_
          refine lv_iconst (v := 2) hx hb d_M_accepts_49 rfl ?_
          refine lv_icmp_ge (tgt := 145) hx hb d_M_accepts_50 rfl (fun h50 => ?_) (fun h50 => absurd (by decide) h50)
          refine lv_iload_n hx hb d_M_accepts_145 rfl (lv_at hl 1 rfl) ?_
          have hq : acB ar true n = false := by unfold acB; first | (rw [a0]; rfl) | (rw [a1, Bool.and_false])
          refine zz_as (y := zb (acB ar true n)) (by rw [hq]; rfl) ?_
          exact W.zret hx hb hr (zb_nar _) (fun t ht hW => ⟨rfl, ht⟩) (fun q h => absurd h List.not_mem_nil) d_M_accepts_146
        · skip
          have a1 : acP ar true n 1 = true := acP_e (zn_eqm.mp h130)
          refine lv_iconst (v := 1) hx hb d_M_accepts_133 rfl ?_
          refine lv_goto (tgt := 138) hx hb d_M_accepts_134 rfl ?_
          refine lv_istore_n (lv' := [(3, .int 1), (8, .int (nI (ar 17 ((2 * n) + 1)))), (7, .int (nI ((2 * n) + 1))), (6, .int 1), (5, .int (nI (ar 19 n))), (4, .int (nI (ar 18 n))), (0, .ref (am 0)), (1, .int (nI n)), (2, .int (zb true))]) hx hb d_M_accepts_138 rfl hl (by decide) rfl (fun ls hl => ?_)
          refine lv_iinc (k := 3) (v := nI (1 + 1)) (lv' := [(6, .int (nI (1 + 1))), (3, .int 1), (8, .int (nI (ar 17 ((2 * n) + 1)))), (7, .int (nI ((2 * n) + 1))), (5, .int (nI (ar 19 n))), (4, .int (nI (ar 18 n))), (0, .ref (am 0)), (1, .int (nI n)), (2, .int (zb true))]) hx hb d_M_accepts_139 hl rfl (nI_1 _) (by decide) rfl (fun ls hl => ?_)
          refine lv_goto (tgt := 47) hx hb d_M_accepts_142 rfl ?_
          have hl : lv_has ls 9 [(6, .int 2), (3, .int 1), (8, .int (nI (ar 17 ((2 * n) + 1)))), (7, .int (nI ((2 * n) + 1))), (5, .int (nI (ar 19 n))), (4, .int (nI (ar 18 n))), (0, .ref (am 0)), (1, .int (nI n)), (2, .int (zb true))] := hl
          refine lv_iload hx hb d_M_accepts_47 (lv_at hl 0 rfl) ?_
          refine lv_iconst (v := 2) hx hb d_M_accepts_49 rfl ?_
          refine lv_icmp_ge (tgt := 145) hx hb d_M_accepts_50 rfl (fun h50 => ?_) (fun h50 => absurd (by decide) h50)
          refine lv_iload_n hx hb d_M_accepts_145 rfl (lv_at hl 1 rfl) ?_
          have hq : acB ar true n = true := by unfold acB; rw [a0, a1]; rfl
          refine zz_as (y := zb (acB ar true n)) (by rw [hq]; rfl) ?_
          exact W.zret hx hb hr (zb_nar _) (fun t ht hW => ⟨rfl, ht⟩) (fun q h => absurd h List.not_mem_nil) d_M_accepts_146
    · skip
      have hp : 0 < ar 11 (2 * n + 0) := (pairB_t (zb_ne (b := pairB ar n 0) h91)).2
      refine lv_iload_n hx hb d_M_accepts_94 rfl (lv_at hl 5 rfl) ?_
      refine lv_if_eq (tgt := 137) hx hb d_M_accepts_95 rfl (fun h95 => absurd h95 (by decide)) (fun h95 => ?_)
      refine lv_aload_n hx hb d_M_accepts_98 rfl (lv_at hl 6 rfl) ?_
      refine mm_get hx hb hts hown hK hP (index := 40) 10 (by decide) mf_M_40 (v := .ref (am 11)) rfl d_M_accepts_99 ?_
      refine lv_iload hx hb d_M_accepts_102 (lv_at hl 1 rfl) ?_
      refine mm_ald hx hb hK hP 10 (by decide) rfl ((2 * n) + 0) rfl (show (2 * n) + 0 < 16 from by omega) (ar 11 ((2 * n) + 0)) (rfl) d_M_accepts_104 ?_
      refine lv_iload hx hb d_M_accepts_105 (lv_at hl 3 rfl) ?_
      refine zz_cS (index := 96) (n := 2) (As := [.int (nI (ar 11 (2 * n + 0))), .int (nI (ar 19 n))]) (rest := []) ⟨hx, hb, hml, hown, hts⟩ (k_raised l (ar 11 (2 * n + 0)) (ar 19 n) (hbs _ (by omega)) (by omega)) mk_M_96 ms_M_raised mi_M mc_M_raised (by decide +kernel) ⟨rfl, rfl⟩ ⟨by decide, by decide⟩ preEq rfl hl.1 rfl (Nat.le_of_ble_eq_true rfl) d_M_accepts_107 ⟨Nat.zero_le _, Nat.zero_le _⟩ ?_
      refine lv_iload hx hb d_M_accepts_110 (lv_at hl 0 rfl) ?_
      refine lv_aload_n hx hb d_M_accepts_112 rfl (lv_at hl 6 rfl) ?_
      refine mm_get hx hb hts hown hK hP (index := 43) 11 (by decide) mf_M_43 (v := .ref (am 12)) rfl d_M_accepts_113 ?_
      refine lv_iload hx hb d_M_accepts_116 (lv_at hl 1 rfl) ?_
      refine mm_ald hx hb hK hP 11 (by decide) rfl ((2 * n) + 0) rfl (show (2 * n) + 0 < 16 from by omega) (ar 12 ((2 * n) + 0)) (rfl) d_M_accepts_118 ?_
      refine lv_iload hx hb d_M_accepts_119 (lv_at hl 4 rfl) ?_
      refine zz_cS (index := 96) (n := 2) (As := [.int (nI (ar 12 (2 * n + 0))), .int (nI (ar 18 n))]) (rest := [.int (nI (ar 17 ((2 * n) + 0))), .int (nI (ar 11 (2 * n + 0) ^ ar 19 n % 10007))]) ⟨hx, hb, hml, hown, hts⟩ (k_raised l (ar 12 (2 * n + 0)) (ar 18 n) (his _ (by omega)) (by omega)) mk_M_96 ms_M_raised mi_M mc_M_raised (by decide +kernel) ⟨rfl, rfl⟩ ⟨by decide, by decide⟩ preEq rfl hl.1 rfl (Nat.le_of_ble_eq_true rfl) d_M_accepts_121 ⟨Nat.zero_le _, Nat.zero_le _⟩ ?_
      refine lv_sipush (v := 10007) hx hb d_M_accepts_124 rfl ?_
      refine zz_cS (index := 92) (n := 3) (As := [.int (nI (ar 17 (2 * n + 0))), .int (nI (ar 12 (2 * n + 0) ^ ar 18 n % 10007)), .int 10007]) (rest := [.int (nI (ar 11 (2 * n + 0) ^ ar 19 n % 10007))]) ⟨hx, hb, hml, hown, hts⟩ (k_times l (ar 17 (2 * n + 0)) (ar 12 (2 * n + 0) ^ ar 18 n % 10007) 10007 (by have := hN8.1 (2 * n + 0) (by omega); omega) (Nat.lt_trans (Nat.mod_lt _ (by decide)) (by decide)) (by decide) (by decide)) mk_M_92 ms_M_times mi_M mc_M_times (by decide +kernel) ⟨rfl, rfl⟩ ⟨by decide, by decide⟩ preEq rfl hl.1 rfl (Nat.le_of_ble_eq_true rfl) d_M_accepts_127 ⟨Nat.zero_le _, Nat.zero_le _⟩ ?_
      refine lv_icmp_ne (tgt := 137) hx hb d_M_accepts_130 rfl (fun h130 => ?_) (fun h130 => ?_)
      · skip
        have a0 : acP ar true n 0 = false := acP_f hp (fun q => h130 (congrArg nI q))
        refine lv_iconst (v := 0) hx hb d_M_accepts_137 rfl ?_
        refine lv_istore_n (lv' := [(3, .int 0), (8, .int (nI (ar 17 ((2 * n) + 0)))), (7, .int (nI ((2 * n) + 0))), (6, .int 0), (5, .int (nI (ar 19 n))), (4, .int (nI (ar 18 n))), (0, .ref (am 0)), (1, .int (nI n)), (2, .int (zb true))]) hx hb d_M_accepts_138 rfl hl (by decide) rfl (fun ls hl => ?_)
        refine lv_iinc (k := 3) (v := nI (0 + 1)) (lv' := [(6, .int (nI (0 + 1))), (3, .int 0), (8, .int (nI (ar 17 ((2 * n) + 0)))), (7, .int (nI ((2 * n) + 0))), (5, .int (nI (ar 19 n))), (4, .int (nI (ar 18 n))), (0, .ref (am 0)), (1, .int (nI n)), (2, .int (zb true))]) hx hb d_M_accepts_139 hl rfl (nI_1 _) (by decide) rfl (fun ls hl => ?_)
        refine lv_goto (tgt := 47) hx hb d_M_accepts_142 rfl ?_
        have hl : lv_has ls 9 [(6, .int 1), (3, .int 0), (8, .int (nI (ar 17 ((2 * n) + 0)))), (7, .int (nI ((2 * n) + 0))), (5, .int (nI (ar 19 n))), (4, .int (nI (ar 18 n))), (0, .ref (am 0)), (1, .int (nI n)), (2, .int (zb true))] := hl
        refine lv_iload hx hb d_M_accepts_47 (lv_at hl 0 rfl) ?_
        refine lv_iconst (v := 2) hx hb d_M_accepts_49 rfl ?_
        refine lv_icmp_ge (tgt := 145) hx hb d_M_accepts_50 rfl (fun h50 => absurd h50 (by decide)) (fun h50 => ?_)
        refine lv_iconst (v := 2) hx hb d_M_accepts_53 rfl ?_
        refine lv_iload_n hx hb d_M_accepts_54 rfl (lv_at hl 7 rfl) ?_
        refine lv_imul hx hb d_M_accepts_55 ?_
        refine zz_as (y := nI (2 * n)) (pk_mul 2 n) ?_
        refine lv_iload hx hb d_M_accepts_56 (lv_at hl 0 rfl) ?_
        refine lv_iadd hx hb d_M_accepts_58 ?_
        refine zz_as (y := nI ((2 * n) + 1)) (nI_add (2 * n) 1) ?_
        refine lv_istore (lv' := [(7, .int (nI ((2 * n) + 1))), (6, .int 1), (3, .int 0), (8, .int (nI (ar 17 ((2 * n) + 0)))), (5, .int (nI (ar 19 n))), (4, .int (nI (ar 18 n))), (0, .ref (am 0)), (1, .int (nI n)), (2, .int (zb true))]) hx hb d_M_accepts_59 hl (by decide) rfl (fun ls hl => ?_)
        refine lv_iload_n hx hb d_M_accepts_61 rfl (lv_at hl 8 rfl) ?_
        refine lv_if_eq (tgt := 75) hx hb d_M_accepts_62 rfl (fun h62 => absurd h62 (by decide)) (fun h62 => ?_)
        refine lv_aload_n hx hb d_M_accepts_65 rfl (lv_at hl 6 rfl) ?_
        refine mm_get hx hb hts hown hK hP (index := 58) 16 (by decide) mf_M_58 (v := .ref (am 17)) rfl d_M_accepts_66 ?_
        refine lv_iload hx hb d_M_accepts_69 (lv_at hl 0 rfl) ?_
        refine mm_ald hx hb hK hP 16 (by decide) rfl ((2 * n) + 1) rfl (show (2 * n) + 1 < 16 from by omega) (ar 17 ((2 * n) + 1)) (rfl) d_M_accepts_71 ?_
        refine lv_goto (tgt := 82) hx hb d_M_accepts_72 rfl ?_
        refine lv_istore (lv' := [(8, .int (nI (ar 17 ((2 * n) + 1)))), (7, .int (nI ((2 * n) + 1))), (6, .int 1), (3, .int 0), (5, .int (nI (ar 19 n))), (4, .int (nI (ar 18 n))), (0, .ref (am 0)), (1, .int (nI n)), (2, .int (zb true))]) hx hb d_M_accepts_82 hl (by decide) rfl (fun ls hl => ?_)
        refine lv_aload_n hx hb d_M_accepts_84 rfl (lv_at hl 6 rfl) ?_
        refine lv_iload_n hx hb d_M_accepts_85 rfl (lv_at hl 7 rfl) ?_
        refine lv_iload hx hb d_M_accepts_86 (lv_at hl 2 rfl) ?_
        refine zz_cV (index := 138) (n := 2) (As := [.int (nI n), .int 1]) (rest := []) ⟨hx, hb, hml, hown, hts⟩ (k_isPairM l D ca am (ar) n 1 (by omega) (by decide) hl2 hbs) mk_M_138 mo_M_isPair me_M_M_isPair_M mi_M mc_M_isPair (by decide +kernel) ⟨rfl, rfl⟩ ⟨by decide, by decide⟩ (mm_pre hK hP) rfl hl.1 rfl (Nat.le_of_ble_eq_true rfl) d_M_accepts_88 ⟨Nat.zero_le _, Nat.zero_le _⟩ ?_
        refine lv_if_eq (tgt := 139) hx hb d_M_accepts_91 rfl (fun h91 => ?_) (fun h91 => ?_)
        · skip
          have a1 : acP ar true n 1 = true := acP_n (pairB_f hn (zb_eq (b := pairB ar n 1) h91))
          refine lv_iinc (k := 2) (v := nI (1 + 1)) (lv' := [(6, .int (nI (1 + 1))), (8, .int (nI (ar 17 ((2 * n) + 1)))), (7, .int (nI ((2 * n) + 1))), (3, .int 0), (5, .int (nI (ar 19 n))), (4, .int (nI (ar 18 n))), (0, .ref (am 0)), (1, .int (nI n)), (2, .int (zb true))]) hx hb d_M_accepts_139 hl rfl (nI_1 _) (by decide) rfl (fun ls hl => ?_)
          refine lv_goto (tgt := 47) hx hb d_M_accepts_142 rfl ?_
          have hl : lv_has ls 9 [(6, .int 2), (8, .int (nI (ar 17 ((2 * n) + 1)))), (7, .int (nI ((2 * n) + 1))), (3, .int 0), (5, .int (nI (ar 19 n))), (4, .int (nI (ar 18 n))), (0, .ref (am 0)), (1, .int (nI n)), (2, .int (zb true))] := hl
          refine lv_iload hx hb d_M_accepts_47 (lv_at hl 0 rfl) ?_
          refine lv_iconst (v := 2) hx hb d_M_accepts_49 rfl ?_
          refine lv_icmp_ge (tgt := 145) hx hb d_M_accepts_50 rfl (fun h50 => ?_) (fun h50 => absurd (by decide) h50)
          refine lv_iload_n hx hb d_M_accepts_145 rfl (lv_at hl 3 rfl) ?_
          have hq : acB ar true n = false := by unfold acB; first | (rw [a0]; rfl) | (rw [a1, Bool.and_false])
          refine zz_as (y := zb (acB ar true n)) (by rw [hq]; rfl) ?_
          exact W.zret hx hb hr (zb_nar _) (fun t ht hW => ⟨rfl, ht⟩) (fun q h => absurd h List.not_mem_nil) d_M_accepts_146
        · skip
          have hp : 0 < ar 11 (2 * n + 1) := (pairB_t (zb_ne (b := pairB ar n 1) h91)).2
          refine lv_iload_n hx hb d_M_accepts_94 rfl (lv_at hl 3 rfl) ?_
          refine lv_if_eq (tgt := 137) hx hb d_M_accepts_95 rfl (fun h95 => ?_) (fun h95 => absurd (rfl) h95)
          refine lv_iconst (v := 0) hx hb d_M_accepts_137 rfl ?_
          refine lv_istore_n (lv' := [(3, .int 0), (8, .int (nI (ar 17 ((2 * n) + 1)))), (7, .int (nI ((2 * n) + 1))), (6, .int 1), (5, .int (nI (ar 19 n))), (4, .int (nI (ar 18 n))), (0, .ref (am 0)), (1, .int (nI n)), (2, .int (zb true))]) hx hb d_M_accepts_138 rfl hl (by decide) rfl (fun ls hl => ?_)
          refine lv_iinc (k := 3) (v := nI (1 + 1)) (lv' := [(6, .int (nI (1 + 1))), (3, .int 0), (8, .int (nI (ar 17 ((2 * n) + 1)))), (7, .int (nI ((2 * n) + 1))), (5, .int (nI (ar 19 n))), (4, .int (nI (ar 18 n))), (0, .ref (am 0)), (1, .int (nI n)), (2, .int (zb true))]) hx hb d_M_accepts_139 hl rfl (nI_1 _) (by decide) rfl (fun ls hl => ?_)
          refine lv_goto (tgt := 47) hx hb d_M_accepts_142 rfl ?_
          have hl : lv_has ls 9 [(6, .int 2), (3, .int 0), (8, .int (nI (ar 17 ((2 * n) + 1)))), (7, .int (nI ((2 * n) + 1))), (5, .int (nI (ar 19 n))), (4, .int (nI (ar 18 n))), (0, .ref (am 0)), (1, .int (nI n)), (2, .int (zb true))] := hl
          refine lv_iload hx hb d_M_accepts_47 (lv_at hl 0 rfl) ?_
          refine lv_iconst (v := 2) hx hb d_M_accepts_49 rfl ?_
          refine lv_icmp_ge (tgt := 145) hx hb d_M_accepts_50 rfl (fun h50 => ?_) (fun h50 => absurd (by decide) h50)
          refine lv_iload_n hx hb d_M_accepts_145 rfl (lv_at hl 1 rfl) ?_
          have hq : acB ar true n = false := by unfold acB; first | (rw [a0]; rfl) | (rw [a1, Bool.and_false])
          refine zz_as (y := zb (acB ar true n)) (by rw [hq]; rfl) ?_
          exact W.zret hx hb hr (zb_nar _) (fun t ht hW => ⟨rfl, ht⟩) (fun q h => absurd h List.not_mem_nil) d_M_accepts_146
      · skip
        have a0 : acP ar true n 0 = true := acP_e (zn_eqm.mp h130)
        refine lv_iconst (v := 1) hx hb d_M_accepts_133 rfl ?_
        refine lv_goto (tgt := 138) hx hb d_M_accepts_134 rfl ?_
        refine lv_istore_n (lv' := [(3, .int 1), (8, .int (nI (ar 17 ((2 * n) + 0)))), (7, .int (nI ((2 * n) + 0))), (6, .int 0), (5, .int (nI (ar 19 n))), (4, .int (nI (ar 18 n))), (0, .ref (am 0)), (1, .int (nI n)), (2, .int (zb true))]) hx hb d_M_accepts_138 rfl hl (by decide) rfl (fun ls hl => ?_)
        refine lv_iinc (k := 3) (v := nI (0 + 1)) (lv' := [(6, .int (nI (0 + 1))), (3, .int 1), (8, .int (nI (ar 17 ((2 * n) + 0)))), (7, .int (nI ((2 * n) + 0))), (5, .int (nI (ar 19 n))), (4, .int (nI (ar 18 n))), (0, .ref (am 0)), (1, .int (nI n)), (2, .int (zb true))]) hx hb d_M_accepts_139 hl rfl (nI_1 _) (by decide) rfl (fun ls hl => ?_)
        refine lv_goto (tgt := 47) hx hb d_M_accepts_142 rfl ?_
        have hl : lv_has ls 9 [(6, .int 1), (3, .int 1), (8, .int (nI (ar 17 ((2 * n) + 0)))), (7, .int (nI ((2 * n) + 0))), (5, .int (nI (ar 19 n))), (4, .int (nI (ar 18 n))), (0, .ref (am 0)), (1, .int (nI n)), (2, .int (zb true))] := hl
        refine lv_iload hx hb d_M_accepts_47 (lv_at hl 0 rfl) ?_
        refine lv_iconst (v := 2) hx hb d_M_accepts_49 rfl ?_
        refine lv_icmp_ge (tgt := 145) hx hb d_M_accepts_50 rfl (fun h50 => absurd h50 (by decide)) (fun h50 => ?_)
        refine lv_iconst (v := 2) hx hb d_M_accepts_53 rfl ?_
        refine lv_iload_n hx hb d_M_accepts_54 rfl (lv_at hl 7 rfl) ?_
        refine lv_imul hx hb d_M_accepts_55 ?_
        refine zz_as (y := nI (2 * n)) (pk_mul 2 n) ?_
        refine lv_iload hx hb d_M_accepts_56 (lv_at hl 0 rfl) ?_
        refine lv_iadd hx hb d_M_accepts_58 ?_
        refine zz_as (y := nI ((2 * n) + 1)) (nI_add (2 * n) 1) ?_
        refine lv_istore (lv' := [(7, .int (nI ((2 * n) + 1))), (6, .int 1), (3, .int 1), (8, .int (nI (ar 17 ((2 * n) + 0)))), (5, .int (nI (ar 19 n))), (4, .int (nI (ar 18 n))), (0, .ref (am 0)), (1, .int (nI n)), (2, .int (zb true))]) hx hb d_M_accepts_59 hl (by decide) rfl (fun ls hl => ?_)
        refine lv_iload_n hx hb d_M_accepts_61 rfl (lv_at hl 8 rfl) ?_
        refine lv_if_eq (tgt := 75) hx hb d_M_accepts_62 rfl (fun h62 => absurd h62 (by decide)) (fun h62 => ?_)
        refine lv_aload_n hx hb d_M_accepts_65 rfl (lv_at hl 6 rfl) ?_
        refine mm_get hx hb hts hown hK hP (index := 58) 16 (by decide) mf_M_58 (v := .ref (am 17)) rfl d_M_accepts_66 ?_
        refine lv_iload hx hb d_M_accepts_69 (lv_at hl 0 rfl) ?_
        refine mm_ald hx hb hK hP 16 (by decide) rfl ((2 * n) + 1) rfl (show (2 * n) + 1 < 16 from by omega) (ar 17 ((2 * n) + 1)) (rfl) d_M_accepts_71 ?_
        refine lv_goto (tgt := 82) hx hb d_M_accepts_72 rfl ?_
        refine lv_istore (lv' := [(8, .int (nI (ar 17 ((2 * n) + 1)))), (7, .int (nI ((2 * n) + 1))), (6, .int 1), (3, .int 1), (5, .int (nI (ar 19 n))), (4, .int (nI (ar 18 n))), (0, .ref (am 0)), (1, .int (nI n)), (2, .int (zb true))]) hx hb d_M_accepts_82 hl (by decide) rfl (fun ls hl => ?_)
        refine lv_aload_n hx hb d_M_accepts_84 rfl (lv_at hl 6 rfl) ?_
        refine lv_iload_n hx hb d_M_accepts_85 rfl (lv_at hl 7 rfl) ?_
        refine lv_iload hx hb d_M_accepts_86 (lv_at hl 2 rfl) ?_
        refine zz_cV (index := 138) (n := 2) (As := [.int (nI n), .int 1]) (rest := []) ⟨hx, hb, hml, hown, hts⟩ (k_isPairM l D ca am (ar) n 1 (by omega) (by decide) hl2 hbs) mk_M_138 mo_M_isPair me_M_M_isPair_M mi_M mc_M_isPair (by decide +kernel) ⟨rfl, rfl⟩ ⟨by decide, by decide⟩ (mm_pre hK hP) rfl hl.1 rfl (Nat.le_of_ble_eq_true rfl) d_M_accepts_88 ⟨Nat.zero_le _, Nat.zero_le _⟩ ?_
        refine lv_if_eq (tgt := 139) hx hb d_M_accepts_91 rfl (fun h91 => ?_) (fun h91 => ?_)
        · skip
          have a1 : acP ar true n 1 = true := acP_n (pairB_f hn (zb_eq (b := pairB ar n 1) h91))
          refine lv_iinc (k := 2) (v := nI (1 + 1)) (lv' := [(6, .int (nI (1 + 1))), (8, .int (nI (ar 17 ((2 * n) + 1)))), (7, .int (nI ((2 * n) + 1))), (3, .int 1), (5, .int (nI (ar 19 n))), (4, .int (nI (ar 18 n))), (0, .ref (am 0)), (1, .int (nI n)), (2, .int (zb true))]) hx hb d_M_accepts_139 hl rfl (nI_1 _) (by decide) rfl (fun ls hl => ?_)
          refine lv_goto (tgt := 47) hx hb d_M_accepts_142 rfl ?_
          have hl : lv_has ls 9 [(6, .int 2), (8, .int (nI (ar 17 ((2 * n) + 1)))), (7, .int (nI ((2 * n) + 1))), (3, .int 1), (5, .int (nI (ar 19 n))), (4, .int (nI (ar 18 n))), (0, .ref (am 0)), (1, .int (nI n)), (2, .int (zb true))] := hl
          refine lv_iload hx hb d_M_accepts_47 (lv_at hl 0 rfl) ?_
          refine lv_iconst (v := 2) hx hb d_M_accepts_49 rfl ?_
          refine lv_icmp_ge (tgt := 145) hx hb d_M_accepts_50 rfl (fun h50 => ?_) (fun h50 => absurd (by decide) h50)
          refine lv_iload_n hx hb d_M_accepts_145 rfl (lv_at hl 3 rfl) ?_
          have hq : acB ar true n = true := by unfold acB; rw [a0, a1]; rfl
          refine zz_as (y := zb (acB ar true n)) (by rw [hq]; rfl) ?_
          exact W.zret hx hb hr (zb_nar _) (fun t ht hW => ⟨rfl, ht⟩) (fun q h => absurd h List.not_mem_nil) d_M_accepts_146
        · skip
          have hp : 0 < ar 11 (2 * n + 1) := (pairB_t (zb_ne (b := pairB ar n 1) h91)).2
          refine lv_iload_n hx hb d_M_accepts_94 rfl (lv_at hl 3 rfl) ?_
          refine lv_if_eq (tgt := 137) hx hb d_M_accepts_95 rfl (fun h95 => absurd h95 (by decide)) (fun h95 => ?_)
          refine lv_aload_n hx hb d_M_accepts_98 rfl (lv_at hl 6 rfl) ?_
          refine mm_get hx hb hts hown hK hP (index := 40) 10 (by decide) mf_M_40 (v := .ref (am 11)) rfl d_M_accepts_99 ?_
          refine lv_iload hx hb d_M_accepts_102 (lv_at hl 1 rfl) ?_
          refine mm_ald hx hb hK hP 10 (by decide) rfl ((2 * n) + 1) rfl (show (2 * n) + 1 < 16 from by omega) (ar 11 ((2 * n) + 1)) (rfl) d_M_accepts_104 ?_
          refine lv_iload hx hb d_M_accepts_105 (lv_at hl 4 rfl) ?_
          refine zz_cS (index := 96) (n := 2) (As := [.int (nI (ar 11 (2 * n + 1))), .int (nI (ar 19 n))]) (rest := []) ⟨hx, hb, hml, hown, hts⟩ (k_raised l (ar 11 (2 * n + 1)) (ar 19 n) (hbs _ (by omega)) (by omega)) mk_M_96 ms_M_raised mi_M mc_M_raised (by decide +kernel) ⟨rfl, rfl⟩ ⟨by decide, by decide⟩ preEq rfl hl.1 rfl (Nat.le_of_ble_eq_true rfl) d_M_accepts_107 ⟨Nat.zero_le _, Nat.zero_le _⟩ ?_
          refine lv_iload hx hb d_M_accepts_110 (lv_at hl 0 rfl) ?_
          refine lv_aload_n hx hb d_M_accepts_112 rfl (lv_at hl 6 rfl) ?_
          refine mm_get hx hb hts hown hK hP (index := 43) 11 (by decide) mf_M_43 (v := .ref (am 12)) rfl d_M_accepts_113 ?_
          refine lv_iload hx hb d_M_accepts_116 (lv_at hl 1 rfl) ?_
          refine mm_ald hx hb hK hP 11 (by decide) rfl ((2 * n) + 1) rfl (show (2 * n) + 1 < 16 from by omega) (ar 12 ((2 * n) + 1)) (rfl) d_M_accepts_118 ?_
          refine lv_iload hx hb d_M_accepts_119 (lv_at hl 5 rfl) ?_
          refine zz_cS (index := 96) (n := 2) (As := [.int (nI (ar 12 (2 * n + 1))), .int (nI (ar 18 n))]) (rest := [.int (nI (ar 17 ((2 * n) + 1))), .int (nI (ar 11 (2 * n + 1) ^ ar 19 n % 10007))]) ⟨hx, hb, hml, hown, hts⟩ (k_raised l (ar 12 (2 * n + 1)) (ar 18 n) (his _ (by omega)) (by omega)) mk_M_96 ms_M_raised mi_M mc_M_raised (by decide +kernel) ⟨rfl, rfl⟩ ⟨by decide, by decide⟩ preEq rfl hl.1 rfl (Nat.le_of_ble_eq_true rfl) d_M_accepts_121 ⟨Nat.zero_le _, Nat.zero_le _⟩ ?_
          refine lv_sipush (v := 10007) hx hb d_M_accepts_124 rfl ?_
          refine zz_cS (index := 92) (n := 3) (As := [.int (nI (ar 17 (2 * n + 1))), .int (nI (ar 12 (2 * n + 1) ^ ar 18 n % 10007)), .int 10007]) (rest := [.int (nI (ar 11 (2 * n + 1) ^ ar 19 n % 10007))]) ⟨hx, hb, hml, hown, hts⟩ (k_times l (ar 17 (2 * n + 1)) (ar 12 (2 * n + 1) ^ ar 18 n % 10007) 10007 (by have := hN8.1 (2 * n + 1) (by omega); omega) (Nat.lt_trans (Nat.mod_lt _ (by decide)) (by decide)) (by decide) (by decide)) mk_M_92 ms_M_times mi_M mc_M_times (by decide +kernel) ⟨rfl, rfl⟩ ⟨by decide, by decide⟩ preEq rfl hl.1 rfl (Nat.le_of_ble_eq_true rfl) d_M_accepts_127 ⟨Nat.zero_le _, Nat.zero_le _⟩ ?_
          refine lv_icmp_ne (tgt := 137) hx hb d_M_accepts_130 rfl (fun h130 => ?_) (fun h130 => ?_)
          · skip
            have a1 : acP ar true n 1 = false := acP_f hp (fun q => h130 (congrArg nI q))
            refine lv_iconst (v := 0) hx hb d_M_accepts_137 rfl ?_
            refine lv_istore_n (lv' := [(3, .int 0), (8, .int (nI (ar 17 ((2 * n) + 1)))), (7, .int (nI ((2 * n) + 1))), (6, .int 1), (5, .int (nI (ar 19 n))), (4, .int (nI (ar 18 n))), (0, .ref (am 0)), (1, .int (nI n)), (2, .int (zb true))]) hx hb d_M_accepts_138 rfl hl (by decide) rfl (fun ls hl => ?_)
            refine lv_iinc (k := 3) (v := nI (1 + 1)) (lv' := [(6, .int (nI (1 + 1))), (3, .int 0), (8, .int (nI (ar 17 ((2 * n) + 1)))), (7, .int (nI ((2 * n) + 1))), (5, .int (nI (ar 19 n))), (4, .int (nI (ar 18 n))), (0, .ref (am 0)), (1, .int (nI n)), (2, .int (zb true))]) hx hb d_M_accepts_139 hl rfl (nI_1 _) (by decide) rfl (fun ls hl => ?_)
            refine lv_goto (tgt := 47) hx hb d_M_accepts_142 rfl ?_
            have hl : lv_has ls 9 [(6, .int 2), (3, .int 0), (8, .int (nI (ar 17 ((2 * n) + 1)))), (7, .int (nI ((2 * n) + 1))), (5, .int (nI (ar 19 n))), (4, .int (nI (ar 18 n))), (0, .ref (am 0)), (1, .int (nI n)), (2, .int (zb true))] := hl
            refine lv_iload hx hb d_M_accepts_47 (lv_at hl 0 rfl) ?_
            refine lv_iconst (v := 2) hx hb d_M_accepts_49 rfl ?_
            refine lv_icmp_ge (tgt := 145) hx hb d_M_accepts_50 rfl (fun h50 => ?_) (fun h50 => absurd (by decide) h50)
            refine lv_iload_n hx hb d_M_accepts_145 rfl (lv_at hl 1 rfl) ?_
            have hq : acB ar true n = false := by unfold acB; first | (rw [a0]; rfl) | (rw [a1, Bool.and_false])
            refine zz_as (y := zb (acB ar true n)) (by rw [hq]; rfl) ?_
            exact W.zret hx hb hr (zb_nar _) (fun t ht hW => ⟨rfl, ht⟩) (fun q h => absurd h List.not_mem_nil) d_M_accepts_146
          · skip
            have a1 : acP ar true n 1 = true := acP_e (zn_eqm.mp h130)
            refine lv_iconst (v := 1) hx hb d_M_accepts_133 rfl ?_
            refine lv_goto (tgt := 138) hx hb d_M_accepts_134 rfl ?_
            refine lv_istore_n (lv' := [(3, .int 1), (8, .int (nI (ar 17 ((2 * n) + 1)))), (7, .int (nI ((2 * n) + 1))), (6, .int 1), (5, .int (nI (ar 19 n))), (4, .int (nI (ar 18 n))), (0, .ref (am 0)), (1, .int (nI n)), (2, .int (zb true))]) hx hb d_M_accepts_138 rfl hl (by decide) rfl (fun ls hl => ?_)
            refine lv_iinc (k := 3) (v := nI (1 + 1)) (lv' := [(6, .int (nI (1 + 1))), (3, .int 1), (8, .int (nI (ar 17 ((2 * n) + 1)))), (7, .int (nI ((2 * n) + 1))), (5, .int (nI (ar 19 n))), (4, .int (nI (ar 18 n))), (0, .ref (am 0)), (1, .int (nI n)), (2, .int (zb true))]) hx hb d_M_accepts_139 hl rfl (nI_1 _) (by decide) rfl (fun ls hl => ?_)
            refine lv_goto (tgt := 47) hx hb d_M_accepts_142 rfl ?_
            have hl : lv_has ls 9 [(6, .int 2), (3, .int 1), (8, .int (nI (ar 17 ((2 * n) + 1)))), (7, .int (nI ((2 * n) + 1))), (5, .int (nI (ar 19 n))), (4, .int (nI (ar 18 n))), (0, .ref (am 0)), (1, .int (nI n)), (2, .int (zb true))] := hl
            refine lv_iload hx hb d_M_accepts_47 (lv_at hl 0 rfl) ?_
            refine lv_iconst (v := 2) hx hb d_M_accepts_49 rfl ?_
            refine lv_icmp_ge (tgt := 145) hx hb d_M_accepts_50 rfl (fun h50 => ?_) (fun h50 => absurd (by decide) h50)
            refine lv_iload_n hx hb d_M_accepts_145 rfl (lv_at hl 1 rfl) ?_
            have hq : acB ar true n = true := by unfold acB; rw [a0, a1]; rfl
            refine zz_as (y := zb (acB ar true n)) (by rw [hq]; rfl) ?_
            exact W.zret hx hb hr (zb_nar _) (fun t ht hW => ⟨rfl, ht⟩) (fun q h => absurd h List.not_mem_nil) d_M_accepts_146
