/-! the model's small methods -/
theorem dr_lt (st : Nat) : dr st < 2 ^ 32 := Nat.mod_lt _ (by decide)
def mpush (ar : Nat → Nat → Nat) (k b y d w : Nat) : Nat → Nat → Nat := zs (zs (zs (zs (zs (zs (zs ar 1 (ar 6 (ar 0 0)) k) 2 (ar 6 (ar 0 0)) b) 3 (ar 6 (ar 0 0)) y) 4 (ar 6 (ar 0 0)) d) 5 (ar 6 (ar 0 0)) w) 0 0 (ar 0 0 + 1)) 6 (ar 0 0 + 1) (ar 6 (ar 0 0) + 1)
def fitn (ar : Nat → Nat → Nat) (n x : Nat) : Bool := decide (ar 11 (2 * n) ^ x % 10007 = ar 12 (2 * n)) && (!decide (0 < ar 11 (2 * n + 1)) || decide (ar 11 (2 * n + 1) ^ x % 10007 = ar 12 (2 * n + 1)))
def tellB (ar : Nat → Nat → Nat) (n x : Nat) : Bool := decide (n < ar 0 2) && (ex x && fitn ar n x)
def pairB (ar : Nat → Nat → Nat) (n p : Nat) : Bool := decide (n < ar 0 2) && decide (0 < ar 11 (2 * n + p))
def partB (ar : Nat → Nat → Nat) (n w : Nat) : Bool := decide (n < ar 0 2) && (decide (w < 4) && (!decide (w = 1) || pairB ar n 1))
theorem lit_a : (1103515245 : Int32) = nI 1103515245 := rfl
theorem lit_c : (12345 : Int32) = nI 12345 := rfl
theorem dr_n (st : Nat) : nI st * 1103515245 + 12345 = nI (dr st) := by
  rw [lit_a, lit_c, pk_mul, nI_add]
  unfold dr
  rw [show (4294967296 : Nat) = 2 ^ 32 from rfl, zn_mod]
theorem dv_s {n : Nat} (h : n < 2 ^ 32) : ((nI n).toUInt32 >>> ((8 : Int32).toUInt32 &&& Int32.toUInt32 31)).toInt32 = nI (n / 256) := by
  rw [pk_ushrN h 8 8 (by decide)]
theorem dv_n {n : Nat} (h : n < 2 ^ 32) : nI (n / 256) - nI (n / 256) / 5003 * 5003 = nI (dv n) := by
  unfold dv
  exact pk_rem (d := 5003) (by omega) (by decide) (by decide)
theorem zdf {P : Prop} {h : Decidable P} (q : ¬ P) : (@decide P h) = false := decide_eq_false q
theorem zdt {P : Prop} {h : Decidable P} (q : P) : (@decide P h) = true := decide_eq_true q

theorem d_M_draw_0 : decode c_M_draw 0 = .ok (.aload_n 0, 1) := by decide +kernel
theorem d_M_draw_1 : decode c_M_draw 1 = .ok (.aload_n 0, 1) := by decide +kernel
theorem d_M_draw_2 : decode c_M_draw 2 = .ok (.getfield 104, 3) := by decide +kernel
theorem d_M_draw_5 : decode c_M_draw 5 = .ok (.ldc 108, 2) := by decide +kernel
theorem d_M_draw_7 : decode c_M_draw 7 = .ok (.imul, 1) := by decide +kernel
theorem d_M_draw_8 : decode c_M_draw 8 = .ok (.sipush 12345, 3) := by decide +kernel
theorem d_M_draw_11 : decode c_M_draw 11 = .ok (.iadd, 1) := by decide +kernel
theorem d_M_draw_12 : decode c_M_draw 12 = .ok (.putfield 104, 3) := by decide +kernel
theorem d_M_draw_15 : decode c_M_draw 15 = .ok (.aload_n 0, 1) := by decide +kernel
theorem d_M_draw_16 : decode c_M_draw 16 = .ok (.getfield 104, 3) := by decide +kernel
theorem d_M_draw_19 : decode c_M_draw 19 = .ok (.bipush 8, 2) := by decide +kernel
theorem d_M_draw_21 : decode c_M_draw 21 = .ok (.iushr, 1) := by decide +kernel
theorem d_M_draw_22 : decode c_M_draw 22 = .ok (.sipush 5003, 3) := by decide +kernel
theorem d_M_draw_25 : decode c_M_draw 25 = .ok (.irem, 1) := by decide +kernel
theorem d_M_draw_26 : decode c_M_draw 26 = .ok (.ireturn, 1) := by decide +kernel

set_option maxHeartbeats 4000000 in
set_option maxRecDepth 100000 in
/-- draw() -/
theorem k_drawM (l : Launch) (D : va_G) (ca : Nat → ClassId) (am : Nat → Nat) (ar : Nat → Nat → Nat) (hI : mI am) : Met l y_M_draw (Cond.code y_M_draw c_M_draw 1 (some .int) :: zT) ({ frames := 1, cells := 0, slots := 0, locals := 40 }) (va_Pc [.ref (am 0)] (mw D ca am ar)) (va_Qi (fun r ar1 => r = nI (dv (dr (ar 0 5))) ∧ ar1 = zs ar 0 5 (dr (ar 0 5))) (mw D ca am) (mA am)) 0 0 (mA am) := by
  refine Met.ofW (cc := c_M_draw) (maxL := 1) (ret := (some .int)) (by decide) rfl ?_
  intro p e s m args below meth c s₁ B hml hv
  obtain ⟨rfl, hK, hP⟩ := hv
  have hx := B.exec
  have hb := B.bytes
  have hr := B.returns
  have hts0 := atoms_spec (ws := Cond.code y_M_draw c_M_draw 1 (some .int) :: zT) B.pre
  have hts := fun w h => hts0 w (List.mem_cons_of_mem _ h)
  have hown : s.vm.findClass R_M = some m.cls := findClass_of_methodNamed B.named
  have hlocks := B.notSynchronized
  have hD := mI_D hI
  have hS : va_S (mA am) s.heap s.heap [] := va_S.rf
  have hAA : ∀ q, mA am q → mA am q := fun _ h => h
  have hl := lv_entry ([.ref (am 0)]) (n := 1) (Nat.le_of_ble_eq_true rfl)
  rw [lg_entry_eq]
  generalize (lg_sl ([.ref (am 0)]) ++ List.replicate (1 - (lg_sl ([.ref (am 0)])).length) Slot.unset).toArray = ls at hl ⊢
  have hl : lv_has ls 1 [(0, .ref (am 0))] := hl
  skip
  refine lv_aload_n hx hb d_M_draw_0 rfl (lv_at hl 0 rfl) ?_
  refine lv_aload_n hx hb d_M_draw_1 rfl (lv_at hl 0 rfl) ?_
  refine mm_get hx hb hts hown hK hP (index := 104) 32 (by decide) mf_M_104 (v := .int (nI (ar 0 5))) rfl d_M_draw_2 ?_
  refine lv_ldc (v := 1103515245) hx hb hown (hts _ mn_M_108) d_M_draw_5 ?_
  refine lv_imul hx hb d_M_draw_7 ?_
  refine lv_sipush (v := 12345) hx hb d_M_draw_8 rfl ?_
  refine lv_iadd hx hb d_M_draw_11 ?_
  obtain ⟨d0, hd0⟩ : ∃ d, dr (ar 0 5) = d := ⟨_, rfl⟩
  have hlt : d0 < 2 ^ 32 := by rw [← hd0]; exact dr_lt _
  refine zz_as (y := nI d0) (by rw [dr_n, hd0]) ?_
  refine mm_put hx hb hts hown hK hP hD hS (index := 104) 5 (by decide) mf_M_104 (d0) (rfl) rfl rfl d_M_draw_12 (fun H locs hP hS => ?_)
  refine lv_aload_n hx hb d_M_draw_15 rfl (lv_at hl 0 rfl) ?_
  refine mm_get hx hb hts hown hK hP (index := 104) 32 (by decide) mf_M_104 (v := .int (nI d0)) rfl d_M_draw_16 ?_
  refine lv_bipush (v := 8) hx hb d_M_draw_19 rfl ?_
  refine lv_iushr hx hb d_M_draw_21 rfl ?_
  refine zz_as (y := nI (d0 / 256)) (dv_s hlt) ?_
  refine lv_sipush (v := 5003) hx hb d_M_draw_22 rfl ?_
  refine lv_irem hx hb d_M_draw_25 (by decide) ?_
  refine zz_as (y := nI (dv d0)) (dv_n hlt) ?_
  exact W.iret hx hb hr (fun t ht hW => ⟨⟨_, zs ar 0 5 d0, rfl, ⟨by rw [hd0], by rw [hd0]⟩, va_K.moved hW.alike hK, by rw [ht]; exact hP⟩, hS.F ht⟩) hS.2.2 d_M_draw_26

theorem d_M_power_0 : decode c_M_power 0 = .ok (.iload_n 1, 1) := by decide +kernel
theorem d_M_power_1 : decode c_M_power 1 = .ok (.invokestatic 100, 3) := by decide +kernel
theorem d_M_power_4 : decode c_M_power 4 = .ok (.ifCond .eq 18, 3) := by decide +kernel
theorem d_M_power_7 : decode c_M_power 7 = .ok (.iload_n 2, 1) := by decide +kernel
theorem d_M_power_8 : decode c_M_power 8 = .ok (.invokestatic 109, 3) := by decide +kernel
theorem d_M_power_11 : decode c_M_power 11 = .ok (.ifCond .eq 11, 3) := by decide +kernel
theorem d_M_power_14 : decode c_M_power 14 = .ok (.iload_n 1, 1) := by decide +kernel
theorem d_M_power_15 : decode c_M_power 15 = .ok (.iload_n 2, 1) := by decide +kernel
theorem d_M_power_16 : decode c_M_power 16 = .ok (.invokestatic 96, 3) := by decide +kernel
theorem d_M_power_19 : decode c_M_power 19 = .ok (.goto 4, 3) := by decide +kernel
theorem d_M_power_22 : decode c_M_power 22 = .ok (.iconst (-1), 1) := by decide +kernel
theorem d_M_power_23 : decode c_M_power 23 = .ok (.ireturn, 1) := by decide +kernel

set_option maxHeartbeats 4000000 in
set_option maxRecDepth 100000 in
/-- power(b, e) -/
theorem k_powerM (l : Launch) (D : va_G) (ca : Nat → ClassId) (am : Nat → Nat) (ar : Nat → Nat → Nat) (b e0 : Nat) (hb0 : b < 2 ^ 32) (he0 : e0 < 2 ^ 32) : Met l y_M_power (Cond.code y_M_power c_M_power 3 (some .int) :: zT) ({ frames := 5, cells := 0, slots := 0, locals := 200 }) (va_Pc [.ref (am 0), .int (nI b), .int (nI e0)] (mw D ca am ar)) (QcRead (if el b && ex e0 then nI (b ^ e0 % 10007) else -1)) 0 0 (fun _ => False) := by
  refine Met.ofW (cc := c_M_power) (maxL := 3) (ret := (some .int)) (by decide) rfl ?_
  intro p e s m args below meth c s₁ B hml hv
  obtain ⟨rfl, hK, hP⟩ := hv
  have hx := B.exec
  have hb := B.bytes
  have hr := B.returns
  have hts0 := atoms_spec (ws := Cond.code y_M_power c_M_power 3 (some .int) :: zT) B.pre
  have hts := fun w h => hts0 w (List.mem_cons_of_mem _ h)
  have hown : s.vm.findClass R_M = some m.cls := findClass_of_methodNamed B.named
  have hlocks := B.notSynchronized
  have hl := lv_entry ([.ref (am 0), .int (nI b), .int (nI e0)]) (n := 3) (Nat.le_of_ble_eq_true rfl)
  rw [lg_entry_eq]
  generalize (lg_sl ([.ref (am 0), .int (nI b), .int (nI e0)]) ++ List.replicate (3 - (lg_sl ([.ref (am 0), .int (nI b), .int (nI e0)])).length) Slot.unset).toArray = ls at hl ⊢
  have hl : lv_has ls 3 [(0, .ref (am 0)), (1, .int (nI b)), (2, .int (nI e0))] := hl
  refine lv_iload_n hx hb d_M_power_0 rfl (lv_at hl 1 rfl) ?_
  refine zz_cS (index := 100) (n := 1) (As := [.int (nI b)]) (rest := []) ⟨hx, hb, hml, hown, hts⟩ (k_isElM l b hb0) mk_M_100 ms_M_isElement mi_M mc_M_isElement (by decide +kernel) ⟨rfl, rfl⟩ ⟨by decide, by decide⟩ preEq rfl hl.1 rfl (Nat.le_of_ble_eq_true rfl) d_M_power_1 ⟨Nat.zero_le _, Nat.zero_le _⟩ ?_
  refine lv_if_eq (tgt := 22) hx hb d_M_power_4 rfl (fun h4 => ?_) (fun h4 => ?_)
  · skip
    have hq : (el b && ex e0) = false := by rw [zb_eq h4]; rfl
    refine lv_iconst (v := (-1)) hx hb d_M_power_22 rfl ?_
    refine zz_as (y := if el b && ex e0 then nI (b ^ e0 % 10007) else -1) (by rw [hq]; rfl) ?_
    exact W.iret hx hb hr (fun t ht hW => ⟨rfl, ht⟩) (fun q h => absurd h List.not_mem_nil) d_M_power_23
  · skip
    refine lv_iload_n hx hb d_M_power_7 rfl (lv_at hl 2 rfl) ?_
    refine zz_cS (index := 109) (n := 1) (As := [.int (nI e0)]) (rest := []) ⟨hx, hb, hml, hown, hts⟩ (k_isExM l e0 he0) mk_M_109 ms_M_isExponent mi_M mc_M_isExponent (by decide +kernel) ⟨rfl, rfl⟩ ⟨by decide, by decide⟩ preEq rfl hl.1 rfl (Nat.le_of_ble_eq_true rfl) d_M_power_8 ⟨Nat.zero_le _, Nat.zero_le _⟩ ?_
    refine lv_if_eq (tgt := 22) hx hb d_M_power_11 rfl (fun h11 => ?_) (fun h11 => ?_)
    · skip
      have hq : (el b && ex e0) = false := by rw [zb_eq h11, Bool.and_false]
      refine lv_iconst (v := (-1)) hx hb d_M_power_22 rfl ?_
      refine zz_as (y := if el b && ex e0 then nI (b ^ e0 % 10007) else -1) (by rw [hq]; rfl) ?_
      exact W.iret hx hb hr (fun t ht hW => ⟨rfl, ht⟩) (fun q h => absurd h List.not_mem_nil) d_M_power_23
    · skip
      have hq : (el b && ex e0) = true := by rw [zb_ne h4, zb_ne h11]; rfl
      have hr0 := (el_is (zb_ne h4)).2.1
      have hr1 := ex_is (zb_ne h11)
      refine lv_iload_n hx hb d_M_power_14 rfl (lv_at hl 1 rfl) ?_
      refine lv_iload_n hx hb d_M_power_15 rfl (lv_at hl 2 rfl) ?_
      refine zz_cS (index := 96) (n := 2) (As := [.int (nI b), .int (nI e0)]) (rest := []) ⟨hx, hb, hml, hown, hts⟩ (k_raised l b e0 hr0 (by omega)) mk_M_96 ms_M_raised mi_M mc_M_raised (by decide +kernel) ⟨rfl, rfl⟩ ⟨by decide, by decide⟩ preEq rfl hl.1 rfl (Nat.le_of_ble_eq_true rfl) d_M_power_16 ⟨Nat.zero_le _, Nat.zero_le _⟩ ?_
      refine lv_goto (tgt := 23) hx hb d_M_power_19 rfl ?_
      refine zz_as (y := if el b && ex e0 then nI (b ^ e0 % 10007) else -1) (by rw [hq]; rfl) ?_
      exact W.iret hx hb hr (fun t ht hW => ⟨rfl, ht⟩) (fun q h => absurd h List.not_mem_nil) d_M_power_23

theorem d_M_push_0 : decode c_M_push 0 = .ok (.aload_n 0, 1) := by decide +kernel
theorem d_M_push_1 : decode c_M_push 1 = .ok (.getfield 25, 3) := by decide +kernel
theorem d_M_push_4 : decode c_M_push 4 = .ok (.aload_n 0, 1) := by decide +kernel
theorem d_M_push_5 : decode c_M_push 5 = .ok (.getfield 112, 3) := by decide +kernel
theorem d_M_push_8 : decode c_M_push 8 = .ok (.iaload, 1) := by decide +kernel
theorem d_M_push_9 : decode c_M_push 9 = .ok (.istore 6, 2) := by decide +kernel
theorem d_M_push_11 : decode c_M_push 11 = .ok (.aload_n 0, 1) := by decide +kernel
theorem d_M_push_12 : decode c_M_push 12 = .ok (.getfield 7, 3) := by decide +kernel
theorem d_M_push_15 : decode c_M_push 15 = .ok (.iload 6, 2) := by decide +kernel
theorem d_M_push_17 : decode c_M_push 17 = .ok (.iload_n 1, 1) := by decide +kernel
theorem d_M_push_18 : decode c_M_push 18 = .ok (.iastore, 1) := by decide +kernel
theorem d_M_push_19 : decode c_M_push 19 = .ok (.aload_n 0, 1) := by decide +kernel
theorem d_M_push_20 : decode c_M_push 20 = .ok (.getfield 13, 3) := by decide +kernel
theorem d_M_push_23 : decode c_M_push 23 = .ok (.iload 6, 2) := by decide +kernel
theorem d_M_push_25 : decode c_M_push 25 = .ok (.iload_n 2, 1) := by decide +kernel
theorem d_M_push_26 : decode c_M_push 26 = .ok (.iastore, 1) := by decide +kernel
theorem d_M_push_27 : decode c_M_push 27 = .ok (.aload_n 0, 1) := by decide +kernel
theorem d_M_push_28 : decode c_M_push 28 = .ok (.getfield 16, 3) := by decide +kernel
theorem d_M_push_31 : decode c_M_push 31 = .ok (.iload 6, 2) := by decide +kernel
theorem d_M_push_33 : decode c_M_push 33 = .ok (.iload_n 3, 1) := by decide +kernel
theorem d_M_push_34 : decode c_M_push 34 = .ok (.iastore, 1) := by decide +kernel
theorem d_M_push_35 : decode c_M_push 35 = .ok (.aload_n 0, 1) := by decide +kernel
theorem d_M_push_36 : decode c_M_push 36 = .ok (.getfield 19, 3) := by decide +kernel
theorem d_M_push_39 : decode c_M_push 39 = .ok (.iload 6, 2) := by decide +kernel
theorem d_M_push_41 : decode c_M_push 41 = .ok (.iload 4, 2) := by decide +kernel
theorem d_M_push_43 : decode c_M_push 43 = .ok (.iastore, 1) := by decide +kernel
theorem d_M_push_44 : decode c_M_push 44 = .ok (.aload_n 0, 1) := by decide +kernel
theorem d_M_push_45 : decode c_M_push 45 = .ok (.getfield 22, 3) := by decide +kernel
theorem d_M_push_48 : decode c_M_push 48 = .ok (.iload 6, 2) := by decide +kernel
theorem d_M_push_50 : decode c_M_push 50 = .ok (.iload 5, 2) := by decide +kernel
theorem d_M_push_52 : decode c_M_push 52 = .ok (.iastore, 1) := by decide +kernel
theorem d_M_push_53 : decode c_M_push 53 = .ok (.aload_n 0, 1) := by decide +kernel
theorem d_M_push_54 : decode c_M_push 54 = .ok (.dup, 1) := by decide +kernel
theorem d_M_push_55 : decode c_M_push 55 = .ok (.getfield 112, 3) := by decide +kernel
theorem d_M_push_58 : decode c_M_push 58 = .ok (.iconst 1, 1) := by decide +kernel
theorem d_M_push_59 : decode c_M_push 59 = .ok (.iadd, 1) := by decide +kernel
theorem d_M_push_60 : decode c_M_push 60 = .ok (.putfield 112, 3) := by decide +kernel
theorem d_M_push_63 : decode c_M_push 63 = .ok (.aload_n 0, 1) := by decide +kernel
theorem d_M_push_64 : decode c_M_push 64 = .ok (.getfield 25, 3) := by decide +kernel
theorem d_M_push_67 : decode c_M_push 67 = .ok (.aload_n 0, 1) := by decide +kernel
theorem d_M_push_68 : decode c_M_push 68 = .ok (.getfield 112, 3) := by decide +kernel
theorem d_M_push_71 : decode c_M_push 71 = .ok (.iload 6, 2) := by decide +kernel
theorem d_M_push_73 : decode c_M_push 73 = .ok (.iconst 1, 1) := by decide +kernel
theorem d_M_push_74 : decode c_M_push 74 = .ok (.iadd, 1) := by decide +kernel
theorem d_M_push_75 : decode c_M_push 75 = .ok (.iastore, 1) := by decide +kernel
theorem d_M_push_76 : decode c_M_push 76 = .ok (.return_, 1) := by decide +kernel

set_option maxHeartbeats 4000000 in
set_option maxRecDepth 100000 in
/-- push(..) -/
theorem k_pushM (l : Launch) (D : va_G) (ca : Nat → ClassId) (am : Nat → Nat) (ar : Nat → Nat → Nat) (hI : mI am) (k b y d w : Nat) (ht : ar 0 0 < 6) (hat : ar 6 (ar 0 0) < 90) : Met l y_M_push (Cond.code y_M_push c_M_push 7 none :: zT) ({ frames := 1, cells := 0, slots := 0, locals := 40 }) (va_Pc [.ref (am 0), .int (nI k), .int (nI b), .int (nI y), .int (nI d), .int (nI w)] (mw D ca am ar)) (va_Qv (fun ar1 => ar1 = mpush ar k b y d w) (mw D ca am) (mA am)) 0 0 (mA am) := by
  refine Met.ofW (cc := c_M_push) (maxL := 7) (ret := none) (by decide) rfl ?_
  intro p e s m args below meth c s₁ B hml hv
  obtain ⟨rfl, hK, hP⟩ := hv
  have hx := B.exec
  have hb := B.bytes
  have hr := B.returns
  have hts0 := atoms_spec (ws := Cond.code y_M_push c_M_push 7 none :: zT) B.pre
  have hts := fun w h => hts0 w (List.mem_cons_of_mem _ h)
  have hown : s.vm.findClass R_M = some m.cls := findClass_of_methodNamed B.named
  have hlocks := B.notSynchronized
  have hD := mI_D hI
  have hS : va_S (mA am) s.heap s.heap [] := va_S.rf
  have hAA : ∀ q, mA am q → mA am q := fun _ h => h
  have hl := lv_entry ([.ref (am 0), .int (nI k), .int (nI b), .int (nI y), .int (nI d), .int (nI w)]) (n := 7) (Nat.le_of_ble_eq_true rfl)
  rw [lg_entry_eq]
  generalize (lg_sl ([.ref (am 0), .int (nI k), .int (nI b), .int (nI y), .int (nI d), .int (nI w)]) ++ List.replicate (7 - (lg_sl ([.ref (am 0), .int (nI k), .int (nI b), .int (nI y), .int (nI d), .int (nI w)])).length) Slot.unset).toArray = ls at hl ⊢
  have hl : lv_has ls 7 [(0, .ref (am 0)), (1, .int (nI k)), (2, .int (nI b)), (3, .int (nI y)), (4, .int (nI d)), (5, .int (nI w))] := hl
  skip
  refine lv_aload_n hx hb d_M_push_0 rfl (lv_at hl 0 rfl) ?_
  refine mm_get hx hb hts hown hK hP (index := 25) 5 (by decide) mf_M_25 (v := .ref (am 6)) rfl d_M_push_1 ?_
  refine lv_aload_n hx hb d_M_push_4 rfl (lv_at hl 0 rfl) ?_
  refine mm_get hx hb hts hown hK hP (index := 112) 27 (by decide) mf_M_112 (v := .int (nI (ar 0 0))) rfl d_M_push_5 ?_
  refine mm_ald hx hb hK hP 5 (by decide) rfl (ar 0 0) rfl (show ar 0 0 < 7 from by omega) (ar 6 (ar 0 0)) (rfl) d_M_push_8 ?_
  refine lv_istore (lv' := [(6, .int (nI (ar 6 (ar 0 0)))), (0, .ref (am 0)), (1, .int (nI k)), (2, .int (nI b)), (3, .int (nI y)), (4, .int (nI d)), (5, .int (nI w))]) hx hb d_M_push_9 hl (by decide) rfl (fun ls hl => ?_)
  refine lv_aload_n hx hb d_M_push_11 rfl (lv_at hl 1 rfl) ?_
  refine mm_get hx hb hts hown hK hP (index := 7) 0 (by decide) mf_M_7 (v := .ref (am 1)) rfl d_M_push_12 ?_
  refine lv_iload hx hb d_M_push_15 (lv_at hl 0 rfl) ?_
  refine lv_iload_n hx hb d_M_push_17 rfl (lv_at hl 2 rfl) ?_
  refine mm_ast hx hb hK hP hD hS 0 (by decide) rfl (ar 6 (ar 0 0)) rfl (show ar 6 (ar 0 0) < 90 from by omega) (k) (rfl) d_M_push_18 (fun H locs hP hS => ?_)
  refine lv_aload_n hx hb d_M_push_19 rfl (lv_at hl 1 rfl) ?_
  refine mm_get hx hb hts hown hK hP (index := 13) 1 (by decide) mf_M_13 (v := .ref (am 2)) rfl d_M_push_20 ?_
  refine lv_iload hx hb d_M_push_23 (lv_at hl 0 rfl) ?_
  refine lv_iload_n hx hb d_M_push_25 rfl (lv_at hl 3 rfl) ?_
  refine mm_ast hx hb hK hP hD hS 1 (by decide) rfl (ar 6 (ar 0 0)) rfl (show ar 6 (ar 0 0) < 90 from by omega) (b) (rfl) d_M_push_26 (fun H locs hP hS => ?_)
  refine lv_aload_n hx hb d_M_push_27 rfl (lv_at hl 1 rfl) ?_
  refine mm_get hx hb hts hown hK hP (index := 16) 2 (by decide) mf_M_16 (v := .ref (am 3)) rfl d_M_push_28 ?_
  refine lv_iload hx hb d_M_push_31 (lv_at hl 0 rfl) ?_
  refine lv_iload_n hx hb d_M_push_33 rfl (lv_at hl 4 rfl) ?_
  refine mm_ast hx hb hK hP hD hS 2 (by decide) rfl (ar 6 (ar 0 0)) rfl (show ar 6 (ar 0 0) < 90 from by omega) (y) (rfl) d_M_push_34 (fun H locs hP hS => ?_)
  refine lv_aload_n hx hb d_M_push_35 rfl (lv_at hl 1 rfl) ?_
  refine mm_get hx hb hts hown hK hP (index := 19) 3 (by decide) mf_M_19 (v := .ref (am 4)) rfl d_M_push_36 ?_
  refine lv_iload hx hb d_M_push_39 (lv_at hl 0 rfl) ?_
  refine lv_iload hx hb d_M_push_41 (lv_at hl 5 rfl) ?_
  refine mm_ast hx hb hK hP hD hS 3 (by decide) rfl (ar 6 (ar 0 0)) rfl (show ar 6 (ar 0 0) < 90 from by omega) (d) (rfl) d_M_push_43 (fun H locs hP hS => ?_)
  refine lv_aload_n hx hb d_M_push_44 rfl (lv_at hl 1 rfl) ?_
  refine mm_get hx hb hts hown hK hP (index := 22) 4 (by decide) mf_M_22 (v := .ref (am 5)) rfl d_M_push_45 ?_
  refine lv_iload hx hb d_M_push_48 (lv_at hl 0 rfl) ?_
  refine lv_iload hx hb d_M_push_50 (lv_at hl 6 rfl) ?_
  refine mm_ast hx hb hK hP hD hS 4 (by decide) rfl (ar 6 (ar 0 0)) rfl (show ar 6 (ar 0 0) < 90 from by omega) (w) (rfl) d_M_push_52 (fun H locs hP hS => ?_)
  refine lv_aload_n hx hb d_M_push_53 rfl (lv_at hl 1 rfl) ?_
  refine lv_dup hx hb d_M_push_54 rfl ?_
  refine mm_get hx hb hts hown hK hP (index := 112) 27 (by decide) mf_M_112 (v := .int (nI (ar 0 0))) rfl d_M_push_55 ?_
  refine lv_iconst (v := 1) hx hb d_M_push_58 rfl ?_
  refine lv_iadd hx hb d_M_push_59 ?_
  refine zz_as (y := nI ((ar 0 0) + 1)) (nI_add (ar 0 0) 1) ?_
  refine mm_put hx hb hts hown hK hP hD hS (index := 112) 0 (by decide) mf_M_112 ((ar 0 0) + 1) (rfl) rfl rfl d_M_push_60 (fun H locs hP hS => ?_)
  refine lv_aload_n hx hb d_M_push_63 rfl (lv_at hl 1 rfl) ?_
  refine mm_get hx hb hts hown hK hP (index := 25) 5 (by decide) mf_M_25 (v := .ref (am 6)) rfl d_M_push_64 ?_
  refine lv_aload_n hx hb d_M_push_67 rfl (lv_at hl 1 rfl) ?_
  refine mm_get hx hb hts hown hK hP (index := 112) 27 (by decide) mf_M_112 (v := .int (nI ((ar 0 0) + 1))) rfl d_M_push_68 ?_
  refine lv_iload hx hb d_M_push_71 (lv_at hl 0 rfl) ?_
  refine lv_iconst (v := 1) hx hb d_M_push_73 rfl ?_
  refine lv_iadd hx hb d_M_push_74 ?_
  refine zz_as (y := nI ((ar 6 (ar 0 0)) + 1)) (nI_add (ar 6 (ar 0 0)) 1) ?_
  refine mm_ast hx hb hK hP hD hS 5 (by decide) rfl ((ar 0 0) + 1) rfl (show (ar 0 0) + 1 < 7 from by omega) ((ar 6 (ar 0 0)) + 1) (rfl) d_M_push_75 (fun H locs hP hS => ?_)
  exact W.vret hx hb hr (fun t ht hW => ⟨⟨zs (zs (zs (zs (zs (zs (zs ar 1 (ar 6 (ar 0 0)) k) 2 (ar 6 (ar 0 0)) b) 3 (ar 6 (ar 0 0)) y) 4 (ar 6 (ar 0 0)) d) 5 (ar 6 (ar 0 0)) w) 0 0 ((ar 0 0) + 1)) 6 ((ar 0 0) + 1) ((ar 6 (ar 0 0)) + 1), rfl, rfl, va_K.moved hW.alike hK, by rw [ht]; exact hP⟩, hS.F ht⟩) hS.2.2 d_M_push_76

theorem d_M_leaf_0 : decode c_M_leaf 0 = .ok (.iload_n 1, 1) := by decide +kernel
theorem d_M_leaf_1 : decode c_M_leaf 1 = .ok (.invokestatic 115, 3) := by decide +kernel
theorem d_M_leaf_4 : decode c_M_leaf 4 = .ok (.ifCond .eq 19, 3) := by decide +kernel
theorem d_M_leaf_7 : decode c_M_leaf 7 = .ok (.iload_n 2, 1) := by decide +kernel
theorem d_M_leaf_8 : decode c_M_leaf 8 = .ok (.invokestatic 100, 3) := by decide +kernel
theorem d_M_leaf_11 : decode c_M_leaf 11 = .ok (.ifCond .eq 12, 3) := by decide +kernel
theorem d_M_leaf_14 : decode c_M_leaf 14 = .ok (.aload_n 0, 1) := by decide +kernel
theorem d_M_leaf_15 : decode c_M_leaf 15 = .ok (.getfield 112, 3) := by decide +kernel
theorem d_M_leaf_18 : decode c_M_leaf 18 = .ok (.bipush 6, 2) := by decide +kernel
theorem d_M_leaf_20 : decode c_M_leaf 20 = .ok (.if_icmp .ne 5, 3) := by decide +kernel
theorem d_M_leaf_23 : decode c_M_leaf 23 = .ok (.iconst 0, 1) := by decide +kernel
theorem d_M_leaf_24 : decode c_M_leaf 24 = .ok (.ireturn, 1) := by decide +kernel
theorem d_M_leaf_25 : decode c_M_leaf 25 = .ok (.aload_n 0, 1) := by decide +kernel
theorem d_M_leaf_26 : decode c_M_leaf 26 = .ok (.iconst 0, 1) := by decide +kernel
theorem d_M_leaf_27 : decode c_M_leaf 27 = .ok (.iload_n 1, 1) := by decide +kernel
theorem d_M_leaf_28 : decode c_M_leaf 28 = .ok (.iload_n 2, 1) := by decide +kernel
theorem d_M_leaf_29 : decode c_M_leaf 29 = .ok (.iconst 0, 1) := by decide +kernel
theorem d_M_leaf_30 : decode c_M_leaf 30 = .ok (.iconst 0, 1) := by decide +kernel
theorem d_M_leaf_31 : decode c_M_leaf 31 = .ok (.invokevirtual 118, 3) := by decide +kernel
theorem d_M_leaf_34 : decode c_M_leaf 34 = .ok (.iconst 1, 1) := by decide +kernel
theorem d_M_leaf_35 : decode c_M_leaf 35 = .ok (.ireturn, 1) := by decide +kernel

set_option maxHeartbeats 4000000 in
set_option maxRecDepth 100000 in
/-- k_leafM -/
theorem k_leafM (l : Launch) (D : va_G) (ca : Nat → ClassId) (am : Nat → Nat) (ar : Nat → Nat → Nat) (hI : mI am) (b y : Nat) (hb0 : b < 2 ^ 32) (hy0 : y < 2 ^ 32) (ht : ar 0 0 ≤ 6) (hat : ar 6 (ar 0 0) < 90) : Met l y_M_leaf (Cond.code y_M_leaf c_M_leaf 3 (some .boolean) :: zT) ({ frames := 5, cells := 0, slots := 0, locals := 200 }) (va_Pc [.ref (am 0), .int (nI b), .int (nI y)] (mw D ca am ar)) (va_Qi (fun r ar1 => r = zb (bs b && (el y && !decide (ar 0 0 = 6))) ∧ ar1 = if bs b && (el y && !decide (ar 0 0 = 6)) then mpush ar 0 b y 0 0 else ar) (mw D ca am) (mA am)) 0 0 (mA am) := by
  refine Met.ofW (cc := c_M_leaf) (maxL := 3) (ret := (some .boolean)) (by decide) rfl ?_
  intro p e s m args below meth c s₁ B hml hv
  obtain ⟨rfl, hK, hP⟩ := hv
  have hx := B.exec
  have hb := B.bytes
  have hr := B.returns
  have hts0 := atoms_spec (ws := Cond.code y_M_leaf c_M_leaf 3 (some .boolean) :: zT) B.pre
  have hts := fun w h => hts0 w (List.mem_cons_of_mem _ h)
  have hown : s.vm.findClass R_M = some m.cls := findClass_of_methodNamed B.named
  have hlocks := B.notSynchronized
  have hD := mI_D hI
  have hS : va_S (mA am) s.heap s.heap [] := va_S.rf
  have hAA : ∀ q, mA am q → mA am q := fun _ h => h
  have hl := lv_entry ([.ref (am 0), .int (nI b), .int (nI y)]) (n := 3) (Nat.le_of_ble_eq_true rfl)
  rw [lg_entry_eq]
  generalize (lg_sl ([.ref (am 0), .int (nI b), .int (nI y)]) ++ List.replicate (3 - (lg_sl ([.ref (am 0), .int (nI b), .int (nI y)])).length) Slot.unset).toArray = ls at hl ⊢
  have hl : lv_has ls 3 [(0, .ref (am 0)), (1, .int (nI b)), (2, .int (nI y))] := hl
  skip
  refine lv_iload_n hx hb d_M_leaf_0 rfl (lv_at hl 1 rfl) ?_
  refine zz_cS (index := 115) (n := 1) (As := [.int (nI b)]) (rest := []) ⟨hx, hb, hml, hown, hts⟩ (k_isBase l b hb0) mk_M_115 ms_M_isBase mi_M mc_M_isBase (by decide +kernel) ⟨rfl, rfl⟩ ⟨by decide, by decide⟩ preEq rfl hl.1 rfl (Nat.le_of_ble_eq_true rfl) d_M_leaf_1 ⟨Nat.zero_le _, Nat.zero_le _⟩ ?_
  refine lv_if_eq (tgt := 23) hx hb d_M_leaf_4 rfl (fun h4 => ?_) (fun h4 => ?_)
  · skip
    have hq : (bs b && (el y && !decide (ar 0 0 = 6))) = false := by simp [zb_eq h4]
    refine lv_iconst (v := 0) hx hb d_M_leaf_23 rfl ?_
    exact W.zret hx hb hr (rfl) (fun t ht hW => ⟨⟨_, ar, rfl, ⟨by rw [hq]; rfl, by rw [hq]; rfl⟩, va_K.moved hW.alike hK, by rw [ht]; exact hP⟩, hS.F ht⟩) hS.2.2 d_M_leaf_24
  · skip
    refine lv_iload_n hx hb d_M_leaf_7 rfl (lv_at hl 2 rfl) ?_
    refine zz_cS (index := 100) (n := 1) (As := [.int (nI y)]) (rest := []) ⟨hx, hb, hml, hown, hts⟩ (k_isElM l y hy0) mk_M_100 ms_M_isElement mi_M mc_M_isElement (by decide +kernel) ⟨rfl, rfl⟩ ⟨by decide, by decide⟩ preEq rfl hl.1 rfl (Nat.le_of_ble_eq_true rfl) d_M_leaf_8 ⟨Nat.zero_le _, Nat.zero_le _⟩ ?_
    refine lv_if_eq (tgt := 23) hx hb d_M_leaf_11 rfl (fun h11 => ?_) (fun h11 => ?_)
    · skip
      have hq : (bs b && (el y && !decide (ar 0 0 = 6))) = false := by simp [zb_eq h11]
      refine lv_iconst (v := 0) hx hb d_M_leaf_23 rfl ?_
      exact W.zret hx hb hr (rfl) (fun t ht hW => ⟨⟨_, ar, rfl, ⟨by rw [hq]; rfl, by rw [hq]; rfl⟩, va_K.moved hW.alike hK, by rw [ht]; exact hP⟩, hS.F ht⟩) hS.2.2 d_M_leaf_24
    · skip
      refine lv_aload_n hx hb d_M_leaf_14 rfl (lv_at hl 0 rfl) ?_
      refine mm_get hx hb hts hown hK hP (index := 112) 27 (by decide) mf_M_112 (v := .int (nI (ar 0 0))) rfl d_M_leaf_15 ?_
      refine lv_bipush (v := 6) hx hb d_M_leaf_18 rfl ?_
      refine lv_icmp_ne (tgt := 25) hx hb d_M_leaf_20 rfl (fun h20 => ?_) (fun h20 => ?_)
      · skip
        have ht6 : ¬ ar 0 0 = 6 := fun q => h20 (by rw [q]; rfl)
        have hq : (bs b && (el y && !decide (ar 0 0 = 6))) = true := by simp [ht6, zb_ne h4, zb_ne h11]
        refine lv_aload_n hx hb d_M_leaf_25 rfl (lv_at hl 0 rfl) ?_
        refine lv_iconst (v := 0) hx hb d_M_leaf_26 rfl ?_
        refine lv_iload_n hx hb d_M_leaf_27 rfl (lv_at hl 1 rfl) ?_
        refine lv_iload_n hx hb d_M_leaf_28 rfl (lv_at hl 2 rfl) ?_
        refine lv_iconst (v := 0) hx hb d_M_leaf_29 rfl ?_
        refine lv_iconst (v := 0) hx hb d_M_leaf_30 rfl ?_
        refine mm_cv (index := 118) (n := 5) (As := [.int 0, .int (nI b), .int (nI y), .int 0, .int 0]) (rest := []) ⟨hx, hb, hml, hown, hts⟩ (k_pushM l D ca am (ar) hI 0 b y 0 0 (by omega) hat) mk_M_118 mo_M_push me_M_M_push_M mi_M mc_M_push (by decide +kernel) ⟨rfl, rfl⟩ ⟨by decide, by decide⟩ hK hP hS hAA rfl hl.1 rfl (Nat.le_of_ble_eq_true rfl) d_M_leaf_31 ⟨Nat.zero_le _, Nat.zero_le _⟩ (fun ar1 H locs hpost hP hS => ?_)
        subst hpost
        refine lv_iconst (v := 1) hx hb d_M_leaf_34 rfl ?_
        exact W.zret hx hb hr (rfl) (fun t ht hW => ⟨⟨_, mpush ar 0 b y 0 0, rfl, ⟨by rw [hq]; rfl, by rw [hq]; rfl⟩, va_K.moved hW.alike hK, by rw [ht]; exact hP⟩, hS.F ht⟩) hS.2.2 d_M_leaf_35
      · skip
        have hq : (bs b && (el y && !decide (ar 0 0 = 6))) = false := by simp [(zn_inj (by omega) (by decide)).mp h20]
        refine lv_iconst (v := 0) hx hb d_M_leaf_23 rfl ?_
        exact W.zret hx hb hr (rfl) (fun t ht hW => ⟨⟨_, ar, rfl, ⟨by rw [hq]; rfl, by rw [hq]; rfl⟩, va_K.moved hW.alike hK, by rw [ht]; exact hP⟩, hS.F ht⟩) hS.2.2 d_M_leaf_24

theorem d_M_equal_0 : decode c_M_equal 0 = .ok (.iload_n 1, 1) := by decide +kernel
theorem d_M_equal_1 : decode c_M_equal 1 = .ok (.invokestatic 115, 3) := by decide +kernel
theorem d_M_equal_4 : decode c_M_equal 4 = .ok (.ifCond .eq 34, 3) := by decide +kernel
theorem d_M_equal_7 : decode c_M_equal 7 = .ok (.iload_n 2, 1) := by decide +kernel
theorem d_M_equal_8 : decode c_M_equal 8 = .ok (.invokestatic 100, 3) := by decide +kernel
theorem d_M_equal_11 : decode c_M_equal 11 = .ok (.ifCond .eq 27, 3) := by decide +kernel
theorem d_M_equal_14 : decode c_M_equal 14 = .ok (.iload_n 3, 1) := by decide +kernel
theorem d_M_equal_15 : decode c_M_equal 15 = .ok (.invokestatic 115, 3) := by decide +kernel
theorem d_M_equal_18 : decode c_M_equal 18 = .ok (.ifCond .eq 20, 3) := by decide +kernel
theorem d_M_equal_21 : decode c_M_equal 21 = .ok (.iload 4, 2) := by decide +kernel
theorem d_M_equal_23 : decode c_M_equal 23 = .ok (.invokestatic 100, 3) := by decide +kernel
theorem d_M_equal_26 : decode c_M_equal 26 = .ok (.ifCond .eq 12, 3) := by decide +kernel
theorem d_M_equal_29 : decode c_M_equal 29 = .ok (.aload_n 0, 1) := by decide +kernel
theorem d_M_equal_30 : decode c_M_equal 30 = .ok (.getfield 112, 3) := by decide +kernel
theorem d_M_equal_33 : decode c_M_equal 33 = .ok (.bipush 6, 2) := by decide +kernel
theorem d_M_equal_35 : decode c_M_equal 35 = .ok (.if_icmp .ne 5, 3) := by decide +kernel
theorem d_M_equal_38 : decode c_M_equal 38 = .ok (.iconst 0, 1) := by decide +kernel
theorem d_M_equal_39 : decode c_M_equal 39 = .ok (.ireturn, 1) := by decide +kernel
theorem d_M_equal_40 : decode c_M_equal 40 = .ok (.aload_n 0, 1) := by decide +kernel
theorem d_M_equal_41 : decode c_M_equal 41 = .ok (.iconst 0, 1) := by decide +kernel
theorem d_M_equal_42 : decode c_M_equal 42 = .ok (.iload_n 1, 1) := by decide +kernel
theorem d_M_equal_43 : decode c_M_equal 43 = .ok (.iload_n 2, 1) := by decide +kernel
theorem d_M_equal_44 : decode c_M_equal 44 = .ok (.iload_n 3, 1) := by decide +kernel
theorem d_M_equal_45 : decode c_M_equal 45 = .ok (.iload 4, 2) := by decide +kernel
theorem d_M_equal_47 : decode c_M_equal 47 = .ok (.invokevirtual 118, 3) := by decide +kernel
theorem d_M_equal_50 : decode c_M_equal 50 = .ok (.iconst 1, 1) := by decide +kernel
theorem d_M_equal_51 : decode c_M_equal 51 = .ok (.ireturn, 1) := by decide +kernel

set_option maxHeartbeats 4000000 in
set_option maxRecDepth 100000 in
/-- k_equalM -/
theorem k_equalM (l : Launch) (D : va_G) (ca : Nat → ClassId) (am : Nat → Nat) (ar : Nat → Nat → Nat) (hI : mI am) (b y d w : Nat) (hb0 : b < 2 ^ 32) (hy0 : y < 2 ^ 32) (hd0 : d < 2 ^ 32) (hw0 : w < 2 ^ 32) (ht : ar 0 0 ≤ 6) (hat : ar 6 (ar 0 0) < 90) : Met l y_M_equal (Cond.code y_M_equal c_M_equal 5 (some .boolean) :: zT) ({ frames := 5, cells := 0, slots := 0, locals := 200 }) (va_Pc [.ref (am 0), .int (nI b), .int (nI y), .int (nI d), .int (nI w)] (mw D ca am ar)) (va_Qi (fun r ar1 => r = zb (bs b && (el y && (bs d && (el w && !decide (ar 0 0 = 6))))) ∧ ar1 = if bs b && (el y && (bs d && (el w && !decide (ar 0 0 = 6)))) then mpush ar 0 b y d w else ar) (mw D ca am) (mA am)) 0 0 (mA am) := by
  refine Met.ofW (cc := c_M_equal) (maxL := 5) (ret := (some .boolean)) (by decide) rfl ?_
  intro p e s m args below meth c s₁ B hml hv
  obtain ⟨rfl, hK, hP⟩ := hv
  have hx := B.exec
  have hb := B.bytes
  have hr := B.returns
  have hts0 := atoms_spec (ws := Cond.code y_M_equal c_M_equal 5 (some .boolean) :: zT) B.pre
  have hts := fun w h => hts0 w (List.mem_cons_of_mem _ h)
  have hown : s.vm.findClass R_M = some m.cls := findClass_of_methodNamed B.named
  have hlocks := B.notSynchronized
  have hD := mI_D hI
  have hS : va_S (mA am) s.heap s.heap [] := va_S.rf
  have hAA : ∀ q, mA am q → mA am q := fun _ h => h
  have hl := lv_entry ([.ref (am 0), .int (nI b), .int (nI y), .int (nI d), .int (nI w)]) (n := 5) (Nat.le_of_ble_eq_true rfl)
  rw [lg_entry_eq]
  generalize (lg_sl ([.ref (am 0), .int (nI b), .int (nI y), .int (nI d), .int (nI w)]) ++ List.replicate (5 - (lg_sl ([.ref (am 0), .int (nI b), .int (nI y), .int (nI d), .int (nI w)])).length) Slot.unset).toArray = ls at hl ⊢
  have hl : lv_has ls 5 [(0, .ref (am 0)), (1, .int (nI b)), (2, .int (nI y)), (3, .int (nI d)), (4, .int (nI w))] := hl
  skip
  refine lv_iload_n hx hb d_M_equal_0 rfl (lv_at hl 1 rfl) ?_
  refine zz_cS (index := 115) (n := 1) (As := [.int (nI b)]) (rest := []) ⟨hx, hb, hml, hown, hts⟩ (k_isBase l b hb0) mk_M_115 ms_M_isBase mi_M mc_M_isBase (by decide +kernel) ⟨rfl, rfl⟩ ⟨by decide, by decide⟩ preEq rfl hl.1 rfl (Nat.le_of_ble_eq_true rfl) d_M_equal_1 ⟨Nat.zero_le _, Nat.zero_le _⟩ ?_
  refine lv_if_eq (tgt := 38) hx hb d_M_equal_4 rfl (fun h4 => ?_) (fun h4 => ?_)
  · skip
    have hq : (bs b && (el y && (bs d && (el w && !decide (ar 0 0 = 6))))) = false := by simp [zb_eq h4]
    refine lv_iconst (v := 0) hx hb d_M_equal_38 rfl ?_
    exact W.zret hx hb hr (rfl) (fun t ht hW => ⟨⟨_, ar, rfl, ⟨by rw [hq]; rfl, by rw [hq]; rfl⟩, va_K.moved hW.alike hK, by rw [ht]; exact hP⟩, hS.F ht⟩) hS.2.2 d_M_equal_39
  · skip
    refine lv_iload_n hx hb d_M_equal_7 rfl (lv_at hl 2 rfl) ?_
    refine zz_cS (index := 100) (n := 1) (As := [.int (nI y)]) (rest := []) ⟨hx, hb, hml, hown, hts⟩ (k_isElM l y hy0) mk_M_100 ms_M_isElement mi_M mc_M_isElement (by decide +kernel) ⟨rfl, rfl⟩ ⟨by decide, by decide⟩ preEq rfl hl.1 rfl (Nat.le_of_ble_eq_true rfl) d_M_equal_8 ⟨Nat.zero_le _, Nat.zero_le _⟩ ?_
    refine lv_if_eq (tgt := 38) hx hb d_M_equal_11 rfl (fun h11 => ?_) (fun h11 => ?_)
    · skip
      have hq : (bs b && (el y && (bs d && (el w && !decide (ar 0 0 = 6))))) = false := by simp [zb_eq h11]
      refine lv_iconst (v := 0) hx hb d_M_equal_38 rfl ?_
      exact W.zret hx hb hr (rfl) (fun t ht hW => ⟨⟨_, ar, rfl, ⟨by rw [hq]; rfl, by rw [hq]; rfl⟩, va_K.moved hW.alike hK, by rw [ht]; exact hP⟩, hS.F ht⟩) hS.2.2 d_M_equal_39
    · skip
      refine lv_iload_n hx hb d_M_equal_14 rfl (lv_at hl 3 rfl) ?_
      refine zz_cS (index := 115) (n := 1) (As := [.int (nI d)]) (rest := []) ⟨hx, hb, hml, hown, hts⟩ (k_isBase l d hd0) mk_M_115 ms_M_isBase mi_M mc_M_isBase (by decide +kernel) ⟨rfl, rfl⟩ ⟨by decide, by decide⟩ preEq rfl hl.1 rfl (Nat.le_of_ble_eq_true rfl) d_M_equal_15 ⟨Nat.zero_le _, Nat.zero_le _⟩ ?_
      refine lv_if_eq (tgt := 38) hx hb d_M_equal_18 rfl (fun h18 => ?_) (fun h18 => ?_)
      · skip
        have hq : (bs b && (el y && (bs d && (el w && !decide (ar 0 0 = 6))))) = false := by simp [zb_eq h18]
        refine lv_iconst (v := 0) hx hb d_M_equal_38 rfl ?_
        exact W.zret hx hb hr (rfl) (fun t ht hW => ⟨⟨_, ar, rfl, ⟨by rw [hq]; rfl, by rw [hq]; rfl⟩, va_K.moved hW.alike hK, by rw [ht]; exact hP⟩, hS.F ht⟩) hS.2.2 d_M_equal_39
      · skip
        refine lv_iload hx hb d_M_equal_21 (lv_at hl 4 rfl) ?_
        refine zz_cS (index := 100) (n := 1) (As := [.int (nI w)]) (rest := []) ⟨hx, hb, hml, hown, hts⟩ (k_isElM l w hw0) mk_M_100 ms_M_isElement mi_M mc_M_isElement (by decide +kernel) ⟨rfl, rfl⟩ ⟨by decide, by decide⟩ preEq rfl hl.1 rfl (Nat.le_of_ble_eq_true rfl) d_M_equal_23 ⟨Nat.zero_le _, Nat.zero_le _⟩ ?_
        refine lv_if_eq (tgt := 38) hx hb d_M_equal_26 rfl (fun h26 => ?_) (fun h26 => ?_)
        · skip
          have hq : (bs b && (el y && (bs d && (el w && !decide (ar 0 0 = 6))))) = false := by simp [zb_eq h26]
          refine lv_iconst (v := 0) hx hb d_M_equal_38 rfl ?_
          exact W.zret hx hb hr (rfl) (fun t ht hW => ⟨⟨_, ar, rfl, ⟨by rw [hq]; rfl, by rw [hq]; rfl⟩, va_K.moved hW.alike hK, by rw [ht]; exact hP⟩, hS.F ht⟩) hS.2.2 d_M_equal_39
        · skip
          refine lv_aload_n hx hb d_M_equal_29 rfl (lv_at hl 0 rfl) ?_
          refine mm_get hx hb hts hown hK hP (index := 112) 27 (by decide) mf_M_112 (v := .int (nI (ar 0 0))) rfl d_M_equal_30 ?_
          refine lv_bipush (v := 6) hx hb d_M_equal_33 rfl ?_
          refine lv_icmp_ne (tgt := 40) hx hb d_M_equal_35 rfl (fun h35 => ?_) (fun h35 => ?_)
          · skip
            have ht6 : ¬ ar 0 0 = 6 := fun q => h35 (by rw [q]; rfl)
            have hq : (bs b && (el y && (bs d && (el w && !decide (ar 0 0 = 6))))) = true := by simp [ht6, zb_ne h4, zb_ne h11, zb_ne h18, zb_ne h26]
            refine lv_aload_n hx hb d_M_equal_40 rfl (lv_at hl 0 rfl) ?_
            refine lv_iconst (v := 0) hx hb d_M_equal_41 rfl ?_
            refine lv_iload_n hx hb d_M_equal_42 rfl (lv_at hl 1 rfl) ?_
            refine lv_iload_n hx hb d_M_equal_43 rfl (lv_at hl 2 rfl) ?_
            refine lv_iload_n hx hb d_M_equal_44 rfl (lv_at hl 3 rfl) ?_
            refine lv_iload hx hb d_M_equal_45 (lv_at hl 4 rfl) ?_
            refine mm_cv (index := 118) (n := 5) (As := [.int 0, .int (nI b), .int (nI y), .int (nI d), .int (nI w)]) (rest := []) ⟨hx, hb, hml, hown, hts⟩ (k_pushM l D ca am (ar) hI 0 b y d w (by omega) hat) mk_M_118 mo_M_push me_M_M_push_M mi_M mc_M_push (by decide +kernel) ⟨rfl, rfl⟩ ⟨by decide, by decide⟩ hK hP hS hAA rfl hl.1 rfl (Nat.le_of_ble_eq_true rfl) d_M_equal_47 ⟨Nat.zero_le _, Nat.zero_le _⟩ (fun ar1 H locs hpost hP hS => ?_)
            subst hpost
            refine lv_iconst (v := 1) hx hb d_M_equal_50 rfl ?_
            exact W.zret hx hb hr (rfl) (fun t ht hW => ⟨⟨_, mpush ar 0 b y d w, rfl, ⟨by rw [hq]; rfl, by rw [hq]; rfl⟩, va_K.moved hW.alike hK, by rw [ht]; exact hP⟩, hS.F ht⟩) hS.2.2 d_M_equal_51
          · skip
            have hq : (bs b && (el y && (bs d && (el w && !decide (ar 0 0 = 6))))) = false := by simp [(zn_inj (by omega) (by decide)).mp h35]
            refine lv_iconst (v := 0) hx hb d_M_equal_38 rfl ?_
            exact W.zret hx hb hr (rfl) (fun t ht hW => ⟨⟨_, ar, rfl, ⟨by rw [hq]; rfl, by rw [hq]; rfl⟩, va_K.moved hW.alike hK, by rw [ht]; exact hP⟩, hS.F ht⟩) hS.2.2 d_M_equal_39

theorem d_M_discard_0 : decode c_M_discard 0 = .ok (.aload_n 0, 1) := by decide +kernel
theorem d_M_discard_1 : decode c_M_discard 1 = .ok (.getfield 112, 3) := by decide +kernel
theorem d_M_discard_4 : decode c_M_discard 4 = .ok (.ifCond .ne 5, 3) := by decide +kernel
theorem d_M_discard_7 : decode c_M_discard 7 = .ok (.iconst 0, 1) := by decide +kernel
theorem d_M_discard_8 : decode c_M_discard 8 = .ok (.ireturn, 1) := by decide +kernel
theorem d_M_discard_9 : decode c_M_discard 9 = .ok (.aload_n 0, 1) := by decide +kernel
theorem d_M_discard_10 : decode c_M_discard 10 = .ok (.dup, 1) := by decide +kernel
theorem d_M_discard_11 : decode c_M_discard 11 = .ok (.getfield 112, 3) := by decide +kernel
theorem d_M_discard_14 : decode c_M_discard 14 = .ok (.iconst 1, 1) := by decide +kernel
theorem d_M_discard_15 : decode c_M_discard 15 = .ok (.isub, 1) := by decide +kernel
theorem d_M_discard_16 : decode c_M_discard 16 = .ok (.putfield 112, 3) := by decide +kernel
theorem d_M_discard_19 : decode c_M_discard 19 = .ok (.iconst 1, 1) := by decide +kernel
theorem d_M_discard_20 : decode c_M_discard 20 = .ok (.ireturn, 1) := by decide +kernel

set_option maxHeartbeats 4000000 in
set_option maxRecDepth 100000 in
/-- discard() -/
theorem k_discardM (l : Launch) (D : va_G) (ca : Nat → ClassId) (am : Nat → Nat) (ar : Nat → Nat → Nat) (hI : mI am) (ht : ar 0 0 ≤ 6) : Met l y_M_discard (Cond.code y_M_discard c_M_discard 1 (some .boolean) :: zT) ({ frames := 1, cells := 0, slots := 0, locals := 40 }) (va_Pc [.ref (am 0)] (mw D ca am ar)) (va_Qi (fun r ar1 => r = zb (decide (0 < ar 0 0)) ∧ ar1 = if decide (0 < ar 0 0) then zs ar 0 0 (ar 0 0 - 1) else ar) (mw D ca am) (mA am)) 0 0 (mA am) := by
  refine Met.ofW (cc := c_M_discard) (maxL := 1) (ret := (some .boolean)) (by decide) rfl ?_
  intro p e s m args below meth c s₁ B hml hv
  obtain ⟨rfl, hK, hP⟩ := hv
  have hx := B.exec
  have hb := B.bytes
  have hr := B.returns
  have hts0 := atoms_spec (ws := Cond.code y_M_discard c_M_discard 1 (some .boolean) :: zT) B.pre
  have hts := fun w h => hts0 w (List.mem_cons_of_mem _ h)
  have hown : s.vm.findClass R_M = some m.cls := findClass_of_methodNamed B.named
  have hlocks := B.notSynchronized
  have hD := mI_D hI
  have hS : va_S (mA am) s.heap s.heap [] := va_S.rf
  have hAA : ∀ q, mA am q → mA am q := fun _ h => h
  have hl := lv_entry ([.ref (am 0)]) (n := 1) (Nat.le_of_ble_eq_true rfl)
  rw [lg_entry_eq]
  generalize (lg_sl ([.ref (am 0)]) ++ List.replicate (1 - (lg_sl ([.ref (am 0)])).length) Slot.unset).toArray = ls at hl ⊢
  have hl : lv_has ls 1 [(0, .ref (am 0))] := hl
  skip
  refine lv_aload_n hx hb d_M_discard_0 rfl (lv_at hl 0 rfl) ?_
  refine mm_get hx hb hts hown hK hP (index := 112) 27 (by decide) mf_M_112 (v := .int (nI (ar 0 0))) rfl d_M_discard_1 ?_
  refine lv_if_ne (tgt := 9) hx hb d_M_discard_4 rfl (fun h4 => ?_) (fun h4 => ?_)
  · skip
    have ht0 : ¬ ar 0 0 = 0 := fun q => h4 (by rw [q]; rfl)
    have hq : (decide (0 < ar 0 0)) = true := decide_eq_true (by omega)
    refine lv_aload_n hx hb d_M_discard_9 rfl (lv_at hl 0 rfl) ?_
    refine lv_dup hx hb d_M_discard_10 rfl ?_
    refine mm_get hx hb hts hown hK hP (index := 112) 27 (by decide) mf_M_112 (v := .int (nI (ar 0 0))) rfl d_M_discard_11 ?_
    refine lv_iconst (v := 1) hx hb d_M_discard_14 rfl ?_
    refine lv_isub hx hb d_M_discard_15 ?_
    refine zz_as (y := nI ((ar 0 0) - 1)) (pk_sub (a := ar 0 0) (b := 1) (by omega)) ?_
    refine mm_put hx hb hts hown hK hP hD hS (index := 112) 0 (by decide) mf_M_112 ((ar 0 0) - 1) (rfl) rfl rfl d_M_discard_16 (fun H locs hP hS => ?_)
    refine lv_iconst (v := 1) hx hb d_M_discard_19 rfl ?_
    exact W.zret hx hb hr (rfl) (fun t ht hW => ⟨⟨_, zs ar 0 0 ((ar 0 0) - 1), rfl, ⟨by rw [hq]; rfl, by rw [hq]; rfl⟩, va_K.moved hW.alike hK, by rw [ht]; exact hP⟩, hS.F ht⟩) hS.2.2 d_M_discard_20
  · skip
    have ht0 : ar 0 0 = 0 := (zn_inj (by omega) (by decide)).mp h4
    have hq : (decide (0 < ar 0 0)) = false := decide_eq_false (by omega)
    refine lv_iconst (v := 0) hx hb d_M_discard_7 rfl ?_
    exact W.zret hx hb hr (rfl) (fun t ht hW => ⟨⟨_, ar, rfl, ⟨by rw [hq]; rfl, by rw [hq]; rfl⟩, va_K.moved hW.alike hK, by rw [ht]; exact hP⟩, hS.F ht⟩) hS.2.2 d_M_discard_8

theorem d_M_isLeaf_0 : decode c_M_isLeaf 0 = .ok (.iload_n 1, 1) := by decide +kernel
theorem d_M_isLeaf_1 : decode c_M_isLeaf 1 = .ok (.ifCond .lt 15, 3) := by decide +kernel
theorem d_M_isLeaf_4 : decode c_M_isLeaf 4 = .ok (.iload_n 1, 1) := by decide +kernel
theorem d_M_isLeaf_5 : decode c_M_isLeaf 5 = .ok (.aload_n 0, 1) := by decide +kernel
theorem d_M_isLeaf_6 : decode c_M_isLeaf 6 = .ok (.getfield 125, 3) := by decide +kernel
theorem d_M_isLeaf_9 : decode c_M_isLeaf 9 = .ok (.if_icmp .ge 7, 3) := by decide +kernel
theorem d_M_isLeaf_12 : decode c_M_isLeaf 12 = .ok (.iconst 1, 1) := by decide +kernel
theorem d_M_isLeaf_13 : decode c_M_isLeaf 13 = .ok (.goto 4, 3) := by decide +kernel
theorem d_M_isLeaf_16 : decode c_M_isLeaf 16 = .ok (.iconst 0, 1) := by decide +kernel
theorem d_M_isLeaf_17 : decode c_M_isLeaf 17 = .ok (.ireturn, 1) := by decide +kernel

set_option maxHeartbeats 4000000 in
set_option maxRecDepth 100000 in
/-- isLeaf(n) -/
theorem k_isLeafM (l : Launch) (D : va_G) (ca : Nat → ClassId) (am : Nat → Nat) (ar : Nat → Nat → Nat) (n : Nat) (hn : n < 2 ^ 32) (hl2 : ar 0 2 ≤ 8) : Met l y_M_isLeaf (Cond.code y_M_isLeaf c_M_isLeaf 2 (some .boolean) :: zT) ({ frames := 1, cells := 0, slots := 0, locals := 40 }) (va_Pc [.ref (am 0), .int (nI n)] (mw D ca am ar)) (QcRead (zb (decide (n < ar 0 2)))) 0 0 (fun _ => False) := by
  refine Met.ofW (cc := c_M_isLeaf) (maxL := 2) (ret := (some .boolean)) (by decide) rfl ?_
  intro p e s m args below meth c s₁ B hml hv
  obtain ⟨rfl, hK, hP⟩ := hv
  have hx := B.exec
  have hb := B.bytes
  have hr := B.returns
  have hts0 := atoms_spec (ws := Cond.code y_M_isLeaf c_M_isLeaf 2 (some .boolean) :: zT) B.pre
  have hts := fun w h => hts0 w (List.mem_cons_of_mem _ h)
  have hown : s.vm.findClass R_M = some m.cls := findClass_of_methodNamed B.named
  have hlocks := B.notSynchronized
  have hl := lv_entry ([.ref (am 0), .int (nI n)]) (n := 2) (Nat.le_of_ble_eq_true rfl)
  rw [lg_entry_eq]
  generalize (lg_sl ([.ref (am 0), .int (nI n)]) ++ List.replicate (2 - (lg_sl ([.ref (am 0), .int (nI n)])).length) Slot.unset).toArray = ls at hl ⊢
  have hl : lv_has ls 2 [(0, .ref (am 0)), (1, .int (nI n))] := hl
  refine lv_iload_n hx hb d_M_isLeaf_0 rfl (lv_at hl 1 rfl) ?_
  refine lv_if_lt (tgt := 16) hx hb d_M_isLeaf_1 rfl (fun h1 => ?_) (fun h1 => ?_)
  · skip
    have hq : (decide (n < ar 0 2)) = false := decide_eq_false (by have := (zn_lt0 hn).mp h1; omega)
    refine lv_iconst (v := 0) hx hb d_M_isLeaf_16 rfl ?_
    refine zz_as (y := zb (decide (n < ar 0 2))) (by rw [hq]; rfl) ?_
    exact W.zret hx hb hr (zb_nar _) (fun t ht hW => ⟨rfl, ht⟩) (fun q h => absurd h List.not_mem_nil) d_M_isLeaf_17
  · skip
    refine lv_iload_n hx hb d_M_isLeaf_4 rfl (lv_at hl 1 rfl) ?_
    refine lv_aload_n hx hb d_M_isLeaf_5 rfl (lv_at hl 0 rfl) ?_
    refine mm_get hx hb hts hown hK hP (index := 125) 29 (by decide) mf_M_125 (v := .int (nI (ar 0 2))) rfl d_M_isLeaf_6 ?_
    refine lv_icmp_ge (tgt := 16) hx hb d_M_isLeaf_9 rfl (fun h9 => ?_) (fun h9 => ?_)
    · skip
      have hq : (decide (n < ar 0 2)) = false := decide_eq_false (by have := (zn_le (b := ar 0 2) hn (by omega)).mp h9; omega)
      refine lv_iconst (v := 0) hx hb d_M_isLeaf_16 rfl ?_
      refine zz_as (y := zb (decide (n < ar 0 2))) (by rw [hq]; rfl) ?_
      exact W.zret hx hb hr (zb_nar _) (fun t ht hW => ⟨rfl, ht⟩) (fun q h => absurd h List.not_mem_nil) d_M_isLeaf_17
    · skip
      have hq : (decide (n < ar 0 2)) = true := decide_eq_true (by have a := mt (zn_lt0 hn).mpr h1; have b := mt (zn_le (b := ar 0 2) hn (by omega)).mpr h9; omega)
      refine lv_iconst (v := 1) hx hb d_M_isLeaf_12 rfl ?_
      refine lv_goto (tgt := 17) hx hb d_M_isLeaf_13 rfl ?_
      refine zz_as (y := zb (decide (n < ar 0 2))) (by rw [hq]; rfl) ?_
      exact W.zret hx hb hr (zb_nar _) (fun t ht hW => ⟨rfl, ht⟩) (fun q h => absurd h List.not_mem_nil) d_M_isLeaf_17

theorem d_M_isPair_0 : decode c_M_isPair 0 = .ok (.aload_n 0, 1) := by decide +kernel
theorem d_M_isPair_1 : decode c_M_isPair 1 = .ok (.iload_n 1, 1) := by decide +kernel
theorem d_M_isPair_2 : decode c_M_isPair 2 = .ok (.invokevirtual 135, 3) := by decide +kernel
theorem d_M_isPair_5 : decode c_M_isPair 5 = .ok (.ifCond .eq 20, 3) := by decide +kernel
theorem d_M_isPair_8 : decode c_M_isPair 8 = .ok (.aload_n 0, 1) := by decide +kernel
theorem d_M_isPair_9 : decode c_M_isPair 9 = .ok (.getfield 40, 3) := by decide +kernel
theorem d_M_isPair_12 : decode c_M_isPair 12 = .ok (.iconst 2, 1) := by decide +kernel
theorem d_M_isPair_13 : decode c_M_isPair 13 = .ok (.iload_n 1, 1) := by decide +kernel
theorem d_M_isPair_14 : decode c_M_isPair 14 = .ok (.imul, 1) := by decide +kernel
theorem d_M_isPair_15 : decode c_M_isPair 15 = .ok (.iload_n 2, 1) := by decide +kernel
theorem d_M_isPair_16 : decode c_M_isPair 16 = .ok (.iadd, 1) := by decide +kernel
theorem d_M_isPair_17 : decode c_M_isPair 17 = .ok (.iaload, 1) := by decide +kernel
theorem d_M_isPair_18 : decode c_M_isPair 18 = .ok (.ifCond .le 7, 3) := by decide +kernel
theorem d_M_isPair_21 : decode c_M_isPair 21 = .ok (.iconst 1, 1) := by decide +kernel
theorem d_M_isPair_22 : decode c_M_isPair 22 = .ok (.goto 4, 3) := by decide +kernel
theorem d_M_isPair_25 : decode c_M_isPair 25 = .ok (.iconst 0, 1) := by decide +kernel
theorem d_M_isPair_26 : decode c_M_isPair 26 = .ok (.ireturn, 1) := by decide +kernel

set_option maxHeartbeats 4000000 in
set_option maxRecDepth 100000 in
/-- isPair(n, q) -/
theorem k_isPairM (l : Launch) (D : va_G) (ca : Nat → ClassId) (am : Nat → Nat) (ar : Nat → Nat → Nat) (n q : Nat) (hn : n < 2 ^ 32) (hq2 : q < 2) (hl2 : ar 0 2 ≤ 8) (hbs : ∀ i, i < 16 → ar 11 i < 10007) : Met l y_M_isPair (Cond.code y_M_isPair c_M_isPair 3 (some .boolean) :: zT) ({ frames := 2, cells := 0, slots := 0, locals := 80 }) (va_Pc [.ref (am 0), .int (nI n), .int (nI q)] (mw D ca am ar)) (QcRead (zb (pairB ar n q))) 0 0 (fun _ => False) := by
  refine Met.ofW (cc := c_M_isPair) (maxL := 3) (ret := (some .boolean)) (by decide) rfl ?_
  intro p e s m args below meth c s₁ B hml hv
  obtain ⟨rfl, hK, hP⟩ := hv
  have hx := B.exec
  have hb := B.bytes
  have hr := B.returns
  have hts0 := atoms_spec (ws := Cond.code y_M_isPair c_M_isPair 3 (some .boolean) :: zT) B.pre
  have hts := fun w h => hts0 w (List.mem_cons_of_mem _ h)
  have hown : s.vm.findClass R_M = some m.cls := findClass_of_methodNamed B.named
  have hlocks := B.notSynchronized
  have hl := lv_entry ([.ref (am 0), .int (nI n), .int (nI q)]) (n := 3) (Nat.le_of_ble_eq_true rfl)
  rw [lg_entry_eq]
  generalize (lg_sl ([.ref (am 0), .int (nI n), .int (nI q)]) ++ List.replicate (3 - (lg_sl ([.ref (am 0), .int (nI n), .int (nI q)])).length) Slot.unset).toArray = ls at hl ⊢
  have hl : lv_has ls 3 [(0, .ref (am 0)), (1, .int (nI n)), (2, .int (nI q))] := hl
  refine lv_aload_n hx hb d_M_isPair_0 rfl (lv_at hl 0 rfl) ?_
  refine lv_iload_n hx hb d_M_isPair_1 rfl (lv_at hl 1 rfl) ?_
  refine zz_cV (index := 135) (n := 1) (As := [.int (nI n)]) (rest := []) ⟨hx, hb, hml, hown, hts⟩ (k_isLeafM l D ca am (ar) n hn hl2) mk_M_135 mo_M_isLeaf me_M_M_isLeaf_M mi_M mc_M_isLeaf (by decide +kernel) ⟨rfl, rfl⟩ ⟨by decide, by decide⟩ (mm_pre hK hP) rfl hl.1 rfl (Nat.le_of_ble_eq_true rfl) d_M_isPair_2 ⟨Nat.zero_le _, Nat.zero_le _⟩ ?_
  refine lv_if_eq (tgt := 25) hx hb d_M_isPair_5 rfl (fun h5 => ?_) (fun h5 => ?_)
  · skip
    have hq : pairB ar n q = false := by unfold pairB; rw [zb_eq h5, Bool.false_and]
    refine lv_iconst (v := 0) hx hb d_M_isPair_25 rfl ?_
    refine zz_as (y := zb (pairB ar n q)) (by rw [hq]; rfl) ?_
    exact W.zret hx hb hr (zb_nar _) (fun t ht hW => ⟨rfl, ht⟩) (fun q h => absurd h List.not_mem_nil) d_M_isPair_26
  · skip
    have hn2 : n < ar 0 2 := of_decide_eq_true (zb_ne h5)
    have hv := hbs (2 * n + q) (by omega)
    refine lv_aload_n hx hb d_M_isPair_8 rfl (lv_at hl 0 rfl) ?_
    refine mm_get hx hb hts hown hK hP (index := 40) 10 (by decide) mf_M_40 (v := .ref (am 11)) rfl d_M_isPair_9 ?_
    refine lv_iconst (v := 2) hx hb d_M_isPair_12 rfl ?_
    refine lv_iload_n hx hb d_M_isPair_13 rfl (lv_at hl 1 rfl) ?_
    refine lv_imul hx hb d_M_isPair_14 ?_
    refine zz_as (y := nI (2 * n)) (pk_mul 2 n) ?_
    refine lv_iload_n hx hb d_M_isPair_15 rfl (lv_at hl 2 rfl) ?_
    refine lv_iadd hx hb d_M_isPair_16 ?_
    refine zz_as (y := nI ((2 * n) + q)) (nI_add (2 * n) q) ?_
    refine mm_ald hx hb hK hP 10 (by decide) rfl ((2 * n) + q) rfl (show (2 * n) + q < 16 from by omega) (ar 11 ((2 * n) + q)) (rfl) d_M_isPair_17 ?_
    refine lv_if_le (tgt := 25) hx hb d_M_isPair_18 rfl (fun h18 => ?_) (fun h18 => ?_)
    · skip
      have hq : pairB ar n q = false := by
        unfold pairB
        rw [decide_eq_false (show ¬ 0 < ar 11 (2 * n + q) from fun z => nI_nle z (by omega) h18), Bool.and_false]
      refine lv_iconst (v := 0) hx hb d_M_isPair_25 rfl ?_
      refine zz_as (y := zb (pairB ar n q)) (by rw [hq]; rfl) ?_
      exact W.zret hx hb hr (zb_nar _) (fun t ht hW => ⟨rfl, ht⟩) (fun q h => absurd h List.not_mem_nil) d_M_isPair_26
    · skip
      have hq : pairB ar n q = true := by
        unfold pairB
        have z : ¬ ar 11 (2 * n + q) = 0 := fun z => h18 (by rw [z]; decide)
        rw [decide_eq_true hn2, decide_eq_true (show 0 < ar 11 (2 * n + q) by omega)]; rfl
      refine lv_iconst (v := 1) hx hb d_M_isPair_21 rfl ?_
      refine lv_goto (tgt := 26) hx hb d_M_isPair_22 rfl ?_
      refine zz_as (y := zb (pairB ar n q)) (by rw [hq]; rfl) ?_
      exact W.zret hx hb hr (zb_nar _) (fun t ht hW => ⟨rfl, ht⟩) (fun q h => absurd h List.not_mem_nil) d_M_isPair_26
