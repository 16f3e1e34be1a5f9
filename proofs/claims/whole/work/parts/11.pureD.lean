/-! the desk's static methods -/
theorem el_f1 {n : Nat} (hn : n < 2 ^ 32) (h : nI n < 1) : el n = false := by
  have h1 := (zn_lt (b := 1) hn (by decide)).mp h
  unfold el
  rcases h1 with h1 | h1
  · rw [decide_eq_false (by omega), Bool.false_and]
  · rw [decide_eq_false (show ¬ n < 10007 by omega), Bool.false_and, Bool.and_false]
theorem el_f2 {n : Nat} (hn : n < 2 ^ 32) (h : 10007 ≤ nI n) : el n = false := by
  have h1 := (zn_le (b := 10007) hn (by decide)).mp h
  unfold el
  rw [decide_eq_false (show ¬ n < 10007 by omega), Bool.false_and, Bool.and_false]
theorem el_in {n : Nat} (hn : n < 2 ^ 32) (h1 : ¬ nI n < 1) (h2 : ¬ 10007 ≤ nI n) : 1 ≤ n ∧ n < 10007 := by
  have a := mt (zn_lt (b := 1) hn (by decide)).mpr h1
  have b := mt (zn_le (b := 10007) hn (by decide)).mpr h2
  omega
theorem el_f3 {n : Nat} (h : ¬ nI (n ^ 5003 % 10007) = 1) : el n = false := by
  unfold el
  rw [decide_eq_false (show ¬ n ^ 5003 % 10007 = 1 from fun q => h (by rw [q]; rfl)), Bool.and_false, Bool.and_false]
theorem el_t {n : Nat} (hr : 1 ≤ n ∧ n < 10007) (h : nI (n ^ 5003 % 10007) = 1) : el n = true := by
  have h2 : n ^ 5003 % 10007 < 10007 := Nat.mod_lt _ (by decide)
  have h1 : n ^ 5003 % 10007 = 1 := (zn_inj (Nat.lt_trans h2 (by decide)) (by decide)).mp (h.trans (show (1 : Int32) = nI 1 from rfl))
  unfold el
  rw [decide_eq_true hr.1, decide_eq_true hr.2, decide_eq_true h1]; rfl
theorem el_is {n : Nat} (h : el n = true) : 1 ≤ n ∧ n < 10007 ∧ n ^ 5003 % 10007 = 1 := by
  unfold el at h
  simp only [Bool.and_eq_true, decide_eq_true_eq] at h
  exact h
theorem ex_f1 {n : Nat} (hn : n < 2 ^ 32) (h : nI n < 0) : ex n = false := by
  have := (zn_lt0 hn).mp h
  exact decide_eq_false (by omega)
theorem ex_f2 {n : Nat} (hn : n < 2 ^ 32) (h : 5003 ≤ nI n) : ex n = false := by
  have := (zn_le (b := 5003) hn (by decide)).mp h
  exact decide_eq_false (by omega)
theorem ex_t {n : Nat} (hn : n < 2 ^ 32) (h1 : ¬ nI n < 0) (h2 : ¬ 5003 ≤ nI n) : ex n = true := by
  have a := mt (zn_lt0 hn).mpr h1
  have b := mt (zn_le (b := 5003) hn (by decide)).mpr h2
  exact decide_eq_true (by omega)
theorem ex_is {n : Nat} (h : ex n = true) : n < 5003 := of_decide_eq_true h
def bs (n : Nat) : Bool := !decide (n = 1) && el n
theorem bs_is {n : Nat} (h : bs n = true) : n ≠ 1 ∧ el n = true := by
  unfold bs at h
  simp only [Bool.and_eq_true, Bool.not_eq_true', decide_eq_false_iff_not] at h
  exact h
theorem zb_ne {b : Bool} (h : ¬ zb b = 0) : b = true := by cases b <;> simp_all [zb]
theorem zb_eq {b : Bool} (h : zb b = 0) : b = false := by cases b <;> simp_all [zb]

theorem d_D_isElement_0 : decode c_D_isElement 0 = .ok (.iload_n 0, 1) := by decide +kernel
theorem d_D_isElement_1 : decode c_D_isElement 1 = .ok (.iconst 1, 1) := by decide +kernel
theorem d_D_isElement_2 : decode c_D_isElement 2 = .ok (.if_icmp .lt 28, 3) := by decide +kernel
theorem d_D_isElement_5 : decode c_D_isElement 5 = .ok (.iload_n 0, 1) := by decide +kernel
theorem d_D_isElement_6 : decode c_D_isElement 6 = .ok (.sipush 10007, 3) := by decide +kernel
theorem d_D_isElement_9 : decode c_D_isElement 9 = .ok (.if_icmp .ge 21, 3) := by decide +kernel
theorem d_D_isElement_12 : decode c_D_isElement 12 = .ok (.iload_n 0, 1) := by decide +kernel
theorem d_D_isElement_13 : decode c_D_isElement 13 = .ok (.sipush 5003, 3) := by decide +kernel
theorem d_D_isElement_16 : decode c_D_isElement 16 = .ok (.sipush 10007, 3) := by decide +kernel
theorem d_D_isElement_19 : decode c_D_isElement 19 = .ok (.invokestatic 63, 3) := by decide +kernel
theorem d_D_isElement_22 : decode c_D_isElement 22 = .ok (.iconst 1, 1) := by decide +kernel
theorem d_D_isElement_23 : decode c_D_isElement 23 = .ok (.if_icmp .ne 7, 3) := by decide +kernel
theorem d_D_isElement_26 : decode c_D_isElement 26 = .ok (.iconst 1, 1) := by decide +kernel
theorem d_D_isElement_27 : decode c_D_isElement 27 = .ok (.goto 4, 3) := by decide +kernel
theorem d_D_isElement_30 : decode c_D_isElement 30 = .ok (.iconst 0, 1) := by decide +kernel
theorem d_D_isElement_31 : decode c_D_isElement 31 = .ok (.ireturn, 1) := by decide +kernel

set_option maxHeartbeats 4000000 in
set_option maxRecDepth 100000 in
/-- is n an element -/
theorem k_isElD (l : Launch) (n : Nat) (hn : n < 2 ^ 32) : Met l y_D_isElement (Cond.code y_D_isElement c_D_isElement 1 (some .boolean) :: zT) ({ frames := 2, cells := 0, slots := 0, locals := 80 }) (fun v _ => v = ([.int (nI n)] : List Value).toArray) (QcRead (zb (el n))) 0 0 (fun _ => False) := by
  refine Met.ofW (cc := c_D_isElement) (maxL := 1) (ret := (some .boolean)) (by decide) rfl ?_
  intro p e s m args below meth c s₁ B hml hv
  subst hv
  have hx := B.exec
  have hb := B.bytes
  have hr := B.returns
  have hts0 := atoms_spec (ws := Cond.code y_D_isElement c_D_isElement 1 (some .boolean) :: zT) B.pre
  have hts := fun w h => hts0 w (List.mem_cons_of_mem _ h)
  have hown : s.vm.findClass R_D = some m.cls := findClass_of_methodNamed B.named
  have hlocks := B.notSynchronized
  have hl := lv_entry ([.int (nI n)]) (n := 1) (Nat.le_of_ble_eq_true rfl)
  rw [lg_entry_eq]
  generalize (lg_sl ([.int (nI n)]) ++ List.replicate (1 - (lg_sl ([.int (nI n)])).length) Slot.unset).toArray = ls at hl ⊢
  have hl : lv_has ls 1 [(0, .int (nI n))] := hl
  refine lv_iload_n hx hb d_D_isElement_0 rfl (lv_at hl 0 rfl) ?_
  refine lv_iconst (v := 1) hx hb d_D_isElement_1 rfl ?_
  refine lv_icmp_lt (tgt := 30) hx hb d_D_isElement_2 rfl (fun h2 => ?_) (fun h2 => ?_)
  · skip
    have hq := el_f1 hn h2
    refine lv_iconst (v := 0) hx hb d_D_isElement_30 rfl ?_
    refine zz_as (y := zb (el n)) (by rw [hq]; rfl) ?_
    exact W.zret hx hb hr (zb_nar _) (fun t ht hW => ⟨rfl, ht⟩) (fun q h => absurd h List.not_mem_nil) d_D_isElement_31
  · skip
    refine lv_iload_n hx hb d_D_isElement_5 rfl (lv_at hl 0 rfl) ?_
    refine lv_sipush (v := 10007) hx hb d_D_isElement_6 rfl ?_
    refine lv_icmp_ge (tgt := 30) hx hb d_D_isElement_9 rfl (fun h9 => ?_) (fun h9 => ?_)
    · skip
      have hq := el_f2 hn h9
      refine lv_iconst (v := 0) hx hb d_D_isElement_30 rfl ?_
      refine zz_as (y := zb (el n)) (by rw [hq]; rfl) ?_
      exact W.zret hx hb hr (zb_nar _) (fun t ht hW => ⟨rfl, ht⟩) (fun q h => absurd h List.not_mem_nil) d_D_isElement_31
    · skip
      have hr0 := el_in hn h2 h9
      refine lv_iload_n hx hb d_D_isElement_12 rfl (lv_at hl 0 rfl) ?_
      refine lv_sipush (v := 5003) hx hb d_D_isElement_13 rfl ?_
      refine lv_sipush (v := 10007) hx hb d_D_isElement_16 rfl ?_
      refine zz_cS (index := 63) (n := 3) (As := [.int (nI n), .int 5003, .int 10007]) (rest := []) ⟨hx, hb, hml, hown, hts⟩ (k_raise l n 5003 10007 hr0.2 (by decide) (by decide) (by decide)) mk_D_63 ms_D_raise mi_D mc_D_raise (by decide +kernel) ⟨rfl, rfl⟩ ⟨by decide, by decide⟩ preEq rfl hl.1 rfl (Nat.le_of_ble_eq_true rfl) d_D_isElement_19 ⟨Nat.zero_le _, Nat.zero_le _⟩ ?_
      refine lv_iconst (v := 1) hx hb d_D_isElement_22 rfl ?_
      refine lv_icmp_ne (tgt := 30) hx hb d_D_isElement_23 rfl (fun h23 => ?_) (fun h23 => ?_)
      · skip
        have hq := el_f3 h23
        refine lv_iconst (v := 0) hx hb d_D_isElement_30 rfl ?_
        refine zz_as (y := zb (el n)) (by rw [hq]; rfl) ?_
        exact W.zret hx hb hr (zb_nar _) (fun t ht hW => ⟨rfl, ht⟩) (fun q h => absurd h List.not_mem_nil) d_D_isElement_31
      · skip
        have hq := el_t hr0 h23
        refine lv_iconst (v := 1) hx hb d_D_isElement_26 rfl ?_
        refine lv_goto (tgt := 31) hx hb d_D_isElement_27 rfl ?_
        refine zz_as (y := zb (el n)) (by rw [hq]; rfl) ?_
        exact W.zret hx hb hr (zb_nar _) (fun t ht hW => ⟨rfl, ht⟩) (fun q h => absurd h List.not_mem_nil) d_D_isElement_31

theorem d_D_isExponent_0 : decode c_D_isExponent 0 = .ok (.iload_n 0, 1) := by decide +kernel
theorem d_D_isExponent_1 : decode c_D_isExponent 1 = .ok (.ifCond .lt 14, 3) := by decide +kernel
theorem d_D_isExponent_4 : decode c_D_isExponent 4 = .ok (.iload_n 0, 1) := by decide +kernel
theorem d_D_isExponent_5 : decode c_D_isExponent 5 = .ok (.sipush 5003, 3) := by decide +kernel
theorem d_D_isExponent_8 : decode c_D_isExponent 8 = .ok (.if_icmp .ge 7, 3) := by decide +kernel
theorem d_D_isExponent_11 : decode c_D_isExponent 11 = .ok (.iconst 1, 1) := by decide +kernel
theorem d_D_isExponent_12 : decode c_D_isExponent 12 = .ok (.goto 4, 3) := by decide +kernel
theorem d_D_isExponent_15 : decode c_D_isExponent 15 = .ok (.iconst 0, 1) := by decide +kernel
theorem d_D_isExponent_16 : decode c_D_isExponent 16 = .ok (.ireturn, 1) := by decide +kernel

set_option maxHeartbeats 4000000 in
set_option maxRecDepth 100000 in
/-- is n an exponent -/
theorem k_isExD (l : Launch) (n : Nat) (hn : n < 2 ^ 32) : Met l y_D_isExponent (Cond.code y_D_isExponent c_D_isExponent 1 (some .boolean) :: zT) ({ frames := 1, cells := 0, slots := 0, locals := 40 }) (fun v _ => v = ([.int (nI n)] : List Value).toArray) (QcRead (zb (ex n))) 0 0 (fun _ => False) := by
  refine Met.ofW (cc := c_D_isExponent) (maxL := 1) (ret := (some .boolean)) (by decide) rfl ?_
  intro p e s m args below meth c s₁ B hml hv
  subst hv
  have hx := B.exec
  have hb := B.bytes
  have hr := B.returns
  have hts0 := atoms_spec (ws := Cond.code y_D_isExponent c_D_isExponent 1 (some .boolean) :: zT) B.pre
  have hts := fun w h => hts0 w (List.mem_cons_of_mem _ h)
  have hown : s.vm.findClass R_D = some m.cls := findClass_of_methodNamed B.named
  have hlocks := B.notSynchronized
  have hl := lv_entry ([.int (nI n)]) (n := 1) (Nat.le_of_ble_eq_true rfl)
  rw [lg_entry_eq]
  generalize (lg_sl ([.int (nI n)]) ++ List.replicate (1 - (lg_sl ([.int (nI n)])).length) Slot.unset).toArray = ls at hl ⊢
  have hl : lv_has ls 1 [(0, .int (nI n))] := hl
  refine lv_iload_n hx hb d_D_isExponent_0 rfl (lv_at hl 0 rfl) ?_
  refine lv_if_lt (tgt := 15) hx hb d_D_isExponent_1 rfl (fun h1 => ?_) (fun h1 => ?_)
  · skip
    have hq := ex_f1 hn h1
    refine lv_iconst (v := 0) hx hb d_D_isExponent_15 rfl ?_
    refine zz_as (y := zb (ex n)) (by rw [hq]; rfl) ?_
    exact W.zret hx hb hr (zb_nar _) (fun t ht hW => ⟨rfl, ht⟩) (fun q h => absurd h List.not_mem_nil) d_D_isExponent_16
  · skip
    refine lv_iload_n hx hb d_D_isExponent_4 rfl (lv_at hl 0 rfl) ?_
    refine lv_sipush (v := 5003) hx hb d_D_isExponent_5 rfl ?_
    refine lv_icmp_ge (tgt := 15) hx hb d_D_isExponent_8 rfl (fun h8 => ?_) (fun h8 => ?_)
    · skip
      have hq := ex_f2 hn h8
      refine lv_iconst (v := 0) hx hb d_D_isExponent_15 rfl ?_
      refine zz_as (y := zb (ex n)) (by rw [hq]; rfl) ?_
      exact W.zret hx hb hr (zb_nar _) (fun t ht hW => ⟨rfl, ht⟩) (fun q h => absurd h List.not_mem_nil) d_D_isExponent_16
    · skip
      have hq := ex_t hn h1 h8
      refine lv_iconst (v := 1) hx hb d_D_isExponent_11 rfl ?_
      refine lv_goto (tgt := 16) hx hb d_D_isExponent_12 rfl ?_
      refine zz_as (y := zb (ex n)) (by rw [hq]; rfl) ?_
      exact W.zret hx hb hr (zb_nar _) (fun t ht hW => ⟨rfl, ht⟩) (fun q h => absurd h List.not_mem_nil) d_D_isExponent_16

theorem d_D_isPair_0 : decode c_D_isPair 0 = .ok (.iload_n 0, 1) := by decide +kernel
theorem d_D_isPair_1 : decode c_D_isPair 1 = .ok (.iconst 1, 1) := by decide +kernel
theorem d_D_isPair_2 : decode c_D_isPair 2 = .ok (.if_icmp .eq 21, 3) := by decide +kernel
theorem d_D_isPair_5 : decode c_D_isPair 5 = .ok (.iload_n 0, 1) := by decide +kernel
theorem d_D_isPair_6 : decode c_D_isPair 6 = .ok (.invokestatic 56, 3) := by decide +kernel
theorem d_D_isPair_9 : decode c_D_isPair 9 = .ok (.ifCond .eq 14, 3) := by decide +kernel
theorem d_D_isPair_12 : decode c_D_isPair 12 = .ok (.iload_n 1, 1) := by decide +kernel
theorem d_D_isPair_13 : decode c_D_isPair 13 = .ok (.invokestatic 56, 3) := by decide +kernel
theorem d_D_isPair_16 : decode c_D_isPair 16 = .ok (.ifCond .eq 7, 3) := by decide +kernel
theorem d_D_isPair_19 : decode c_D_isPair 19 = .ok (.iconst 1, 1) := by decide +kernel
theorem d_D_isPair_20 : decode c_D_isPair 20 = .ok (.goto 4, 3) := by decide +kernel
theorem d_D_isPair_23 : decode c_D_isPair 23 = .ok (.iconst 0, 1) := by decide +kernel
theorem d_D_isPair_24 : decode c_D_isPair 24 = .ok (.ireturn, 1) := by decide +kernel

set_option maxHeartbeats 4000000 in
set_option maxRecDepth 100000 in
/-- are b and y a base and an element -/
theorem k_isPair (l : Launch) (b y : Nat) (hb0 : b < 2 ^ 32) (hy0 : y < 2 ^ 32) : Met l y_D_isPair (Cond.code y_D_isPair c_D_isPair 2 (some .boolean) :: zT) ({ frames := 3, cells := 0, slots := 0, locals := 120 }) (fun v _ => v = ([.int (nI b), .int (nI y)] : List Value).toArray) (QcRead (zb (bs b && el y))) 0 0 (fun _ => False) := by
  refine Met.ofW (cc := c_D_isPair) (maxL := 2) (ret := (some .boolean)) (by decide) rfl ?_
  intro p e s m args below meth c s₁ B hml hv
  subst hv
  have hx := B.exec
  have hb := B.bytes
  have hr := B.returns
  have hts0 := atoms_spec (ws := Cond.code y_D_isPair c_D_isPair 2 (some .boolean) :: zT) B.pre
  have hts := fun w h => hts0 w (List.mem_cons_of_mem _ h)
  have hown : s.vm.findClass R_D = some m.cls := findClass_of_methodNamed B.named
  have hlocks := B.notSynchronized
  have hl := lv_entry ([.int (nI b), .int (nI y)]) (n := 2) (Nat.le_of_ble_eq_true rfl)
  rw [lg_entry_eq]
  generalize (lg_sl ([.int (nI b), .int (nI y)]) ++ List.replicate (2 - (lg_sl ([.int (nI b), .int (nI y)])).length) Slot.unset).toArray = ls at hl ⊢
  have hl : lv_has ls 2 [(0, .int (nI b)), (1, .int (nI y))] := hl
  refine lv_iload_n hx hb d_D_isPair_0 rfl (lv_at hl 0 rfl) ?_
  refine lv_iconst (v := 1) hx hb d_D_isPair_1 rfl ?_
  refine lv_icmp_eq (tgt := 23) hx hb d_D_isPair_2 rfl (fun h2 => ?_) (fun h2 => ?_)
  · skip
    have hb1 : b = 1 := (zn_inj hb0 (by decide)).mp h2
    have hq : (bs b && el y) = false := by unfold bs; rw [decide_eq_true hb1]; rfl
    refine lv_iconst (v := 0) hx hb d_D_isPair_23 rfl ?_
    refine zz_as (y := zb (bs b && el y)) (by rw [hq]; rfl) ?_
    exact W.zret hx hb hr (zb_nar _) (fun t ht hW => ⟨rfl, ht⟩) (fun q h => absurd h List.not_mem_nil) d_D_isPair_24
  · skip
    have hb1 : ¬ b = 1 := fun q => h2 (by rw [q]; rfl)
    refine lv_iload_n hx hb d_D_isPair_5 rfl (lv_at hl 0 rfl) ?_
    refine zz_cS (index := 56) (n := 1) (As := [.int (nI b)]) (rest := []) ⟨hx, hb, hml, hown, hts⟩ (k_isElD l b hb0) mk_D_56 ms_D_isElement mi_D mc_D_isElement (by decide +kernel) ⟨rfl, rfl⟩ ⟨by decide, by decide⟩ preEq rfl hl.1 rfl (Nat.le_of_ble_eq_true rfl) d_D_isPair_6 ⟨Nat.zero_le _, Nat.zero_le _⟩ ?_
    refine lv_if_eq (tgt := 23) hx hb d_D_isPair_9 rfl (fun h9 => ?_) (fun h9 => ?_)
    · skip
      have hq : (bs b && el y) = false := by unfold bs; rw [zb_eq h9, Bool.and_false, Bool.false_and]
      refine lv_iconst (v := 0) hx hb d_D_isPair_23 rfl ?_
      refine zz_as (y := zb (bs b && el y)) (by rw [hq]; rfl) ?_
      exact W.zret hx hb hr (zb_nar _) (fun t ht hW => ⟨rfl, ht⟩) (fun q h => absurd h List.not_mem_nil) d_D_isPair_24
    · skip
      refine lv_iload_n hx hb d_D_isPair_12 rfl (lv_at hl 1 rfl) ?_
      refine zz_cS (index := 56) (n := 1) (As := [.int (nI y)]) (rest := []) ⟨hx, hb, hml, hown, hts⟩ (k_isElD l y hy0) mk_D_56 ms_D_isElement mi_D mc_D_isElement (by decide +kernel) ⟨rfl, rfl⟩ ⟨by decide, by decide⟩ preEq rfl hl.1 rfl (Nat.le_of_ble_eq_true rfl) d_D_isPair_13 ⟨Nat.zero_le _, Nat.zero_le _⟩ ?_
      refine lv_if_eq (tgt := 23) hx hb d_D_isPair_16 rfl (fun h16 => ?_) (fun h16 => ?_)
      · skip
        have hq : (bs b && el y) = false := by rw [zb_eq h16, Bool.and_false]
        refine lv_iconst (v := 0) hx hb d_D_isPair_23 rfl ?_
        refine zz_as (y := zb (bs b && el y)) (by rw [hq]; rfl) ?_
        exact W.zret hx hb hr (zb_nar _) (fun t ht hW => ⟨rfl, ht⟩) (fun q h => absurd h List.not_mem_nil) d_D_isPair_24
      · skip
        have hq : (bs b && el y) = true := by unfold bs; rw [decide_eq_false hb1, zb_ne h9, zb_ne h16]; rfl
        refine lv_iconst (v := 1) hx hb d_D_isPair_19 rfl ?_
        refine lv_goto (tgt := 24) hx hb d_D_isPair_20 rfl ?_
        refine zz_as (y := zb (bs b && el y)) (by rw [hq]; rfl) ?_
        exact W.zret hx hb hr (zb_nar _) (fun t ht hW => ⟨rfl, ht⟩) (fun q h => absurd h List.not_mem_nil) d_D_isPair_24

theorem d_D_minus_0 : decode c_D_minus 0 = .ok (.iload_n 0, 1) := by decide +kernel
theorem d_D_minus_1 : decode c_D_minus 1 = .ok (.iload_n 1, 1) := by decide +kernel
theorem d_D_minus_2 : decode c_D_minus 2 = .ok (.if_icmp .lt 9, 3) := by decide +kernel
theorem d_D_minus_5 : decode c_D_minus 5 = .ok (.iload_n 0, 1) := by decide +kernel
theorem d_D_minus_6 : decode c_D_minus 6 = .ok (.iload_n 1, 1) := by decide +kernel
theorem d_D_minus_7 : decode c_D_minus 7 = .ok (.isub, 1) := by decide +kernel
theorem d_D_minus_8 : decode c_D_minus 8 = .ok (.goto 10, 3) := by decide +kernel
theorem d_D_minus_11 : decode c_D_minus 11 = .ok (.iload_n 0, 1) := by decide +kernel
theorem d_D_minus_12 : decode c_D_minus 12 = .ok (.iload_n 1, 1) := by decide +kernel
theorem d_D_minus_13 : decode c_D_minus 13 = .ok (.isub, 1) := by decide +kernel
theorem d_D_minus_14 : decode c_D_minus 14 = .ok (.sipush 5003, 3) := by decide +kernel
theorem d_D_minus_17 : decode c_D_minus 17 = .ok (.iadd, 1) := by decide +kernel
theorem d_D_minus_18 : decode c_D_minus 18 = .ok (.ireturn, 1) := by decide +kernel

theorem zn_sub5 {a b : Nat} (h : b ≤ a + 5003) : nI a - nI b + 5003 = nI (a + 5003 - b) := by
  rw [← pk_sub h, ← nI_add, show (5003 : Int32) = nI 5003 from rfl, Int32.sub_eq_add_neg, Int32.sub_eq_add_neg, Int32.add_assoc, Int32.add_comm (-nI b), ← Int32.add_assoc]

set_option maxHeartbeats 4000000 in
set_option maxRecDepth 100000 in
/-- a - b, modulo 5003 -/
theorem k_minus (l : Launch) (a b : Nat) (ha : a < 5003) (hb0 : b < 5003) : Met l y_D_minus (Cond.code y_D_minus c_D_minus 2 (some .int) :: zT) ({ frames := 1, cells := 0, slots := 0, locals := 40 }) (fun v _ => v = ([.int (nI a), .int (nI b)] : List Value).toArray) (QcRead (nI (ls5 a b))) 0 0 (fun _ => False) := by
  refine Met.ofW (cc := c_D_minus) (maxL := 2) (ret := (some .int)) (by decide) rfl ?_
  intro p e s m args below meth c s₁ B hml hv
  subst hv
  have hx := B.exec
  have hb := B.bytes
  have hr := B.returns
  have hts0 := atoms_spec (ws := Cond.code y_D_minus c_D_minus 2 (some .int) :: zT) B.pre
  have hts := fun w h => hts0 w (List.mem_cons_of_mem _ h)
  have hown : s.vm.findClass R_D = some m.cls := findClass_of_methodNamed B.named
  have hlocks := B.notSynchronized
  have hl := lv_entry ([.int (nI a), .int (nI b)]) (n := 2) (Nat.le_of_ble_eq_true rfl)
  rw [lg_entry_eq]
  generalize (lg_sl ([.int (nI a), .int (nI b)]) ++ List.replicate (2 - (lg_sl ([.int (nI a), .int (nI b)])).length) Slot.unset).toArray = ls at hl ⊢
  have hl : lv_has ls 2 [(0, .int (nI a)), (1, .int (nI b))] := hl
  refine lv_iload_n hx hb d_D_minus_0 rfl (lv_at hl 0 rfl) ?_
  refine lv_iload_n hx hb d_D_minus_1 rfl (lv_at hl 1 rfl) ?_
  refine lv_icmp_lt (tgt := 11) hx hb d_D_minus_2 rfl (fun h2 => ?_) (fun h2 => ?_)
  · skip
    refine lv_iload_n hx hb d_D_minus_11 rfl (lv_at hl 0 rfl) ?_
    refine lv_iload_n hx hb d_D_minus_12 rfl (lv_at hl 1 rfl) ?_
    refine lv_isub hx hb d_D_minus_13 ?_
    refine lv_sipush (v := 5003) hx hb d_D_minus_14 rfl ?_
    refine lv_iadd hx hb d_D_minus_17 ?_
    have q : a < b := (nI_ltI (by omega) (by omega)).mp h2
    refine zz_as (y := nI (ls5 a b)) (by rw [show ls5 a b = a + 5003 - b by unfold ls5; omega]; exact zn_sub5 (by omega)) ?_
    exact W.iret hx hb hr (fun t ht hW => ⟨rfl, ht⟩) (fun q h => absurd h List.not_mem_nil) d_D_minus_18
  · skip
    have q : b ≤ a := Nat.not_lt.mp (mt (nI_lt (a := a) (b := b) · (by omega)) h2)
    refine lv_iload_n hx hb d_D_minus_5 rfl (lv_at hl 0 rfl) ?_
    refine lv_iload_n hx hb d_D_minus_6 rfl (lv_at hl 1 rfl) ?_
    refine lv_isub hx hb d_D_minus_7 ?_
    refine lv_goto (tgt := 18) hx hb d_D_minus_8 rfl ?_
    refine zz_as (y := nI (ls5 a b)) (by rw [pk_sub q, show ls5 a b = a - b by unfold ls5; omega]) ?_
    exact W.iret hx hb hr (fun t ht hW => ⟨rfl, ht⟩) (fun q h => absurd h List.not_mem_nil) d_D_minus_18
