/-! the model's static methods -/

theorem d_M_times_0 : decode c_M_times 0 = .ok (.iload_n 0, 1) := by decide +kernel
theorem d_M_times_1 : decode c_M_times 1 = .ok (.i2l, 1) := by decide +kernel
theorem d_M_times_2 : decode c_M_times 2 = .ok (.iload_n 1, 1) := by decide +kernel
theorem d_M_times_3 : decode c_M_times 3 = .ok (.i2l, 1) := by decide +kernel
theorem d_M_times_4 : decode c_M_times 4 = .ok (.lmul, 1) := by decide +kernel
theorem d_M_times_5 : decode c_M_times 5 = .ok (.iload_n 2, 1) := by decide +kernel
theorem d_M_times_6 : decode c_M_times 6 = .ok (.i2l, 1) := by decide +kernel
theorem d_M_times_7 : decode c_M_times 7 = .ok (.lrem, 1) := by decide +kernel
theorem d_M_times_8 : decode c_M_times 8 = .ok (.l2i, 1) := by decide +kernel
theorem d_M_times_9 : decode c_M_times 9 = .ok (.ireturn, 1) := by decide +kernel

set_option maxHeartbeats 4000000 in
set_option maxRecDepth 100000 in
/-- a b, modulo m -/
theorem k_times (l : Launch) (a b m0 : Nat) (ha : a < 2 ^ 31) (hb0 : b < 2 ^ 31) (hm1 : 0 < m0) (hm2 : m0 < 2 ^ 31) : Met l y_M_times (Cond.code y_M_times c_M_times 3 (some .int) :: zT) ({ frames := 1, cells := 0, slots := 0, locals := 40 }) (fun v _ => v = ([.int (nI a), .int (nI b), .int (nI m0)] : List Value).toArray) (QcRead (nI (a * b % m0))) 0 0 (fun _ => False) := by
  refine Met.ofW (cc := c_M_times) (maxL := 3) (ret := (some .int)) (by decide) rfl ?_
  intro p e s m args below meth c s₁ B hml hv
  subst hv
  have hx := B.exec
  have hb := B.bytes
  have hr := B.returns
  have hts0 := atoms_spec (ws := Cond.code y_M_times c_M_times 3 (some .int) :: zT) B.pre
  have hts := fun w h => hts0 w (List.mem_cons_of_mem _ h)
  have hown : s.vm.findClass R_M = some m.cls := findClass_of_methodNamed B.named
  have hlocks := B.notSynchronized
  have hl := lv_entry ([.int (nI a), .int (nI b), .int (nI m0)]) (n := 3) (Nat.le_of_ble_eq_true rfl)
  rw [lg_entry_eq]
  generalize (lg_sl ([.int (nI a), .int (nI b), .int (nI m0)]) ++ List.replicate (3 - (lg_sl ([.int (nI a), .int (nI b), .int (nI m0)])).length) Slot.unset).toArray = ls at hl ⊢
  have hl : lv_has ls 3 [(0, .int (nI a)), (1, .int (nI b)), (2, .int (nI m0))] := hl
  refine lv_iload_n hx hb d_M_times_0 rfl (lv_at hl 0 rfl) ?_
  refine lv_i2l (v := lN a) hx hb d_M_times_1 (nI_l ha) ?_
  refine lv_iload_n hx hb d_M_times_2 rfl (lv_at hl 1 rfl) ?_
  refine lv_i2l (v := lN b) hx hb d_M_times_3 (nI_l hb0) ?_
  refine lv_lmul hx hb d_M_times_4 ?_
  refine zz_asl (y := lN (a * b)) (lN_mul a b) ?_
  refine lv_iload_n hx hb d_M_times_5 rfl (lv_at hl 2 rfl) ?_
  refine lv_i2l (v := lN m0) hx hb d_M_times_6 (nI_l hm2) ?_
  refine lv_lrem hx hb d_M_times_7 (fun q => absurd ((pk_lEQ (a := m0) (b := 0) (by omega) (by decide)).mp q) (by omega)) ?_
  have hab : a * b < 2 ^ 63 := Nat.lt_of_le_of_lt (Nat.mul_le_mul (Nat.le_of_lt_succ (show a < 2 ^ 31 - 1 + 1 by omega)) (Nat.le_of_lt_succ (show b < 2 ^ 31 - 1 + 1 by omega))) (by decide)
  refine zz_asl (y := lN (a * b % m0)) (pk_lRem hab hm1 (by omega)) ?_
  refine lv_l2i (v := nI (a * b % m0)) hx hb d_M_times_8 (lN_i _) ?_
  exact W.iret hx hb hr (fun t ht hW => ⟨rfl, ht⟩) (fun q h => absurd h List.not_mem_nil) d_M_times_9

theorem d_M_raised_0 : decode c_M_raised 0 = .ok (.iconst 1, 1) := by decide +kernel
theorem d_M_raised_1 : decode c_M_raised 1 = .ok (.istore_n 2, 1) := by decide +kernel
theorem d_M_raised_2 : decode c_M_raised 2 = .ok (.sipush 1000, 3) := by decide +kernel
theorem d_M_raised_5 : decode c_M_raised 5 = .ok (.istore_n 3, 1) := by decide +kernel
theorem d_M_raised_6 : decode c_M_raised 6 = .ok (.iload_n 3, 1) := by decide +kernel
theorem d_M_raised_7 : decode c_M_raised 7 = .ok (.ifCond .le 69, 3) := by decide +kernel
theorem d_M_raised_10 : decode c_M_raised 10 = .ok (.iload_n 2, 1) := by decide +kernel
theorem d_M_raised_11 : decode c_M_raised 11 = .ok (.istore 4, 2) := by decide +kernel
theorem d_M_raised_13 : decode c_M_raised 13 = .ok (.iconst 0, 1) := by decide +kernel
theorem d_M_raised_14 : decode c_M_raised 14 = .ok (.istore 5, 2) := by decide +kernel
theorem d_M_raised_16 : decode c_M_raised 16 = .ok (.iload 5, 2) := by decide +kernel
theorem d_M_raised_18 : decode c_M_raised 18 = .ok (.bipush 9, 2) := by decide +kernel
theorem d_M_raised_20 : decode c_M_raised 20 = .ok (.if_icmp .ge 19, 3) := by decide +kernel
theorem d_M_raised_23 : decode c_M_raised 23 = .ok (.iload_n 2, 1) := by decide +kernel
theorem d_M_raised_24 : decode c_M_raised 24 = .ok (.iload 4, 2) := by decide +kernel
theorem d_M_raised_26 : decode c_M_raised 26 = .ok (.sipush 10007, 3) := by decide +kernel
theorem d_M_raised_29 : decode c_M_raised 29 = .ok (.invokestatic 92, 3) := by decide +kernel
theorem d_M_raised_32 : decode c_M_raised 32 = .ok (.istore_n 2, 1) := by decide +kernel
theorem d_M_raised_33 : decode c_M_raised 33 = .ok (.iinc 5 1, 3) := by decide +kernel
theorem d_M_raised_36 : decode c_M_raised 36 = .ok (.goto (-20), 3) := by decide +kernel
theorem d_M_raised_39 : decode c_M_raised 39 = .ok (.iconst 0, 1) := by decide +kernel
theorem d_M_raised_40 : decode c_M_raised 40 = .ok (.istore 5, 2) := by decide +kernel
theorem d_M_raised_42 : decode c_M_raised 42 = .ok (.iload 5, 2) := by decide +kernel
theorem d_M_raised_44 : decode c_M_raised 44 = .ok (.iload_n 1, 1) := by decide +kernel
theorem d_M_raised_45 : decode c_M_raised 45 = .ok (.iload_n 3, 1) := by decide +kernel
theorem d_M_raised_46 : decode c_M_raised 46 = .ok (.idiv, 1) := by decide +kernel
theorem d_M_raised_47 : decode c_M_raised 47 = .ok (.bipush 10, 2) := by decide +kernel
theorem d_M_raised_49 : decode c_M_raised 49 = .ok (.irem, 1) := by decide +kernel
theorem d_M_raised_50 : decode c_M_raised 50 = .ok (.if_icmp .ge 18, 3) := by decide +kernel
theorem d_M_raised_53 : decode c_M_raised 53 = .ok (.iload_n 2, 1) := by decide +kernel
theorem d_M_raised_54 : decode c_M_raised 54 = .ok (.iload_n 0, 1) := by decide +kernel
theorem d_M_raised_55 : decode c_M_raised 55 = .ok (.sipush 10007, 3) := by decide +kernel
theorem d_M_raised_58 : decode c_M_raised 58 = .ok (.invokestatic 92, 3) := by decide +kernel
theorem d_M_raised_61 : decode c_M_raised 61 = .ok (.istore_n 2, 1) := by decide +kernel
theorem d_M_raised_62 : decode c_M_raised 62 = .ok (.iinc 5 1, 3) := by decide +kernel
theorem d_M_raised_65 : decode c_M_raised 65 = .ok (.goto (-23), 3) := by decide +kernel
theorem d_M_raised_68 : decode c_M_raised 68 = .ok (.iload_n 3, 1) := by decide +kernel
theorem d_M_raised_69 : decode c_M_raised 69 = .ok (.bipush 10, 2) := by decide +kernel
theorem d_M_raised_71 : decode c_M_raised 71 = .ok (.idiv, 1) := by decide +kernel
theorem d_M_raised_72 : decode c_M_raised 72 = .ok (.istore_n 3, 1) := by decide +kernel
theorem d_M_raised_73 : decode c_M_raised 73 = .ok (.goto (-67), 3) := by decide +kernel
theorem d_M_raised_76 : decode c_M_raised 76 = .ok (.iload_n 2, 1) := by decide +kernel
theorem d_M_raised_77 : decode c_M_raised 77 = .ok (.ireturn, 1) := by decide +kernel

section MR
variable {p : Program} {l : Launch} {e : Env} {R : Room} {s : State} {m : MethodId} {args : Array Value} {below : List Frame} {meth : Method} {c : Code} {H H0 : Heap} {locs : List Loc} {cells slots : Nat} {Q : State → Prop} {A : Nat → Prop}
set_option maxHeartbeats 4000000 in
set_option maxRecDepth 100000 in
theorem raised_in1 (hx : p.tables.exec = Jvm.exec) (hb : c.code = c_M_raised) (hml : c.maxLocals = 6) (hown : s.vm.findClass R_M = some m.cls) (hts : ∀ w ∈ zT, w.before args s = true) (hRf : 2 ≤ R.frames) (hRl : 80 ≤ R.locals) (hc : cells ≤ R.cells) (hsl : slots ≤ R.slots) {b e0 t0 k0 : Nat} (hb0 : b < 10007) (kk : ∀ ls : Array Slot, lv_has ls 6 [(2, .int (nI (b ^ (k0 * 10) % 10007))), (3, .int (nI t0)), (0, .int (nI b)), (1, .int (nI e0))] → W p l e R s m args below meth c H locs cells slots Q (F0 m 39 ls [])) : ∀ (j i : Nat), i + j = 9 → ∀ ls : Array Slot, lv_has ls 6 [(5, .int (nI i)), (2, .int (nI (b ^ (k0 * (i + 1)) % 10007))), (4, .int (nI (b ^ k0 % 10007))), (3, .int (nI t0)), (0, .int (nI b)), (1, .int (nI e0))] → W p l e R s m args below meth c H locs cells slots Q (F0 m 16 ls []) := by
  intro j
  induction j with
  | zero =>
    intro i hi ls hl
    obtain rfl : i = 9 := by omega
    refine lv_iload hx hb d_M_raised_16 (lv_at hl 0 rfl) ?_
    refine lv_bipush (v := 9) hx hb d_M_raised_18 rfl ?_
    refine lv_icmp_ge (tgt := 39) hx hb d_M_raised_20 rfl (fun h20 => ?_) (fun h20 => absurd (by decide) h20)
    have hl := lv_sub (l' := [(2, .int (nI (b ^ (k0 * (9 + 1)) % 10007))), (3, .int (nI t0)), (0, .int (nI b)), (1, .int (nI e0))]) hl [1, 3, 4, 5] rfl
    exact kk ls hl
  | succ j ih =>
    intro i hi ls hl
    have hx0 : b ^ (k0 * (i + 1)) % 10007 < 10007 := Nat.mod_lt _ (by decide)
    have hx1 : b ^ k0 % 10007 < 10007 := Nat.mod_lt _ (by decide)
    refine lv_iload hx hb d_M_raised_16 (lv_at hl 0 rfl) ?_
    refine lv_bipush (v := 9) hx hb d_M_raised_18 rfl ?_
    refine lv_icmp_ge (tgt := 39) hx hb d_M_raised_20 rfl (fun h20 => absurd h20 (nI_ge (b := 9) (by omega) (by decide))) (fun h20 => ?_)
    refine lv_iload_n hx hb d_M_raised_23 rfl (lv_at hl 1 rfl) ?_
    refine lv_iload hx hb d_M_raised_24 (lv_at hl 2 rfl) ?_
    refine lv_sipush (v := 10007) hx hb d_M_raised_26 rfl ?_
    refine zz_cS (index := 92) (n := 3) (As := [.int (nI (b ^ (k0 * (i + 1)) % 10007)), .int (nI (b ^ k0 % 10007)), .int 10007]) (rest := []) ⟨hx, hb, hml, hown, hts⟩ (k_times l (b ^ (k0 * (i + 1)) % 10007) (b ^ k0 % 10007) 10007 (by omega) (by omega) (by decide) (by decide)) mk_M_92 ms_M_times mi_M mc_M_times (by decide +kernel) ⟨rfl, rfl⟩ ⟨hRf, Nat.le_trans (by decide) hRl⟩ preEq rfl hl.1 rfl (Nat.le_of_ble_eq_true rfl) d_M_raised_29 ⟨hc, hsl⟩ ?_
    refine zz_as (y := nI (b ^ (k0 * (i + 1 + 1)) % 10007)) (congrArg nI (zp_mulk ..)) ?_
    refine lv_istore_n (lv' := [(2, .int (nI (b ^ (k0 * (i + 1 + 1)) % 10007))), (5, .int (nI i)), (4, .int (nI (b ^ k0 % 10007))), (3, .int (nI t0)), (0, .int (nI b)), (1, .int (nI e0))]) hx hb d_M_raised_32 rfl hl (by decide) rfl (fun ls hl => ?_)
    refine lv_iinc (k := 1) (v := (nI i) + 1) (lv' := [(5, .int ((nI i) + 1)), (2, .int (nI (b ^ (k0 * (i + 1 + 1)) % 10007))), (4, .int (nI (b ^ k0 % 10007))), (3, .int (nI t0)), (0, .int (nI b)), (1, .int (nI e0))]) hx hb d_M_raised_33 hl rfl rfl (by decide) rfl (fun ls hl => ?_)
    rw [nI_1] at hl
    refine lv_goto (tgt := 16) hx hb d_M_raised_36 rfl ?_
    have hl := lv_sub (l' := [(5, .int (nI (i + 1))), (2, .int (nI (b ^ (k0 * (i + 1 + 1)) % 10007))), (4, .int (nI (b ^ k0 % 10007))), (3, .int (nI t0)), (0, .int (nI b)), (1, .int (nI e0))]) hl [0, 1, 2, 3, 4, 5] rfl
    exact ih (i + 1) (by omega) ls hl
set_option maxHeartbeats 4000000 in
set_option maxRecDepth 100000 in
theorem raised_in2 (hx : p.tables.exec = Jvm.exec) (hb : c.code = c_M_raised) (hml : c.maxLocals = 6) (hown : s.vm.findClass R_M = some m.cls) (hts : ∀ w ∈ zT, w.before args s = true) (hRf : 2 ≤ R.frames) (hRl : 80 ≤ R.locals) (hc : cells ≤ R.cells) (hsl : slots ≤ R.slots) {b e0 t0 k0 : Nat} (hb0 : b < 10007) (ht0 : 0 < t0) (ht1 : t0 < 2 ^ 31) (he0 : e0 < 2 ^ 31) (kk : ∀ ls : Array Slot, lv_has ls 6 [(2, .int (nI (b ^ (k0 + e0 / t0 % 10) % 10007))), (3, .int (nI t0)), (0, .int (nI b)), (1, .int (nI e0))] → W p l e R s m args below meth c H locs cells slots Q (F0 m 68 ls [])) : ∀ (j i : Nat), i + j = e0 / t0 % 10 → ∀ ls : Array Slot, lv_has ls 6 [(5, .int (nI i)), (2, .int (nI (b ^ (k0 + i) % 10007))), (3, .int (nI t0)), (0, .int (nI b)), (1, .int (nI e0))] → W p l e R s m args below meth c H locs cells slots Q (F0 m 42 ls []) := by
  have hd : nI e0 / nI t0 = nI (e0 / t0) := pk_div he0 ht0 ht1
  have hd2 : e0 / t0 < 2 ^ 31 := Nat.lt_of_le_of_lt (Nat.div_le_self _ _) he0
  have hd3 : nI (e0 / t0) - nI (e0 / t0) / 10 * 10 = nI (e0 / t0 % 10) := pk_rem (d := 10) hd2 (by decide) (by decide)
  have hd4 : e0 / t0 % 10 < 10 := Nat.mod_lt _ (by decide)
  intro j
  induction j with
  | zero =>
    intro i hi ls hl
    obtain rfl : i = e0 / t0 % 10 := by omega
    refine lv_iload hx hb d_M_raised_42 (lv_at hl 0 rfl) ?_
    refine lv_iload_n hx hb d_M_raised_44 rfl (lv_at hl 4 rfl) ?_
    refine lv_iload_n hx hb d_M_raised_45 rfl (lv_at hl 2 rfl) ?_
    refine lv_idiv hx hb d_M_raised_46 (nI_ne0 ht0 ht1) ?_
    refine zz_as (y := nI (e0 / t0)) (hd) ?_
    refine lv_bipush (v := 10) hx hb d_M_raised_47 rfl ?_
    refine lv_irem hx hb d_M_raised_49 (by decide) ?_
    refine zz_as (y := nI (e0 / t0 % 10)) (hd3) ?_
    refine lv_icmp_ge (tgt := 68) hx hb d_M_raised_50 rfl (fun h50 => ?_) (fun h50 => absurd (Int32.le_refl _) h50)
    have hl := lv_sub (l' := [(2, .int (nI (b ^ (k0 + e0 / t0 % 10) % 10007))), (3, .int (nI t0)), (0, .int (nI b)), (1, .int (nI e0))]) hl [1, 2, 3, 4] rfl
    exact kk ls hl
  | succ j ih =>
    intro i hi ls hl
    have hx0 : b ^ (k0 + i) % 10007 < 10007 := Nat.mod_lt _ (by decide)
    refine lv_iload hx hb d_M_raised_42 (lv_at hl 0 rfl) ?_
    refine lv_iload_n hx hb d_M_raised_44 rfl (lv_at hl 4 rfl) ?_
    refine lv_iload_n hx hb d_M_raised_45 rfl (lv_at hl 2 rfl) ?_
    refine lv_idiv hx hb d_M_raised_46 (nI_ne0 ht0 ht1) ?_
    refine zz_as (y := nI (e0 / t0)) (hd) ?_
    refine lv_bipush (v := 10) hx hb d_M_raised_47 rfl ?_
    refine lv_irem hx hb d_M_raised_49 (by decide) ?_
    refine zz_as (y := nI (e0 / t0 % 10)) (hd3) ?_
    refine lv_icmp_ge (tgt := 68) hx hb d_M_raised_50 rfl (fun h50 => absurd h50 (nI_ge (by omega) (by omega))) (fun h50 => ?_)
    refine lv_iload_n hx hb d_M_raised_53 rfl (lv_at hl 1 rfl) ?_
    refine lv_iload_n hx hb d_M_raised_54 rfl (lv_at hl 3 rfl) ?_
    refine lv_sipush (v := 10007) hx hb d_M_raised_55 rfl ?_
    refine zz_cS (index := 92) (n := 3) (As := [.int (nI (b ^ (k0 + i) % 10007)), .int (nI b), .int 10007]) (rest := []) ⟨hx, hb, hml, hown, hts⟩ (k_times l (b ^ (k0 + i) % 10007) b 10007 (by omega) (by omega) (by decide) (by decide)) mk_M_92 ms_M_times mi_M mc_M_times (by decide +kernel) ⟨rfl, rfl⟩ ⟨hRf, Nat.le_trans (by decide) hRl⟩ preEq rfl hl.1 rfl (Nat.le_of_ble_eq_true rfl) d_M_raised_58 ⟨hc, hsl⟩ ?_
    refine zz_as (y := nI (b ^ (k0 + (i + 1)) % 10007)) (congrArg nI (zp_mul ..)) ?_
    refine lv_istore_n (lv' := [(2, .int (nI (b ^ (k0 + (i + 1)) % 10007))), (5, .int (nI i)), (3, .int (nI t0)), (0, .int (nI b)), (1, .int (nI e0))]) hx hb d_M_raised_61 rfl hl (by decide) rfl (fun ls hl => ?_)
    refine lv_iinc (k := 1) (v := (nI i) + 1) (lv' := [(5, .int ((nI i) + 1)), (2, .int (nI (b ^ (k0 + (i + 1)) % 10007))), (3, .int (nI t0)), (0, .int (nI b)), (1, .int (nI e0))]) hx hb d_M_raised_62 hl rfl rfl (by decide) rfl (fun ls hl => ?_)
    rw [nI_1] at hl
    refine lv_goto (tgt := 42) hx hb d_M_raised_65 rfl ?_
    have hl := lv_sub (l' := [(5, .int (nI (i + 1))), (2, .int (nI (b ^ (k0 + (i + 1)) % 10007))), (3, .int (nI t0)), (0, .int (nI b)), (1, .int (nI e0))]) hl [0, 1, 2, 3, 4] rfl
    exact ih (i + 1) (by omega) ls hl
end MR

theorem zp_dig {e t : Nat} : e / (t * 10) * 10 + e / t % 10 = e / t := by
  rw [← Nat.div_div_eq_div_mul]; omega

set_option maxHeartbeats 4000000 in
set_option maxRecDepth 100000 in
/-- raised(b, e) is b to the e, modulo 10007 -/
theorem k_raised (l : Launch) (b e0 : Nat) (hb0 : b < 10007) (he0 : e0 < 10000) : Met l y_M_raised (Cond.code y_M_raised c_M_raised 6 (some .int) :: zT) ({ frames := 2, cells := 0, slots := 0, locals := 80 }) (fun v _ => v = ([.int (nI b), .int (nI e0)] : List Value).toArray) (QcRead (nI (b ^ e0 % 10007))) 0 0 (fun _ => False) := by
  refine Met.ofW (cc := c_M_raised) (maxL := 6) (ret := (some .int)) (by decide) rfl ?_
  intro p e s m args below meth c s₁ B hml hv
  subst hv
  have hx := B.exec
  have hb := B.bytes
  have hr := B.returns
  have hts0 := atoms_spec (ws := Cond.code y_M_raised c_M_raised 6 (some .int) :: zT) B.pre
  have hts := fun w h => hts0 w (List.mem_cons_of_mem _ h)
  have hown : s.vm.findClass R_M = some m.cls := findClass_of_methodNamed B.named
  have hlocks := B.notSynchronized
  have hl := lv_entry ([.int (nI b), .int (nI e0)]) (n := 6) (Nat.le_of_ble_eq_true rfl)
  rw [lg_entry_eq]
  generalize (lg_sl ([.int (nI b), .int (nI e0)]) ++ List.replicate (6 - (lg_sl ([.int (nI b), .int (nI e0)])).length) Slot.unset).toArray = ls at hl ⊢
  have hl : lv_has ls 6 [(0, .int (nI b)), (1, .int (nI e0))] := hl
  refine lv_iconst (v := 1) hx hb d_M_raised_0 rfl ?_
  refine lv_istore_n (lv' := [(2, .int 1), (0, .int (nI b)), (1, .int (nI e0))]) hx hb d_M_raised_1 rfl hl (by decide) rfl (fun ls hl => ?_)
  refine lv_sipush (v := 1000) hx hb d_M_raised_2 rfl ?_
  refine lv_istore_n (lv' := [(3, .int 1000), (2, .int 1), (0, .int (nI b)), (1, .int (nI e0))]) hx hb d_M_raised_5 rfl hl (by decide) rfl (fun ls hl => ?_)
  have hl : lv_has ls 6 [(3, .int (nI 1000)), (2, .int (nI (b ^ (e0 / (1000 * 10)) % 10007))), (0, .int (nI b)), (1, .int (nI e0))] := by rw [Nat.div_eq_of_lt (show e0 < 1000 * 10 by omega), Nat.pow_zero]; exact hl
  refine lv_iload_n hx hb d_M_raised_6 rfl (lv_at hl 0 rfl) ?_
  refine lv_if_le (tgt := 76) hx hb d_M_raised_7 rfl (fun h7 => absurd h7 (by decide)) (fun h7 => ?_)
  refine lv_iload_n hx hb d_M_raised_10 rfl (lv_at hl 1 rfl) ?_
  refine lv_istore (lv' := [(4, .int (nI (b ^ (e0 / (1000 * 10)) % 10007))), (3, .int (nI 1000)), (2, .int (nI (b ^ (e0 / (1000 * 10)) % 10007))), (0, .int (nI b)), (1, .int (nI e0))]) hx hb d_M_raised_11 hl (by decide) rfl (fun ls hl => ?_)
  refine lv_iconst (v := 0) hx hb d_M_raised_13 rfl ?_
  refine lv_istore (lv' := [(5, .int 0), (4, .int (nI (b ^ (e0 / (1000 * 10)) % 10007))), (3, .int (nI 1000)), (2, .int (nI (b ^ (e0 / (1000 * 10)) % 10007))), (0, .int (nI b)), (1, .int (nI e0))]) hx hb d_M_raised_14 hl (by decide) rfl (fun ls hl => ?_)
  have hl : lv_has ls 6 [(5, .int (nI 0)), (4, .int (nI (b ^ (e0 / (1000 * 10)) % 10007))), (3, .int (nI 1000)), (2, .int (nI (b ^ (e0 / (1000 * 10) * (0 + 1)) % 10007))), (0, .int (nI b)), (1, .int (nI e0))] := by rw [Nat.zero_add, Nat.mul_one]; exact lv_sub hl [0, 1, 2, 3, 4, 5] rfl
  refine raised_in1 (t0 := 1000) (k0 := e0 / (1000 * 10)) hx hb hml hown hts (by decide) (by decide) (Nat.zero_le _) (Nat.zero_le _) hb0 (fun ls hl => ?_) 9 0 rfl ls (lv_sub hl [0, 3, 1, 2, 4, 5] rfl)
  refine lv_iconst (v := 0) hx hb d_M_raised_39 rfl ?_
  refine lv_istore (lv' := [(5, .int 0), (2, .int (nI (b ^ (e0 / (1000 * 10) * 10) % 10007))), (3, .int (nI 1000)), (0, .int (nI b)), (1, .int (nI e0))]) hx hb d_M_raised_40 hl (by decide) rfl (fun ls hl => ?_)
  have hl : lv_has ls 6 [(5, .int (nI 0)), (2, .int (nI (b ^ (e0 / (1000 * 10) * 10 + 0) % 10007))), (3, .int (nI 1000)), (0, .int (nI b)), (1, .int (nI e0))] := lv_sub hl [0, 1, 2, 3, 4] rfl
  refine raised_in2 (t0 := 1000) (k0 := e0 / (1000 * 10) * 10) hx hb hml hown hts (by decide) (by decide) (Nat.zero_le _) (Nat.zero_le _) hb0 (by decide) (by decide) (by omega) (fun ls hl => ?_) (e0 / 1000 % 10) 0 (Nat.zero_add _) ls hl
  rw [zp_dig] at hl
  refine lv_iload_n hx hb d_M_raised_68 rfl (lv_at hl 1 rfl) ?_
  refine lv_bipush (v := 10) hx hb d_M_raised_69 rfl ?_
  refine lv_idiv hx hb d_M_raised_71 (by decide) ?_
  refine zz_as (y := nI 100) (by decide) ?_
  refine lv_istore_n (lv' := [(3, .int (nI 100)), (2, .int (nI (b ^ (e0 / 1000) % 10007))), (0, .int (nI b)), (1, .int (nI e0))]) hx hb d_M_raised_72 rfl hl (by decide) rfl (fun ls hl => ?_)
  refine lv_goto (tgt := 6) hx hb d_M_raised_73 rfl ?_
  refine lv_iload_n hx hb d_M_raised_6 rfl (lv_at hl 0 rfl) ?_
  refine lv_if_le (tgt := 76) hx hb d_M_raised_7 rfl (fun h7 => absurd h7 (by decide)) (fun h7 => ?_)
  refine lv_iload_n hx hb d_M_raised_10 rfl (lv_at hl 1 rfl) ?_
  refine lv_istore (lv' := [(4, .int (nI (b ^ (e0 / 1000) % 10007))), (3, .int (nI 100)), (2, .int (nI (b ^ (e0 / 1000) % 10007))), (0, .int (nI b)), (1, .int (nI e0))]) hx hb d_M_raised_11 hl (by decide) rfl (fun ls hl => ?_)
  refine lv_iconst (v := 0) hx hb d_M_raised_13 rfl ?_
  refine lv_istore (lv' := [(5, .int 0), (4, .int (nI (b ^ (e0 / 1000) % 10007))), (3, .int (nI 100)), (2, .int (nI (b ^ (e0 / 1000) % 10007))), (0, .int (nI b)), (1, .int (nI e0))]) hx hb d_M_raised_14 hl (by decide) rfl (fun ls hl => ?_)
  have hl : lv_has ls 6 [(5, .int (nI 0)), (4, .int (nI (b ^ (e0 / (100 * 10)) % 10007))), (3, .int (nI 100)), (2, .int (nI (b ^ (e0 / (100 * 10) * (0 + 1)) % 10007))), (0, .int (nI b)), (1, .int (nI e0))] := by rw [Nat.zero_add, Nat.mul_one]; exact lv_sub hl [0, 1, 2, 3, 4, 5] rfl
  refine raised_in1 (t0 := 100) (k0 := e0 / (100 * 10)) hx hb hml hown hts (by decide) (by decide) (Nat.zero_le _) (Nat.zero_le _) hb0 (fun ls hl => ?_) 9 0 rfl ls (lv_sub hl [0, 3, 1, 2, 4, 5] rfl)
  refine lv_iconst (v := 0) hx hb d_M_raised_39 rfl ?_
  refine lv_istore (lv' := [(5, .int 0), (2, .int (nI (b ^ (e0 / (100 * 10) * 10) % 10007))), (3, .int (nI 100)), (0, .int (nI b)), (1, .int (nI e0))]) hx hb d_M_raised_40 hl (by decide) rfl (fun ls hl => ?_)
  have hl : lv_has ls 6 [(5, .int (nI 0)), (2, .int (nI (b ^ (e0 / (100 * 10) * 10 + 0) % 10007))), (3, .int (nI 100)), (0, .int (nI b)), (1, .int (nI e0))] := lv_sub hl [0, 1, 2, 3, 4] rfl
  refine raised_in2 (t0 := 100) (k0 := e0 / (100 * 10) * 10) hx hb hml hown hts (by decide) (by decide) (Nat.zero_le _) (Nat.zero_le _) hb0 (by decide) (by decide) (by omega) (fun ls hl => ?_) (e0 / 100 % 10) 0 (Nat.zero_add _) ls hl
  rw [zp_dig] at hl
  refine lv_iload_n hx hb d_M_raised_68 rfl (lv_at hl 1 rfl) ?_
  refine lv_bipush (v := 10) hx hb d_M_raised_69 rfl ?_
  refine lv_idiv hx hb d_M_raised_71 (by decide) ?_
  refine zz_as (y := nI 10) (by decide) ?_
  refine lv_istore_n (lv' := [(3, .int (nI 10)), (2, .int (nI (b ^ (e0 / 100) % 10007))), (0, .int (nI b)), (1, .int (nI e0))]) hx hb d_M_raised_72 rfl hl (by decide) rfl (fun ls hl => ?_)
  refine lv_goto (tgt := 6) hx hb d_M_raised_73 rfl ?_
  refine lv_iload_n hx hb d_M_raised_6 rfl (lv_at hl 0 rfl) ?_
  refine lv_if_le (tgt := 76) hx hb d_M_raised_7 rfl (fun h7 => absurd h7 (by decide)) (fun h7 => ?_)
  refine lv_iload_n hx hb d_M_raised_10 rfl (lv_at hl 1 rfl) ?_
  refine lv_istore (lv' := [(4, .int (nI (b ^ (e0 / 100) % 10007))), (3, .int (nI 10)), (2, .int (nI (b ^ (e0 / 100) % 10007))), (0, .int (nI b)), (1, .int (nI e0))]) hx hb d_M_raised_11 hl (by decide) rfl (fun ls hl => ?_)
  refine lv_iconst (v := 0) hx hb d_M_raised_13 rfl ?_
  refine lv_istore (lv' := [(5, .int 0), (4, .int (nI (b ^ (e0 / 100) % 10007))), (3, .int (nI 10)), (2, .int (nI (b ^ (e0 / 100) % 10007))), (0, .int (nI b)), (1, .int (nI e0))]) hx hb d_M_raised_14 hl (by decide) rfl (fun ls hl => ?_)
  have hl : lv_has ls 6 [(5, .int (nI 0)), (4, .int (nI (b ^ (e0 / (10 * 10)) % 10007))), (3, .int (nI 10)), (2, .int (nI (b ^ (e0 / (10 * 10) * (0 + 1)) % 10007))), (0, .int (nI b)), (1, .int (nI e0))] := by rw [Nat.zero_add, Nat.mul_one]; exact lv_sub hl [0, 1, 2, 3, 4, 5] rfl
  refine raised_in1 (t0 := 10) (k0 := e0 / (10 * 10)) hx hb hml hown hts (by decide) (by decide) (Nat.zero_le _) (Nat.zero_le _) hb0 (fun ls hl => ?_) 9 0 rfl ls (lv_sub hl [0, 3, 1, 2, 4, 5] rfl)
  refine lv_iconst (v := 0) hx hb d_M_raised_39 rfl ?_
  refine lv_istore (lv' := [(5, .int 0), (2, .int (nI (b ^ (e0 / (10 * 10) * 10) % 10007))), (3, .int (nI 10)), (0, .int (nI b)), (1, .int (nI e0))]) hx hb d_M_raised_40 hl (by decide) rfl (fun ls hl => ?_)
  have hl : lv_has ls 6 [(5, .int (nI 0)), (2, .int (nI (b ^ (e0 / (10 * 10) * 10 + 0) % 10007))), (3, .int (nI 10)), (0, .int (nI b)), (1, .int (nI e0))] := lv_sub hl [0, 1, 2, 3, 4] rfl
  refine raised_in2 (t0 := 10) (k0 := e0 / (10 * 10) * 10) hx hb hml hown hts (by decide) (by decide) (Nat.zero_le _) (Nat.zero_le _) hb0 (by decide) (by decide) (by omega) (fun ls hl => ?_) (e0 / 10 % 10) 0 (Nat.zero_add _) ls hl
  rw [zp_dig] at hl
  refine lv_iload_n hx hb d_M_raised_68 rfl (lv_at hl 1 rfl) ?_
  refine lv_bipush (v := 10) hx hb d_M_raised_69 rfl ?_
  refine lv_idiv hx hb d_M_raised_71 (by decide) ?_
  refine zz_as (y := nI 1) (by decide) ?_
  refine lv_istore_n (lv' := [(3, .int (nI 1)), (2, .int (nI (b ^ (e0 / 10) % 10007))), (0, .int (nI b)), (1, .int (nI e0))]) hx hb d_M_raised_72 rfl hl (by decide) rfl (fun ls hl => ?_)
  refine lv_goto (tgt := 6) hx hb d_M_raised_73 rfl ?_
  refine lv_iload_n hx hb d_M_raised_6 rfl (lv_at hl 0 rfl) ?_
  refine lv_if_le (tgt := 76) hx hb d_M_raised_7 rfl (fun h7 => absurd h7 (by decide)) (fun h7 => ?_)
  refine lv_iload_n hx hb d_M_raised_10 rfl (lv_at hl 1 rfl) ?_
  refine lv_istore (lv' := [(4, .int (nI (b ^ (e0 / 10) % 10007))), (3, .int (nI 1)), (2, .int (nI (b ^ (e0 / 10) % 10007))), (0, .int (nI b)), (1, .int (nI e0))]) hx hb d_M_raised_11 hl (by decide) rfl (fun ls hl => ?_)
  refine lv_iconst (v := 0) hx hb d_M_raised_13 rfl ?_
  refine lv_istore (lv' := [(5, .int 0), (4, .int (nI (b ^ (e0 / 10) % 10007))), (3, .int (nI 1)), (2, .int (nI (b ^ (e0 / 10) % 10007))), (0, .int (nI b)), (1, .int (nI e0))]) hx hb d_M_raised_14 hl (by decide) rfl (fun ls hl => ?_)
  have hl : lv_has ls 6 [(5, .int (nI 0)), (4, .int (nI (b ^ (e0 / (1 * 10)) % 10007))), (3, .int (nI 1)), (2, .int (nI (b ^ (e0 / (1 * 10) * (0 + 1)) % 10007))), (0, .int (nI b)), (1, .int (nI e0))] := by rw [Nat.zero_add, Nat.mul_one]; exact lv_sub hl [0, 1, 2, 3, 4, 5] rfl
  refine raised_in1 (t0 := 1) (k0 := e0 / (1 * 10)) hx hb hml hown hts (by decide) (by decide) (Nat.zero_le _) (Nat.zero_le _) hb0 (fun ls hl => ?_) 9 0 rfl ls (lv_sub hl [0, 3, 1, 2, 4, 5] rfl)
  refine lv_iconst (v := 0) hx hb d_M_raised_39 rfl ?_
  refine lv_istore (lv' := [(5, .int 0), (2, .int (nI (b ^ (e0 / (1 * 10) * 10) % 10007))), (3, .int (nI 1)), (0, .int (nI b)), (1, .int (nI e0))]) hx hb d_M_raised_40 hl (by decide) rfl (fun ls hl => ?_)
  have hl : lv_has ls 6 [(5, .int (nI 0)), (2, .int (nI (b ^ (e0 / (1 * 10) * 10 + 0) % 10007))), (3, .int (nI 1)), (0, .int (nI b)), (1, .int (nI e0))] := lv_sub hl [0, 1, 2, 3, 4] rfl
  refine raised_in2 (t0 := 1) (k0 := e0 / (1 * 10) * 10) hx hb hml hown hts (by decide) (by decide) (Nat.zero_le _) (Nat.zero_le _) hb0 (by decide) (by decide) (by omega) (fun ls hl => ?_) (e0 / 1 % 10) 0 (Nat.zero_add _) ls hl
  rw [zp_dig] at hl
  refine lv_iload_n hx hb d_M_raised_68 rfl (lv_at hl 1 rfl) ?_
  refine lv_bipush (v := 10) hx hb d_M_raised_69 rfl ?_
  refine lv_idiv hx hb d_M_raised_71 (by decide) ?_
  refine zz_as (y := nI 0) (by decide) ?_
  refine lv_istore_n (lv' := [(3, .int (nI 0)), (2, .int (nI (b ^ (e0 / 1) % 10007))), (0, .int (nI b)), (1, .int (nI e0))]) hx hb d_M_raised_72 rfl hl (by decide) rfl (fun ls hl => ?_)
  refine lv_goto (tgt := 6) hx hb d_M_raised_73 rfl ?_
  refine lv_iload_n hx hb d_M_raised_6 rfl (lv_at hl 0 rfl) ?_
  refine lv_if_le (tgt := 76) hx hb d_M_raised_7 rfl (fun h7 => ?_) (fun h7 => absurd (by decide) h7)
  have hl : lv_has ls 6 [(2, .int (nI (b ^ e0 % 10007)))] := by have q := lv_sub (l' := [(2, .int (nI (b ^ (e0 / 1) % 10007)))]) hl [1] rfl; rwa [Nat.div_one] at q
  refine lv_iload_n hx hb d_M_raised_76 rfl (lv_at hl 0 rfl) ?_
  exact W.iret hx hb hr (fun t ht hW => ⟨rfl, ht⟩) (fun q h => absurd h List.not_mem_nil) d_M_raised_77

theorem d_M_isElement_0 : decode c_M_isElement 0 = .ok (.iload_n 0, 1) := by decide +kernel
theorem d_M_isElement_1 : decode c_M_isElement 1 = .ok (.iconst 1, 1) := by decide +kernel
theorem d_M_isElement_2 : decode c_M_isElement 2 = .ok (.if_icmp .lt 25, 3) := by decide +kernel
theorem d_M_isElement_5 : decode c_M_isElement 5 = .ok (.iload_n 0, 1) := by decide +kernel
theorem d_M_isElement_6 : decode c_M_isElement 6 = .ok (.sipush 10007, 3) := by decide +kernel
theorem d_M_isElement_9 : decode c_M_isElement 9 = .ok (.if_icmp .ge 18, 3) := by decide +kernel
theorem d_M_isElement_12 : decode c_M_isElement 12 = .ok (.iload_n 0, 1) := by decide +kernel
theorem d_M_isElement_13 : decode c_M_isElement 13 = .ok (.sipush 5003, 3) := by decide +kernel
theorem d_M_isElement_16 : decode c_M_isElement 16 = .ok (.invokestatic 96, 3) := by decide +kernel
theorem d_M_isElement_19 : decode c_M_isElement 19 = .ok (.iconst 1, 1) := by decide +kernel
theorem d_M_isElement_20 : decode c_M_isElement 20 = .ok (.if_icmp .ne 7, 3) := by decide +kernel
theorem d_M_isElement_23 : decode c_M_isElement 23 = .ok (.iconst 1, 1) := by decide +kernel
theorem d_M_isElement_24 : decode c_M_isElement 24 = .ok (.goto 4, 3) := by decide +kernel
theorem d_M_isElement_27 : decode c_M_isElement 27 = .ok (.iconst 0, 1) := by decide +kernel
theorem d_M_isElement_28 : decode c_M_isElement 28 = .ok (.ireturn, 1) := by decide +kernel

set_option maxHeartbeats 4000000 in
set_option maxRecDepth 100000 in
/-- is n an element -/
theorem k_isElM (l : Launch) (n : Nat) (hn : n < 2 ^ 32) : Met l y_M_isElement (Cond.code y_M_isElement c_M_isElement 1 (some .boolean) :: zT) ({ frames := 3, cells := 0, slots := 0, locals := 120 }) (fun v _ => v = ([.int (nI n)] : List Value).toArray) (QcRead (zb (el n))) 0 0 (fun _ => False) := by
  refine Met.ofW (cc := c_M_isElement) (maxL := 1) (ret := (some .boolean)) (by decide) rfl ?_
  intro p e s m args below meth c s₁ B hml hv
  subst hv
  have hx := B.exec
  have hb := B.bytes
  have hr := B.returns
  have hts0 := atoms_spec (ws := Cond.code y_M_isElement c_M_isElement 1 (some .boolean) :: zT) B.pre
  have hts := fun w h => hts0 w (List.mem_cons_of_mem _ h)
  have hown : s.vm.findClass R_M = some m.cls := findClass_of_methodNamed B.named
  have hlocks := B.notSynchronized
  have hl := lv_entry ([.int (nI n)]) (n := 1) (Nat.le_of_ble_eq_true rfl)
  rw [lg_entry_eq]
  generalize (lg_sl ([.int (nI n)]) ++ List.replicate (1 - (lg_sl ([.int (nI n)])).length) Slot.unset).toArray = ls at hl ⊢
  have hl : lv_has ls 1 [(0, .int (nI n))] := hl
  refine lv_iload_n hx hb d_M_isElement_0 rfl (lv_at hl 0 rfl) ?_
  refine lv_iconst (v := 1) hx hb d_M_isElement_1 rfl ?_
  refine lv_icmp_lt (tgt := 27) hx hb d_M_isElement_2 rfl (fun h2 => ?_) (fun h2 => ?_)
  · skip
    have hq := el_f1 hn h2
    refine lv_iconst (v := 0) hx hb d_M_isElement_27 rfl ?_
    refine zz_as (y := zb (el n)) (by rw [hq]; rfl) ?_
    exact W.zret hx hb hr (zb_nar _) (fun t ht hW => ⟨rfl, ht⟩) (fun q h => absurd h List.not_mem_nil) d_M_isElement_28
  · skip
    refine lv_iload_n hx hb d_M_isElement_5 rfl (lv_at hl 0 rfl) ?_
    refine lv_sipush (v := 10007) hx hb d_M_isElement_6 rfl ?_
    refine lv_icmp_ge (tgt := 27) hx hb d_M_isElement_9 rfl (fun h9 => ?_) (fun h9 => ?_)
    · skip
      have hq := el_f2 hn h9
      refine lv_iconst (v := 0) hx hb d_M_isElement_27 rfl ?_
      refine zz_as (y := zb (el n)) (by rw [hq]; rfl) ?_
      exact W.zret hx hb hr (zb_nar _) (fun t ht hW => ⟨rfl, ht⟩) (fun q h => absurd h List.not_mem_nil) d_M_isElement_28
    · skip
      have hr0 := el_in hn h2 h9
      refine lv_iload_n hx hb d_M_isElement_12 rfl (lv_at hl 0 rfl) ?_
      refine lv_sipush (v := 5003) hx hb d_M_isElement_13 rfl ?_
      refine zz_cS (index := 96) (n := 2) (As := [.int (nI n), .int 5003]) (rest := []) ⟨hx, hb, hml, hown, hts⟩ (k_raised l n 5003 hr0.2 (by decide)) mk_M_96 ms_M_raised mi_M mc_M_raised (by decide +kernel) ⟨rfl, rfl⟩ ⟨by decide, by decide⟩ preEq rfl hl.1 rfl (Nat.le_of_ble_eq_true rfl) d_M_isElement_16 ⟨Nat.zero_le _, Nat.zero_le _⟩ ?_
      refine lv_iconst (v := 1) hx hb d_M_isElement_19 rfl ?_
      refine lv_icmp_ne (tgt := 27) hx hb d_M_isElement_20 rfl (fun h20 => ?_) (fun h20 => ?_)
      · skip
        have hq := el_f3 h20
        refine lv_iconst (v := 0) hx hb d_M_isElement_27 rfl ?_
        refine zz_as (y := zb (el n)) (by rw [hq]; rfl) ?_
        exact W.zret hx hb hr (zb_nar _) (fun t ht hW => ⟨rfl, ht⟩) (fun q h => absurd h List.not_mem_nil) d_M_isElement_28
      · skip
        have hq := el_t hr0 h20
        refine lv_iconst (v := 1) hx hb d_M_isElement_23 rfl ?_
        refine lv_goto (tgt := 28) hx hb d_M_isElement_24 rfl ?_
        refine zz_as (y := zb (el n)) (by rw [hq]; rfl) ?_
        exact W.zret hx hb hr (zb_nar _) (fun t ht hW => ⟨rfl, ht⟩) (fun q h => absurd h List.not_mem_nil) d_M_isElement_28

theorem d_M_isExponent_0 : decode c_M_isExponent 0 = .ok (.iload_n 0, 1) := by decide +kernel
theorem d_M_isExponent_1 : decode c_M_isExponent 1 = .ok (.ifCond .lt 14, 3) := by decide +kernel
theorem d_M_isExponent_4 : decode c_M_isExponent 4 = .ok (.iload_n 0, 1) := by decide +kernel
theorem d_M_isExponent_5 : decode c_M_isExponent 5 = .ok (.sipush 5003, 3) := by decide +kernel
theorem d_M_isExponent_8 : decode c_M_isExponent 8 = .ok (.if_icmp .ge 7, 3) := by decide +kernel
theorem d_M_isExponent_11 : decode c_M_isExponent 11 = .ok (.iconst 1, 1) := by decide +kernel
theorem d_M_isExponent_12 : decode c_M_isExponent 12 = .ok (.goto 4, 3) := by decide +kernel
theorem d_M_isExponent_15 : decode c_M_isExponent 15 = .ok (.iconst 0, 1) := by decide +kernel
theorem d_M_isExponent_16 : decode c_M_isExponent 16 = .ok (.ireturn, 1) := by decide +kernel

set_option maxHeartbeats 4000000 in
set_option maxRecDepth 100000 in
/-- is n an exponent -/
theorem k_isExM (l : Launch) (n : Nat) (hn : n < 2 ^ 32) : Met l y_M_isExponent (Cond.code y_M_isExponent c_M_isExponent 1 (some .boolean) :: zT) ({ frames := 1, cells := 0, slots := 0, locals := 40 }) (fun v _ => v = ([.int (nI n)] : List Value).toArray) (QcRead (zb (ex n))) 0 0 (fun _ => False) := by
  refine Met.ofW (cc := c_M_isExponent) (maxL := 1) (ret := (some .boolean)) (by decide) rfl ?_
  intro p e s m args below meth c s₁ B hml hv
  subst hv
  have hx := B.exec
  have hb := B.bytes
  have hr := B.returns
  have hts0 := atoms_spec (ws := Cond.code y_M_isExponent c_M_isExponent 1 (some .boolean) :: zT) B.pre
  have hts := fun w h => hts0 w (List.mem_cons_of_mem _ h)
  have hown : s.vm.findClass R_M = some m.cls := findClass_of_methodNamed B.named
  have hlocks := B.notSynchronized
  have hl := lv_entry ([.int (nI n)]) (n := 1) (Nat.le_of_ble_eq_true rfl)
  rw [lg_entry_eq]
  generalize (lg_sl ([.int (nI n)]) ++ List.replicate (1 - (lg_sl ([.int (nI n)])).length) Slot.unset).toArray = ls at hl ⊢
  have hl : lv_has ls 1 [(0, .int (nI n))] := hl
  refine lv_iload_n hx hb d_M_isExponent_0 rfl (lv_at hl 0 rfl) ?_
  refine lv_if_lt (tgt := 15) hx hb d_M_isExponent_1 rfl (fun h1 => ?_) (fun h1 => ?_)
  · skip
    have hq := ex_f1 hn h1
    refine lv_iconst (v := 0) hx hb d_M_isExponent_15 rfl ?_
    refine zz_as (y := zb (ex n)) (by rw [hq]; rfl) ?_
    exact W.zret hx hb hr (zb_nar _) (fun t ht hW => ⟨rfl, ht⟩) (fun q h => absurd h List.not_mem_nil) d_M_isExponent_16
  · skip
    refine lv_iload_n hx hb d_M_isExponent_4 rfl (lv_at hl 0 rfl) ?_
    refine lv_sipush (v := 5003) hx hb d_M_isExponent_5 rfl ?_
    refine lv_icmp_ge (tgt := 15) hx hb d_M_isExponent_8 rfl (fun h8 => ?_) (fun h8 => ?_)
    · skip
      have hq := ex_f2 hn h8
      refine lv_iconst (v := 0) hx hb d_M_isExponent_15 rfl ?_
      refine zz_as (y := zb (ex n)) (by rw [hq]; rfl) ?_
      exact W.zret hx hb hr (zb_nar _) (fun t ht hW => ⟨rfl, ht⟩) (fun q h => absurd h List.not_mem_nil) d_M_isExponent_16
    · skip
      have hq := ex_t hn h1 h8
      refine lv_iconst (v := 1) hx hb d_M_isExponent_11 rfl ?_
      refine lv_goto (tgt := 16) hx hb d_M_isExponent_12 rfl ?_
      refine zz_as (y := zb (ex n)) (by rw [hq]; rfl) ?_
      exact W.zret hx hb hr (zb_nar _) (fun t ht hW => ⟨rfl, ht⟩) (fun q h => absurd h List.not_mem_nil) d_M_isExponent_16

theorem d_M_isBase_0 : decode c_M_isBase 0 = .ok (.iload_n 0, 1) := by decide +kernel
theorem d_M_isBase_1 : decode c_M_isBase 1 = .ok (.iconst 1, 1) := by decide +kernel
theorem d_M_isBase_2 : decode c_M_isBase 2 = .ok (.if_icmp .eq 14, 3) := by decide +kernel
theorem d_M_isBase_5 : decode c_M_isBase 5 = .ok (.iload_n 0, 1) := by decide +kernel
theorem d_M_isBase_6 : decode c_M_isBase 6 = .ok (.invokestatic 100, 3) := by decide +kernel
theorem d_M_isBase_9 : decode c_M_isBase 9 = .ok (.ifCond .eq 7, 3) := by decide +kernel
theorem d_M_isBase_12 : decode c_M_isBase 12 = .ok (.iconst 1, 1) := by decide +kernel
theorem d_M_isBase_13 : decode c_M_isBase 13 = .ok (.goto 4, 3) := by decide +kernel
theorem d_M_isBase_16 : decode c_M_isBase 16 = .ok (.iconst 0, 1) := by decide +kernel
theorem d_M_isBase_17 : decode c_M_isBase 17 = .ok (.ireturn, 1) := by decide +kernel

set_option maxHeartbeats 4000000 in
set_option maxRecDepth 100000 in
/-- is b a base -/
theorem k_isBase (l : Launch) (b : Nat) (hb0 : b < 2 ^ 32) : Met l y_M_isBase (Cond.code y_M_isBase c_M_isBase 1 (some .boolean) :: zT) ({ frames := 4, cells := 0, slots := 0, locals := 160 }) (fun v _ => v = ([.int (nI b)] : List Value).toArray) (QcRead (zb (bs b))) 0 0 (fun _ => False) := by
  refine Met.ofW (cc := c_M_isBase) (maxL := 1) (ret := (some .boolean)) (by decide) rfl ?_
  intro p e s m args below meth c s₁ B hml hv
  subst hv
  have hx := B.exec
  have hb := B.bytes
  have hr := B.returns
  have hts0 := atoms_spec (ws := Cond.code y_M_isBase c_M_isBase 1 (some .boolean) :: zT) B.pre
  have hts := fun w h => hts0 w (List.mem_cons_of_mem _ h)
  have hown : s.vm.findClass R_M = some m.cls := findClass_of_methodNamed B.named
  have hlocks := B.notSynchronized
  have hl := lv_entry ([.int (nI b)]) (n := 1) (Nat.le_of_ble_eq_true rfl)
  rw [lg_entry_eq]
  generalize (lg_sl ([.int (nI b)]) ++ List.replicate (1 - (lg_sl ([.int (nI b)])).length) Slot.unset).toArray = ls at hl ⊢
  have hl : lv_has ls 1 [(0, .int (nI b))] := hl
  refine lv_iload_n hx hb d_M_isBase_0 rfl (lv_at hl 0 rfl) ?_
  refine lv_iconst (v := 1) hx hb d_M_isBase_1 rfl ?_
  refine lv_icmp_eq (tgt := 16) hx hb d_M_isBase_2 rfl (fun h2 => ?_) (fun h2 => ?_)
  · skip
    have hb1 : b = 1 := (zn_inj hb0 (by decide)).mp h2
    have hq : bs b = false := by unfold bs; rw [decide_eq_true hb1]; rfl
    refine lv_iconst (v := 0) hx hb d_M_isBase_16 rfl ?_
    refine zz_as (y := zb (bs b)) (by rw [hq]; rfl) ?_
    exact W.zret hx hb hr (zb_nar _) (fun t ht hW => ⟨rfl, ht⟩) (fun q h => absurd h List.not_mem_nil) d_M_isBase_17
  · skip
    have hb1 : ¬ b = 1 := fun q => h2 (by rw [q]; rfl)
    refine lv_iload_n hx hb d_M_isBase_5 rfl (lv_at hl 0 rfl) ?_
    refine zz_cS (index := 100) (n := 1) (As := [.int (nI b)]) (rest := []) ⟨hx, hb, hml, hown, hts⟩ (k_isElM l b hb0) mk_M_100 ms_M_isElement mi_M mc_M_isElement (by decide +kernel) ⟨rfl, rfl⟩ ⟨by decide, by decide⟩ preEq rfl hl.1 rfl (Nat.le_of_ble_eq_true rfl) d_M_isBase_6 ⟨Nat.zero_le _, Nat.zero_le _⟩ ?_
    refine lv_if_eq (tgt := 16) hx hb d_M_isBase_9 rfl (fun h9 => ?_) (fun h9 => ?_)
    · skip
      have hq : bs b = false := by unfold bs; rw [zb_eq h9, Bool.and_false]
      refine lv_iconst (v := 0) hx hb d_M_isBase_16 rfl ?_
      refine zz_as (y := zb (bs b)) (by rw [hq]; rfl) ?_
      exact W.zret hx hb hr (zb_nar _) (fun t ht hW => ⟨rfl, ht⟩) (fun q h => absurd h List.not_mem_nil) d_M_isBase_17
    · skip
      have hq : bs b = true := by unfold bs; rw [decide_eq_false hb1, zb_ne h9]; rfl
      refine lv_iconst (v := 1) hx hb d_M_isBase_12 rfl ?_
      refine lv_goto (tgt := 17) hx hb d_M_isBase_13 rfl ?_
      refine zz_as (y := zb (bs b)) (by rw [hq]; rfl) ?_
      exact W.zret hx hb hr (zb_nar _) (fun t ht hW => ⟨rfl, ht⟩) (fun q h => absurd h List.not_mem_nil) d_M_isBase_17

theorem d_M_less_0 : decode c_M_less 0 = .ok (.iload_n 0, 1) := by decide +kernel
theorem d_M_less_1 : decode c_M_less 1 = .ok (.iload_n 1, 1) := by decide +kernel
theorem d_M_less_2 : decode c_M_less 2 = .ok (.isub, 1) := by decide +kernel
theorem d_M_less_3 : decode c_M_less 3 = .ok (.sipush 5003, 3) := by decide +kernel
theorem d_M_less_6 : decode c_M_less 6 = .ok (.iadd, 1) := by decide +kernel
theorem d_M_less_7 : decode c_M_less 7 = .ok (.sipush 5003, 3) := by decide +kernel
theorem d_M_less_10 : decode c_M_less 10 = .ok (.irem, 1) := by decide +kernel
theorem d_M_less_11 : decode c_M_less 11 = .ok (.ireturn, 1) := by decide +kernel

set_option maxHeartbeats 4000000 in
set_option maxRecDepth 100000 in
/-- a - b, modulo 5003 -/
theorem k_less (l : Launch) (a b : Nat) (ha : a < 5003) (hb0 : b < 5003) : Met l y_M_less (Cond.code y_M_less c_M_less 2 (some .int) :: zT) ({ frames := 1, cells := 0, slots := 0, locals := 40 }) (fun v _ => v = ([.int (nI a), .int (nI b)] : List Value).toArray) (QcRead (nI (ls5 a b))) 0 0 (fun _ => False) := by
  refine Met.ofW (cc := c_M_less) (maxL := 2) (ret := (some .int)) (by decide) rfl ?_
  intro p e s m args below meth c s₁ B hml hv
  subst hv
  have hx := B.exec
  have hb := B.bytes
  have hr := B.returns
  have hts0 := atoms_spec (ws := Cond.code y_M_less c_M_less 2 (some .int) :: zT) B.pre
  have hts := fun w h => hts0 w (List.mem_cons_of_mem _ h)
  have hown : s.vm.findClass R_M = some m.cls := findClass_of_methodNamed B.named
  have hlocks := B.notSynchronized
  have hl := lv_entry ([.int (nI a), .int (nI b)]) (n := 2) (Nat.le_of_ble_eq_true rfl)
  rw [lg_entry_eq]
  generalize (lg_sl ([.int (nI a), .int (nI b)]) ++ List.replicate (2 - (lg_sl ([.int (nI a), .int (nI b)])).length) Slot.unset).toArray = ls at hl ⊢
  have hl : lv_has ls 2 [(0, .int (nI a)), (1, .int (nI b))] := hl
  refine lv_iload_n hx hb d_M_less_0 rfl (lv_at hl 0 rfl) ?_
  refine lv_iload_n hx hb d_M_less_1 rfl (lv_at hl 1 rfl) ?_
  refine lv_isub hx hb d_M_less_2 ?_
  refine lv_sipush (v := 5003) hx hb d_M_less_3 rfl ?_
  refine lv_iadd hx hb d_M_less_6 ?_
  refine zz_as (y := nI (a + 5003 - b)) (zn_sub5 (by omega)) ?_
  refine lv_sipush (v := 5003) hx hb d_M_less_7 rfl ?_
  refine lv_irem hx hb d_M_less_10 (by decide) ?_
  refine zz_as (y := nI (ls5 a b)) (pk_rem (d := 5003) (by omega) (by decide) (by decide)) ?_
  exact W.iret hx hb hr (fun t ht hW => ⟨rfl, ht⟩) (fun q h => absurd h List.not_mem_nil) d_M_less_11

theorem d_M_inverse_0 : decode c_M_inverse 0 = .ok (.iconst 1, 1) := by decide +kernel
theorem d_M_inverse_1 : decode c_M_inverse 1 = .ok (.istore_n 1, 1) := by decide +kernel
theorem d_M_inverse_2 : decode c_M_inverse 2 = .ok (.iconst 0, 1) := by decide +kernel
theorem d_M_inverse_3 : decode c_M_inverse 3 = .ok (.istore_n 2, 1) := by decide +kernel
theorem d_M_inverse_4 : decode c_M_inverse 4 = .ok (.iload_n 2, 1) := by decide +kernel
theorem d_M_inverse_5 : decode c_M_inverse 5 = .ok (.sipush 5001, 3) := by decide +kernel
theorem d_M_inverse_8 : decode c_M_inverse 8 = .ok (.if_icmp .ge 18, 3) := by decide +kernel
theorem d_M_inverse_11 : decode c_M_inverse 11 = .ok (.iload_n 1, 1) := by decide +kernel
theorem d_M_inverse_12 : decode c_M_inverse 12 = .ok (.iload_n 0, 1) := by decide +kernel
theorem d_M_inverse_13 : decode c_M_inverse 13 = .ok (.sipush 5003, 3) := by decide +kernel
theorem d_M_inverse_16 : decode c_M_inverse 16 = .ok (.invokestatic 92, 3) := by decide +kernel
theorem d_M_inverse_19 : decode c_M_inverse 19 = .ok (.istore_n 1, 1) := by decide +kernel
theorem d_M_inverse_20 : decode c_M_inverse 20 = .ok (.iinc 2 1, 3) := by decide +kernel
theorem d_M_inverse_23 : decode c_M_inverse 23 = .ok (.goto (-19), 3) := by decide +kernel
theorem d_M_inverse_26 : decode c_M_inverse 26 = .ok (.iload_n 1, 1) := by decide +kernel
theorem d_M_inverse_27 : decode c_M_inverse 27 = .ok (.ireturn, 1) := by decide +kernel

section MI
variable {p : Program} {l : Launch} {e : Env} {R : Room} {s : State} {m : MethodId} {args : Array Value} {below : List Frame} {meth : Method} {c : Code} {H H0 : Heap} {locs : List Loc} {cells slots : Nat} {Q : State → Prop} {A : Nat → Prop}
set_option maxHeartbeats 4000000 in
set_option maxRecDepth 100000 in
theorem inverse_loop (hx : p.tables.exec = Jvm.exec) (hb : c.code = c_M_inverse) (hml : c.maxLocals = 3) (hown : s.vm.findClass R_M = some m.cls) (hts : ∀ w ∈ zT, w.before args s = true) (hRf : 2 ≤ R.frames) (hRl : 80 ≤ R.locals) (hc : cells ≤ R.cells) (hsl : slots ≤ R.slots) {d : Nat} (hd : d < 5003) (kk : ∀ ls : Array Slot, lv_has ls 3 [(1, .int (nI (d ^ 5001 % 5003)))] → W p l e R s m args below meth c H locs cells slots Q (F0 m 26 ls [])) : ∀ (j i : Nat), i + j = 5001 → ∀ ls : Array Slot, lv_has ls 3 [(2, .int (nI i)), (1, .int (nI (d ^ i % 5003))), (0, .int (nI d))] → W p l e R s m args below meth c H locs cells slots Q (F0 m 4 ls []) := by
  intro j
  induction j with
  | zero =>
    intro i hi ls hl
    obtain rfl : i = 5001 := by omega
    refine lv_iload_n hx hb d_M_inverse_4 rfl (lv_at hl 0 rfl) ?_
    refine lv_sipush (v := 5001) hx hb d_M_inverse_5 rfl ?_
    refine lv_icmp_ge (tgt := 26) hx hb d_M_inverse_8 rfl (fun h8 => ?_) (fun h8 => absurd (by decide) h8)
    have hl := lv_sub (l' := [(1, .int (nI (d ^ 5001 % 5003)))]) hl [1] rfl
    exact kk ls hl
  | succ j ih =>
    intro i hi ls hl
    have hx0 : d ^ i % 5003 < 5003 := Nat.mod_lt _ (by decide)
    refine lv_iload_n hx hb d_M_inverse_4 rfl (lv_at hl 0 rfl) ?_
    refine lv_sipush (v := 5001) hx hb d_M_inverse_5 rfl ?_
    refine lv_icmp_ge (tgt := 26) hx hb d_M_inverse_8 rfl (fun h8 => absurd h8 (nI_ge (b := 5001) (by omega) (by decide))) (fun h8 => ?_)
    refine lv_iload_n hx hb d_M_inverse_11 rfl (lv_at hl 1 rfl) ?_
    refine lv_iload_n hx hb d_M_inverse_12 rfl (lv_at hl 2 rfl) ?_
    refine lv_sipush (v := 5003) hx hb d_M_inverse_13 rfl ?_
    refine zz_cS (index := 92) (n := 3) (As := [.int (nI (d ^ i % 5003)), .int (nI d), .int 5003]) (rest := []) ⟨hx, hb, hml, hown, hts⟩ (k_times l (d ^ i % 5003) d 5003 (by omega) (by omega) (by decide) (by decide)) mk_M_92 ms_M_times mi_M mc_M_times (by decide +kernel) ⟨rfl, rfl⟩ ⟨hRf, Nat.le_trans (by decide) hRl⟩ preEq rfl hl.1 rfl (Nat.le_of_ble_eq_true rfl) d_M_inverse_16 ⟨hc, hsl⟩ ?_
    refine zz_as (y := nI (d ^ (i + 1) % 5003)) (congrArg nI (zp_mul ..)) ?_
    refine lv_istore_n (lv' := [(1, .int (nI (d ^ (i + 1) % 5003))), (2, .int (nI i)), (0, .int (nI d))]) hx hb d_M_inverse_19 rfl hl (by decide) rfl (fun ls hl => ?_)
    refine lv_iinc (k := 1) (v := (nI i) + 1) (lv' := [(2, .int ((nI i) + 1)), (1, .int (nI (d ^ (i + 1) % 5003))), (0, .int (nI d))]) hx hb d_M_inverse_20 hl rfl rfl (by decide) rfl (fun ls hl => ?_)
    rw [nI_1] at hl
    refine lv_goto (tgt := 4) hx hb d_M_inverse_23 rfl ?_
    have hl := lv_sub (l' := [(2, .int (nI (i + 1))), (1, .int (nI (d ^ (i + 1) % 5003))), (0, .int (nI d))]) hl [0, 1, 2] rfl
    exact ih (i + 1) (by omega) ls hl
end MI

set_option maxHeartbeats 4000000 in
set_option maxRecDepth 100000 in
/-- d to the 5001, modulo 5003 -/
theorem k_inverse (l : Launch) (d : Nat) (hd : d < 5003) : Met l y_M_inverse (Cond.code y_M_inverse c_M_inverse 3 (some .int) :: zT) ({ frames := 2, cells := 0, slots := 0, locals := 80 }) (fun v _ => v = ([.int (nI d)] : List Value).toArray) (QcRead (nI (d ^ 5001 % 5003))) 0 0 (fun _ => False) := by
  refine Met.ofW (cc := c_M_inverse) (maxL := 3) (ret := (some .int)) (by decide) rfl ?_
  intro p e s m args below meth c s₁ B hml hv
  subst hv
  have hx := B.exec
  have hb := B.bytes
  have hr := B.returns
  have hts0 := atoms_spec (ws := Cond.code y_M_inverse c_M_inverse 3 (some .int) :: zT) B.pre
  have hts := fun w h => hts0 w (List.mem_cons_of_mem _ h)
  have hown : s.vm.findClass R_M = some m.cls := findClass_of_methodNamed B.named
  have hlocks := B.notSynchronized
  have hl := lv_entry ([.int (nI d)]) (n := 3) (Nat.le_of_ble_eq_true rfl)
  rw [lg_entry_eq]
  generalize (lg_sl ([.int (nI d)]) ++ List.replicate (3 - (lg_sl ([.int (nI d)])).length) Slot.unset).toArray = ls at hl ⊢
  have hl : lv_has ls 3 [(0, .int (nI d))] := hl
  refine lv_iconst (v := 1) hx hb d_M_inverse_0 rfl ?_
  refine lv_istore_n (lv' := [(1, .int 1), (0, .int (nI d))]) hx hb d_M_inverse_1 rfl hl (by decide) rfl (fun ls hl => ?_)
  refine lv_iconst (v := 0) hx hb d_M_inverse_2 rfl ?_
  refine lv_istore_n (lv' := [(2, .int 0), (1, .int 1), (0, .int (nI d))]) hx hb d_M_inverse_3 rfl hl (by decide) rfl (fun ls hl => ?_)
  have hl : lv_has ls 3 [(2, .int (nI 0)), (1, .int (nI (d ^ 0 % 5003))), (0, .int (nI d))] := hl
  refine inverse_loop hx hb hml hown hts (by decide) (by decide) (Nat.zero_le _) (Nat.zero_le _) hd (fun ls hl => ?_) 5001 0 rfl ls hl
  refine lv_iload_n hx hb d_M_inverse_26 rfl (lv_at hl 0 rfl) ?_
  exact W.iret hx hb hr (fun t ht hW => ⟨rfl, ht⟩) (fun q h => absurd h List.not_mem_nil) d_M_inverse_27
