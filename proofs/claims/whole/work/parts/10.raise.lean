theorem d_D_raise_0 : decode c_D_raise 0 = .ok (.iconst 1, 1) := by decide +kernel
theorem d_D_raise_1 : decode c_D_raise 1 = .ok (.istore_n 3, 1) := by decide +kernel
theorem d_D_raise_2 : decode c_D_raise 2 = .ok (.bipush 12, 2) := by decide +kernel
theorem d_D_raise_4 : decode c_D_raise 4 = .ok (.istore 4, 2) := by decide +kernel
theorem d_D_raise_6 : decode c_D_raise 6 = .ok (.iload 4, 2) := by decide +kernel
theorem d_D_raise_8 : decode c_D_raise 8 = .ok (.ifCond .lt 31, 3) := by decide +kernel
theorem d_D_raise_11 : decode c_D_raise 11 = .ok (.iload_n 3, 1) := by decide +kernel
theorem d_D_raise_12 : decode c_D_raise 12 = .ok (.iload_n 3, 1) := by decide +kernel
theorem d_D_raise_13 : decode c_D_raise 13 = .ok (.imul, 1) := by decide +kernel
theorem d_D_raise_14 : decode c_D_raise 14 = .ok (.iload_n 2, 1) := by decide +kernel
theorem d_D_raise_15 : decode c_D_raise 15 = .ok (.irem, 1) := by decide +kernel
theorem d_D_raise_16 : decode c_D_raise 16 = .ok (.istore_n 3, 1) := by decide +kernel
theorem d_D_raise_17 : decode c_D_raise 17 = .ok (.iload_n 1, 1) := by decide +kernel
theorem d_D_raise_18 : decode c_D_raise 18 = .ok (.iload 4, 2) := by decide +kernel
theorem d_D_raise_20 : decode c_D_raise 20 = .ok (.ishr, 1) := by decide +kernel
theorem d_D_raise_21 : decode c_D_raise 21 = .ok (.iconst 1, 1) := by decide +kernel
theorem d_D_raise_22 : decode c_D_raise 22 = .ok (.iand, 1) := by decide +kernel
theorem d_D_raise_23 : decode c_D_raise 23 = .ok (.iconst 1, 1) := by decide +kernel
theorem d_D_raise_24 : decode c_D_raise 24 = .ok (.if_icmp .ne 9, 3) := by decide +kernel
theorem d_D_raise_27 : decode c_D_raise 27 = .ok (.iload_n 3, 1) := by decide +kernel
theorem d_D_raise_28 : decode c_D_raise 28 = .ok (.iload_n 0, 1) := by decide +kernel
theorem d_D_raise_29 : decode c_D_raise 29 = .ok (.imul, 1) := by decide +kernel
theorem d_D_raise_30 : decode c_D_raise 30 = .ok (.iload_n 2, 1) := by decide +kernel
theorem d_D_raise_31 : decode c_D_raise 31 = .ok (.irem, 1) := by decide +kernel
theorem d_D_raise_32 : decode c_D_raise 32 = .ok (.istore_n 3, 1) := by decide +kernel
theorem d_D_raise_33 : decode c_D_raise 33 = .ok (.iinc 4 (-1), 3) := by decide +kernel
theorem d_D_raise_36 : decode c_D_raise 36 = .ok (.goto (-30), 3) := by decide +kernel
theorem d_D_raise_39 : decode c_D_raise 39 = .ok (.iload_n 3, 1) := by decide +kernel
theorem d_D_raise_40 : decode c_D_raise 40 = .ok (.ireturn, 1) := by decide +kernel

section DR
variable {p : Program} {l : Launch} {e : Env} {R : Room} {s : State} {m : MethodId} {args : Array Value} {below : List Frame} {meth : Method} {c : Code} {H H0 : Heap} {locs : List Loc} {cells slots : Nat} {Q : State → Prop} {A : Nat → Prop}
set_option maxHeartbeats 4000000 in
set_option maxRecDepth 100000 in
theorem raise_loop (hx : p.tables.exec = Jvm.exec) (hb : c.code = c_D_raise) {b e0 m0 : Nat} (hb0 : b < m0) (hm1 : 1 < m0) (hm : m0 ≤ 10007) (he0 : e0 < 8192) (kk : ∀ ls : Array Slot, lv_has ls 5 [(3, .int (nI (b ^ e0 % m0)))] → W p l e R s m args below meth c H locs cells slots Q (F0 m 39 ls [])) : ∀ (j : Nat), j ≤ 13 → ∀ ls : Array Slot, lv_has ls 5 [(4, .int (nI j - 1)), (3, .int (nI (b ^ (e0 / 2 ^ j) % m0))), (0, .int (nI b)), (1, .int (nI e0)), (2, .int (nI m0))] → W p l e R s m args below meth c H locs cells slots Q (F0 m 6 ls []) := by
  intro j
  induction j with
  | zero =>
    intro _ ls hl
    refine lv_iload hx hb d_D_raise_6 (lv_at hl 0 rfl) ?_
    refine lv_if_lt (tgt := 39) hx hb d_D_raise_8 rfl (fun h8 => ?_) (fun h8 => absurd (by decide) h8)
    have hl := lv_sub (l' := [(3, .int (nI (b ^ (e0 / 2 ^ 0) % m0)))]) hl [1] rfl
    rw [Nat.pow_zero, Nat.div_one] at hl
    exact kk ls hl
  | succ j ih =>
    intro hj ls hl
    rw [nI_pred] at hl
    have hm0 : 0 < m0 := by omega
    have hx0 : b ^ (e0 / 2 ^ (j + 1)) % m0 < m0 := Nat.mod_lt _ hm0
    refine lv_iload hx hb d_D_raise_6 (lv_at hl 0 rfl) ?_
    refine lv_if_lt (tgt := 39) hx hb d_D_raise_8 rfl (fun h8 => absurd h8 (nI_pos (by omega))) (fun h8 => ?_)
    refine lv_iload_n hx hb d_D_raise_11 rfl (lv_at hl 1 rfl) ?_
    refine lv_iload_n hx hb d_D_raise_12 rfl (lv_at hl 1 rfl) ?_
    refine lv_imul hx hb d_D_raise_13 ?_
    refine lv_iload_n hx hb d_D_raise_14 rfl (lv_at hl 4 rfl) ?_
    refine lv_irem hx hb d_D_raise_15 (nI_ne0 hm0 (by omega)) ?_
    refine zz_as (y := nI (b ^ (2 * (e0 / 2 ^ (j + 1))) % m0)) ((zn_mulrem (zn_prod hx0 hx0 hm) hm0 (by omega)).trans (congrArg nI (zp_sq ..))) ?_
    refine lv_istore_n (lv' := [(3, .int (nI (b ^ (2 * (e0 / 2 ^ (j + 1))) % m0))), (4, .int (nI j)), (0, .int (nI b)), (1, .int (nI e0)), (2, .int (nI m0))]) hx hb d_D_raise_16 rfl hl (by decide) rfl (fun ls hl => ?_)
    refine lv_iload_n hx hb d_D_raise_17 rfl (lv_at hl 3 rfl) ?_
    refine lv_iload hx hb d_D_raise_18 (lv_at hl 1 rfl) ?_
    refine lv_ishr hx hb d_D_raise_20 ?_
    refine lv_iconst (v := 1) hx hb d_D_raise_21 rfl ?_
    refine lv_iand hx hb d_D_raise_22 ?_
    refine zz_as (y := nI (e0 / 2 ^ j % 2)) (zn_bit he0 (by omega)) ?_
    refine lv_iconst (v := 1) hx hb d_D_raise_23 rfl ?_
    refine lv_icmp_ne (tgt := 33) hx hb d_D_raise_24 rfl (fun h24 => ?_) (fun h24 => ?_)
    · skip
      have hbit : e0 / 2 ^ j % 2 = 0 := by
        rcases Nat.mod_two_eq_zero_or_one (e0 / 2 ^ j) with q | q
        · exact q
        · exact absurd (show nI (e0 / 2 ^ j % 2) = 1 by rw [q]; rfl) h24
      rw [zp_bit0 hbit] at hl
      refine lv_iinc (k := 1) (v := (nI j) + (-1)) (lv' := [(4, .int ((nI j) + (-1))), (3, .int (nI (b ^ (e0 / 2 ^ j) % m0))), (0, .int (nI b)), (1, .int (nI e0)), (2, .int (nI m0))]) hx hb d_D_raise_33 hl rfl rfl (by decide) rfl (fun ls hl => ?_)
      rw [zn_dec] at hl
      refine lv_goto (tgt := 6) hx hb d_D_raise_36 rfl ?_
      have hl := lv_sub (l' := [(4, .int (nI j - 1)), (3, .int (nI (b ^ (e0 / 2 ^ j) % m0))), (0, .int (nI b)), (1, .int (nI e0)), (2, .int (nI m0))]) hl [0, 1, 2, 3, 4] rfl
      exact ih (by omega) ls hl
    · skip
      have hbit : e0 / 2 ^ j % 2 = 1 := by
        rcases Nat.mod_two_eq_zero_or_one (e0 / 2 ^ j) with q | q
        · rw [q] at h24; exact absurd h24 (by decide)
        · exact q
      refine lv_iload_n hx hb d_D_raise_27 rfl (lv_at hl 0 rfl) ?_
      refine lv_iload_n hx hb d_D_raise_28 rfl (lv_at hl 2 rfl) ?_
      refine lv_imul hx hb d_D_raise_29 ?_
      refine lv_iload_n hx hb d_D_raise_30 rfl (lv_at hl 4 rfl) ?_
      refine lv_irem hx hb d_D_raise_31 (nI_ne0 hm0 (by omega)) ?_
      refine zz_as (y := nI (b ^ (2 * (e0 / 2 ^ (j + 1)) + 1) % m0)) ((zn_mulrem (zn_prod (Nat.mod_lt _ hm0) hb0 hm) hm0 (by omega)).trans (congrArg nI (zp_mul ..))) ?_
      refine lv_istore_n (lv' := [(3, .int (nI (b ^ (2 * (e0 / 2 ^ (j + 1)) + 1) % m0))), (4, .int (nI j)), (0, .int (nI b)), (1, .int (nI e0)), (2, .int (nI m0))]) hx hb d_D_raise_32 rfl hl (by decide) rfl (fun ls hl => ?_)
      rw [zp_bit1 hbit] at hl
      refine lv_iinc (k := 1) (v := (nI j) + (-1)) (lv' := [(4, .int ((nI j) + (-1))), (3, .int (nI (b ^ (e0 / 2 ^ j) % m0))), (0, .int (nI b)), (1, .int (nI e0)), (2, .int (nI m0))]) hx hb d_D_raise_33 hl rfl rfl (by decide) rfl (fun ls hl => ?_)
      rw [zn_dec] at hl
      refine lv_goto (tgt := 6) hx hb d_D_raise_36 rfl ?_
      have hl := lv_sub (l' := [(4, .int (nI j - 1)), (3, .int (nI (b ^ (e0 / 2 ^ j) % m0))), (0, .int (nI b)), (1, .int (nI e0)), (2, .int (nI m0))]) hl [0, 1, 2, 3, 4] rfl
      exact ih (by omega) ls hl
end DR

set_option maxHeartbeats 4000000 in
set_option maxRecDepth 100000 in
/-- raise(b, e, m) is b to the e, modulo m -/
theorem k_raise (l : Launch) (b e0 m0 : Nat) (hb0 : b < m0) (hm1 : 1 < m0) (hm : m0 ≤ 10007) (he0 : e0 < 8192) : Met l y_D_raise (Cond.code y_D_raise c_D_raise 5 (some .int) :: zT) ({ frames := 1, cells := 0, slots := 0, locals := 40 }) (fun v _ => v = ([.int (nI b), .int (nI e0), .int (nI m0)] : List Value).toArray) (QcRead (nI (b ^ e0 % m0))) 0 0 (fun _ => False) := by
  refine Met.ofW (cc := c_D_raise) (maxL := 5) (ret := (some .int)) (by decide) rfl ?_
  intro p e s m args below meth c s₁ B hml hv
  subst hv
  have hx := B.exec
  have hb := B.bytes
  have hr := B.returns
  have hts0 := atoms_spec (ws := Cond.code y_D_raise c_D_raise 5 (some .int) :: zT) B.pre
  have hts := fun w h => hts0 w (List.mem_cons_of_mem _ h)
  have hown : s.vm.findClass R_D = some m.cls := findClass_of_methodNamed B.named
  have hlocks := B.notSynchronized
  have hl := lv_entry ([.int (nI b), .int (nI e0), .int (nI m0)]) (n := 5) (Nat.le_of_ble_eq_true rfl)
  rw [lg_entry_eq]
  generalize (lg_sl ([.int (nI b), .int (nI e0), .int (nI m0)]) ++ List.replicate (5 - (lg_sl ([.int (nI b), .int (nI e0), .int (nI m0)])).length) Slot.unset).toArray = ls at hl ⊢
  have hl : lv_has ls 5 [(0, .int (nI b)), (1, .int (nI e0)), (2, .int (nI m0))] := hl
  refine lv_iconst (v := 1) hx hb d_D_raise_0 rfl ?_
  refine lv_istore_n (lv' := [(3, .int 1), (0, .int (nI b)), (1, .int (nI e0)), (2, .int (nI m0))]) hx hb d_D_raise_1 rfl hl (by decide) rfl (fun ls hl => ?_)
  refine lv_bipush (v := 12) hx hb d_D_raise_2 rfl ?_
  refine lv_istore (lv' := [(4, .int 12), (3, .int 1), (0, .int (nI b)), (1, .int (nI e0)), (2, .int (nI m0))]) hx hb d_D_raise_4 hl (by decide) rfl (fun ls hl => ?_)
  have hl : lv_has ls 5 [(4, .int 12), (3, .int 1), (0, .int (nI b)), (1, .int (nI e0)), (2, .int (nI m0))] := hl
  have e1 : (1 : Int32) = nI (b ^ (e0 / 2 ^ 13) % m0) := by rw [Nat.div_eq_of_lt (by omega), Nat.pow_zero, Nat.mod_eq_of_lt hm1]; rfl
  have e2 : (12 : Int32) = nI 13 - 1 := by decide
  rw [e1, e2] at hl
  refine raise_loop hx hb hb0 hm1 hm he0 (fun ls hl => ?_) 13 (Nat.le_refl _) ls hl
  refine lv_iload_n hx hb d_D_raise_39 rfl (lv_at hl 0 rfl) ?_
  exact W.iret hx hb hr (fun t ht hW => ⟨rfl, ht⟩) (fun q h => absurd h List.not_mem_nil) d_D_raise_40
