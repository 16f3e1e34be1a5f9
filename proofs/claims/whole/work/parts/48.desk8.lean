/-! the desk: its small methods -/
abbrev skC (ca : Nat → ClassId) (sk : Nat → Option Nat) : va_E := .inl (ca 2, 6, .inr (.inr (.inr (.inr sk))))
abbrev dkC (ad : Nat → Nat) (tv : Value) (sc : Nat → Nat) : va_E := .inr (0, [.ref (ad 1), .int (nI (sc 0)), tv, .ref (ad 2), .int (nI (sc 1)), .ref (ad 3), .ref (ad 4), .ref (ad 6), .int (nI (sc 2)), .int (nI (sc 3))])
def trV (ad : Nat → Nat) (tt : Nat → Nat → Nat) (N : Nat) : Value := if N = 0 then .null else .ref (ad (tt 3 (N - 1)))
theorem trV_0 {ad : Nat → Nat} {tt : Nat → Nat → Nat} {N : Nat} (h : N = 0) : trV ad tt N = .null := if_pos h
theorem trV_s {ad : Nat → Nat} {tt : Nat → Nat → Nat} {N : Nat} (h : ¬ N = 0) : trV ad tt N = .ref (ad (tt 3 (N - 1))) := if_neg h
/-- the desk's cells: 0 itself, 1 its stack, 2 its row of leaves, 3 the drawing, 4 5 the present transcript, 6 7 the kept one; sc: height, leafCount, isKept, canRespond; ln i: the node of leaf i -/
def dS (ca : Nat → ClassId) (ad : Nat → Nat) (tt bb ee : Nat → Nat → Nat) (N : Nat) (dd : Nat → Nat → Nat) (sc : Nat → Nat) (sk rw : Nat → Option Nat) (fk ln : Nat → Nat) (ct : Nat → va_E) : Prop := ct 0 = dkC ad (trV ad tt N) sc ∧ ct 1 = skC ca sk ∧ ct 2 = rwC ca rw ∧ ct 6 = .inr (5, [.ref (ad 7)]) ∧ ct 7 = .inl (ca 0, 32, .inl (zf fk)) ∧ tW ca ad tt bb ee 4 5 3 N dd ct ∧ (∀ i, i < sc 1 → ln i < N ∧ tt 0 (ln i) = 0 ∧ dd 0 (ln i) = i ∧ rw i = some (ad (tt 3 (ln i)))) ∧ sc 1 ≤ 8
theorem zz_getN {p : Program} {l : Launch} {e : Env} {R : Room} {s : State} {m : MethodId} {args : Array Value} {below : List Frame} {meth : Method} {c : Code} {H : Heap} {locs : List Loc} {cells slots pc n : Nat} {ls : Array Slot} {rest : List Value} {cc : ByteArray} {Q : State → Prop} {D : va_G} {cl : List vw_C} {tys : List (ClassId × FieldType)} {ad : Nat → Nat} {ct : Nat → va_E} (hexec : p.tables.exec = Jvm.exec) (hb : c.code = cc) {own ref C host : String} {T : u_T} {N ci index : Nat} {Ts : List Cond} (hts : ∀ w ∈ Ts, w.before args s = true) (hin : ∀ w ∈ u_ws C T N, w ∈ Ts) (hown : s.vm.findClass own = some m.cls) (hK : va_K D cl tys s) (hP : va_P D cl (zl n ad ct) H) {j : Nat} (hj : j < n) {fs : List Value} (he : ct j = .inr (ci, fs)) (hc : cl[ci]? = some (C, T, N)) (k : Nat) (hk : k < N) (hlink : (Cond.fieldLinkNest own index ref (T k).2.1 (T k).2.2.1 host).before args s = true) (hsame : ∀ x, s.fieldFound? (T k).1 (T k).2.1 (T k).2.2.1 = some x → s.fieldFound? ref (T k).2.1 (T k).2.2.1 = some x) {v : Value} (hv : fs[k]? = some v) (hdg : decode cc pc = .ok (.getfield index, 3))
    (kk : W p l e R s m args below meth c H locs cells slots Q (F0 m (pc + 3) ls (v :: rest))) : W p l e R s m args below meth c H locs cells slots Q (F0 m pc ls (.ref (ad j) :: rest)) :=
  va_getN hexec hb hts hin hown hK hP j ((zl_get hj).trans (by rw [he])) hc k hk hlink hsame hv hdg kk

theorem d_D_isFull_0 : decode c_D_isFull 0 = .ok (.aload_n 0, 1) := by decide +kernel
theorem d_D_isFull_1 : decode c_D_isFull 1 = .ok (.getfield 15, 3) := by decide +kernel
theorem d_D_isFull_4 : decode c_D_isFull 4 = .ok (.bipush 6, 2) := by decide +kernel
theorem d_D_isFull_6 : decode c_D_isFull 6 = .ok (.if_icmp .lt 7, 3) := by decide +kernel
theorem d_D_isFull_9 : decode c_D_isFull 9 = .ok (.iconst 1, 1) := by decide +kernel
theorem d_D_isFull_10 : decode c_D_isFull 10 = .ok (.goto 4, 3) := by decide +kernel
theorem d_D_isFull_13 : decode c_D_isFull 13 = .ok (.iconst 0, 1) := by decide +kernel
theorem d_D_isFull_14 : decode c_D_isFull 14 = .ok (.ireturn, 1) := by decide +kernel

set_option maxHeartbeats 4000000 in
set_option maxRecDepth 100000 in
/-- isFull() -/
theorem k_isFull (l : Launch) (D : va_G) (ca : Nat → ClassId) (n : Nat) (ad : Nat → Nat) (ct : Nat → va_E) (tv : Value) (sc : Nat → Nat) (hn0 : 8 ≤ n) (c0 : ct 0 = dkC ad tv sc) (hsc : sc 0 ≤ 6) : Met l y_D_isFull (Cond.code y_D_isFull c_D_isFull 1 (some .boolean) :: zT) ({ frames := 1, cells := 0, slots := 0, locals := 40 }) (va_Pc [.ref (ad 0)] (dw D ca n ad ct)) (QcRead (zb (decide (6 ≤ sc 0)))) 0 0 (fun _ => False) := by
  refine Met.ofW (cc := c_D_isFull) (maxL := 1) (ret := (some .boolean)) (by decide) rfl ?_
  intro p e s m args below meth c s₁ B hml hv
  obtain ⟨rfl, hN, hK, hP⟩ := hv
  have hx := B.exec
  have hb := B.bytes
  have hr := B.returns
  have hts0 := atoms_spec (ws := Cond.code y_D_isFull c_D_isFull 1 (some .boolean) :: zT) B.pre
  have hts := fun w h => hts0 w (List.mem_cons_of_mem _ h)
  have hown : s.vm.findClass R_D = some m.cls := findClass_of_methodNamed B.named
  have hlocks := B.notSynchronized
  have hl := lv_entry ([.ref (ad 0)]) (n := 1) (Nat.le_of_ble_eq_true rfl)
  rw [lg_entry_eq]
  generalize (lg_sl ([.ref (ad 0)]) ++ List.replicate (1 - (lg_sl ([.ref (ad 0)])).length) Slot.unset).toArray = ls at hl ⊢
  have hl : lv_has ls 1 [(0, .ref (ad 0))] := hl
  refine lv_aload_n hx hb d_D_isFull_0 rfl (lv_at hl 0 rfl) ?_
  refine zz_get (j := 0) (ci := 0) (C := R_D) (T := T_D) (N := 10) hx hb hts in_D hown hK hP (by omega) c0 rfl 1 (by decide) (hts _ mf_D_15) (fun _ h => h) (v := .int (nI (sc 0))) rfl d_D_isFull_1 ?_
  refine lv_bipush (v := 6) hx hb d_D_isFull_4 rfl ?_
  refine lv_icmp_lt (tgt := 13) hx hb d_D_isFull_6 rfl (fun h6 => ?_) (fun h6 => ?_)
  · skip
    have hq : decide (6 ≤ sc 0) = false := decide_eq_false (by have := (nI_ltI (b := 6) (by omega) (by decide)).mp h6; omega)
    refine lv_iconst (v := 0) hx hb d_D_isFull_13 rfl ?_
    refine zz_as (y := zb (decide (6 ≤ sc 0))) (by rw [hq]; rfl) ?_
    exact W.zret hx hb hr (zb_nar _) (fun t ht hW => ⟨rfl, ht⟩) (fun q h => absurd h List.not_mem_nil) d_D_isFull_14
  · skip
    have hq : decide (6 ≤ sc 0) = true := decide_eq_true (by have := mt (nI_ltI (a := sc 0) (b := 6) (by omega) (by decide)).mpr h6; omega)
    refine lv_iconst (v := 1) hx hb d_D_isFull_9 rfl ?_
    refine lv_goto (tgt := 14) hx hb d_D_isFull_10 rfl ?_
    refine zz_as (y := zb (decide (6 ≤ sc 0))) (by rw [hq]; rfl) ?_
    exact W.zret hx hb hr (zb_nar _) (fun t ht hW => ⟨rfl, ht⟩) (fun q h => absurd h List.not_mem_nil) d_D_isFull_14

theorem d_D_isLeaf_0 : decode c_D_isLeaf 0 = .ok (.iload_n 1, 1) := by decide +kernel
theorem d_D_isLeaf_1 : decode c_D_isLeaf 1 = .ok (.ifCond .lt 15, 3) := by decide +kernel
theorem d_D_isLeaf_4 : decode c_D_isLeaf 4 = .ok (.iload_n 1, 1) := by decide +kernel
theorem d_D_isLeaf_5 : decode c_D_isLeaf 5 = .ok (.aload_n 0, 1) := by decide +kernel
theorem d_D_isLeaf_6 : decode c_D_isLeaf 6 = .ok (.getfield 29, 3) := by decide +kernel
theorem d_D_isLeaf_9 : decode c_D_isLeaf 9 = .ok (.if_icmp .ge 7, 3) := by decide +kernel
theorem d_D_isLeaf_12 : decode c_D_isLeaf 12 = .ok (.iconst 1, 1) := by decide +kernel
theorem d_D_isLeaf_13 : decode c_D_isLeaf 13 = .ok (.goto 4, 3) := by decide +kernel
theorem d_D_isLeaf_16 : decode c_D_isLeaf 16 = .ok (.iconst 0, 1) := by decide +kernel
theorem d_D_isLeaf_17 : decode c_D_isLeaf 17 = .ok (.ireturn, 1) := by decide +kernel

set_option maxHeartbeats 4000000 in
set_option maxRecDepth 100000 in
/-- isLeaf(w) -/
theorem k_isLeafD (l : Launch) (D : va_G) (ca : Nat → ClassId) (n : Nat) (ad : Nat → Nat) (ct : Nat → va_E) (tv : Value) (sc : Nat → Nat) (hn0 : 8 ≤ n) (c0 : ct 0 = dkC ad tv sc) (w : Nat) (hw : w < 2 ^ 32) (hl2 : sc 1 ≤ 8) : Met l y_D_isLeaf (Cond.code y_D_isLeaf c_D_isLeaf 2 (some .boolean) :: zT) ({ frames := 1, cells := 0, slots := 0, locals := 40 }) (va_Pc [.ref (ad 0), .int (nI w)] (dw D ca n ad ct)) (QcRead (zb (decide (w < sc 1)))) 0 0 (fun _ => False) := by
  refine Met.ofW (cc := c_D_isLeaf) (maxL := 2) (ret := (some .boolean)) (by decide) rfl ?_
  intro p e s m args below meth c s₁ B hml hv
  obtain ⟨rfl, hN, hK, hP⟩ := hv
  have hx := B.exec
  have hb := B.bytes
  have hr := B.returns
  have hts0 := atoms_spec (ws := Cond.code y_D_isLeaf c_D_isLeaf 2 (some .boolean) :: zT) B.pre
  have hts := fun w h => hts0 w (List.mem_cons_of_mem _ h)
  have hown : s.vm.findClass R_D = some m.cls := findClass_of_methodNamed B.named
  have hlocks := B.notSynchronized
  have hl := lv_entry ([.ref (ad 0), .int (nI w)]) (n := 2) (Nat.le_of_ble_eq_true rfl)
  rw [lg_entry_eq]
  generalize (lg_sl ([.ref (ad 0), .int (nI w)]) ++ List.replicate (2 - (lg_sl ([.ref (ad 0), .int (nI w)])).length) Slot.unset).toArray = ls at hl ⊢
  have hl : lv_has ls 2 [(0, .ref (ad 0)), (1, .int (nI w))] := hl
  refine lv_iload_n hx hb d_D_isLeaf_0 rfl (lv_at hl 1 rfl) ?_
  refine lv_if_lt (tgt := 16) hx hb d_D_isLeaf_1 rfl (fun h1 => ?_) (fun h1 => ?_)
  · skip
    have hq : (decide (w < sc 1)) = false := decide_eq_false (by have := (zn_lt0 hw).mp h1; omega)
    refine lv_iconst (v := 0) hx hb d_D_isLeaf_16 rfl ?_
    refine zz_as (y := zb (decide (w < sc 1))) (by rw [hq]; rfl) ?_
    exact W.zret hx hb hr (zb_nar _) (fun t ht hW => ⟨rfl, ht⟩) (fun q h => absurd h List.not_mem_nil) d_D_isLeaf_17
  · skip
    refine lv_iload_n hx hb d_D_isLeaf_4 rfl (lv_at hl 1 rfl) ?_
    refine lv_aload_n hx hb d_D_isLeaf_5 rfl (lv_at hl 0 rfl) ?_
    refine zz_get (j := 0) (ci := 0) (C := R_D) (T := T_D) (N := 10) hx hb hts in_D hown hK hP (by omega) c0 rfl 4 (by decide) (hts _ mf_D_29) (fun _ h => h) (v := .int (nI (sc 1))) rfl d_D_isLeaf_6 ?_
    refine lv_icmp_ge (tgt := 16) hx hb d_D_isLeaf_9 rfl (fun h9 => ?_) (fun h9 => ?_)
    · skip
      have hq : (decide (w < sc 1)) = false := decide_eq_false (by have := (zn_le (b := sc 1) hw (by omega)).mp h9; omega)
      refine lv_iconst (v := 0) hx hb d_D_isLeaf_16 rfl ?_
      refine zz_as (y := zb (decide (w < sc 1))) (by rw [hq]; rfl) ?_
      exact W.zret hx hb hr (zb_nar _) (fun t ht hW => ⟨rfl, ht⟩) (fun q h => absurd h List.not_mem_nil) d_D_isLeaf_17
    · skip
      have hq : (decide (w < sc 1)) = true := decide_eq_true (by have a := mt (zn_lt0 hw).mpr h1; have b := mt (zn_le (b := sc 1) hw (by omega)).mpr h9; omega)
      refine lv_iconst (v := 1) hx hb d_D_isLeaf_12 rfl ?_
      refine lv_goto (tgt := 17) hx hb d_D_isLeaf_13 rfl ?_
      refine zz_as (y := zb (decide (w < sc 1))) (by rw [hq]; rfl) ?_
      exact W.zret hx hb hr (zb_nar _) (fun t ht hW => ⟨rfl, ht⟩) (fun q h => absurd h List.not_mem_nil) d_D_isLeaf_17

theorem d_D_push_0 : decode c_D_push 0 = .ok (.aload_n 0, 1) := by decide +kernel
theorem d_D_push_1 : decode c_D_push 1 = .ok (.getfield 11, 3) := by decide +kernel
theorem d_D_push_4 : decode c_D_push 4 = .ok (.aload_n 0, 1) := by decide +kernel
theorem d_D_push_5 : decode c_D_push 5 = .ok (.getfield 15, 3) := by decide +kernel
theorem d_D_push_8 : decode c_D_push 8 = .ok (.aload_n 1, 1) := by decide +kernel
theorem d_D_push_9 : decode c_D_push 9 = .ok (.aastore, 1) := by decide +kernel
theorem d_D_push_10 : decode c_D_push 10 = .ok (.aload_n 0, 1) := by decide +kernel
theorem d_D_push_11 : decode c_D_push 11 = .ok (.dup, 1) := by decide +kernel
theorem d_D_push_12 : decode c_D_push 12 = .ok (.getfield 15, 3) := by decide +kernel
theorem d_D_push_15 : decode c_D_push 15 = .ok (.iconst 1, 1) := by decide +kernel
theorem d_D_push_16 : decode c_D_push 16 = .ok (.iadd, 1) := by decide +kernel
theorem d_D_push_17 : decode c_D_push 17 = .ok (.putfield 15, 3) := by decide +kernel
theorem d_D_push_20 : decode c_D_push 20 = .ok (.return_, 1) := by decide +kernel

set_option maxHeartbeats 4000000 in
set_option maxRecDepth 100000 in
/-- push(q) -/
theorem k_push (l : Launch) (D : va_G) (ca : Nat → ClassId) (n : Nat) (ad : Nat → Nat) (ct : Nat → va_E) (hI : dI n ad) (tv : Value) (sc : Nat → Nat) (hn0 : 8 ≤ n) (c0 : ct 0 = dkC ad tv sc) (sk : Nat → Option Nat) (c1 : ct 1 = skC ca sk) (q ci : Nat) (vs : List Value) (hq : q < n) (cq : ct q = .inr (ci, vs)) (hci : ci = 4 ∨ ci = 2 ∨ ci = 3) (hsc : sc 0 < 6) : Met l y_D_push (Cond.code y_D_push c_D_push 2 none :: zT) ({ frames := 1, cells := 0, slots := 0, locals := 40 }) (va_Pc [.ref (ad 0), .ref (ad q)] (dw D ca n ad ct)) (va_Qv (fun ct1 => ct1 = va_up (va_up ct 1 (skC ca (va_up sk (sc 0) (some (ad q))))) 0 (.inr (0, [.ref (ad 1), .int (nI (sc 0 + 1)), tv, .ref (ad 2), .int (nI (sc 1)), .ref (ad 3), .ref (ad 4), .ref (ad 6), .int (nI (sc 2)), .int (nI (sc 3))]))) (dw D ca n ad) (dA n ad)) 0 0 (dA n ad) := by
  refine Met.ofW (cc := c_D_push) (maxL := 2) (ret := none) (by decide) rfl ?_
  intro p e s m args below meth c s₁ B hml hv
  obtain ⟨rfl, hN, hK, hP⟩ := hv
  have hx := B.exec
  have hb := B.bytes
  have hr := B.returns
  have hts0 := atoms_spec (ws := Cond.code y_D_push c_D_push 2 none :: zT) B.pre
  have hts := fun w h => hts0 w (List.mem_cons_of_mem _ h)
  have hown : s.vm.findClass R_D = some m.cls := findClass_of_methodNamed B.named
  have hlocks := B.notSynchronized
  have hD := dI_D hI
  have hS : va_S (dA n ad) s.heap s.heap [] := va_S.rf
  have hAA : ∀ q, dA n ad q → dA n ad q := fun _ h => h
  have hl := lv_entry ([.ref (ad 0), .ref (ad q)]) (n := 2) (Nat.le_of_ble_eq_true rfl)
  rw [lg_entry_eq]
  generalize (lg_sl ([.ref (ad 0), .ref (ad q)]) ++ List.replicate (2 - (lg_sl ([.ref (ad 0), .ref (ad q)])).length) Slot.unset).toArray = ls at hl ⊢
  have hl : lv_has ls 2 [(0, .ref (ad 0)), (1, .ref (ad q))] := hl
  refine lv_aload_n hx hb d_D_push_0 rfl (lv_at hl 0 rfl) ?_
  refine zz_get (j := 0) (ci := 0) (C := R_D) (T := T_D) (N := 10) hx hb hts in_D hown hK hP (by omega) c0 rfl 0 (by decide) (hts _ mf_D_11) (fun _ h => h) (v := .ref (ad 1)) rfl d_D_push_1 ?_
  refine lv_aload_n hx hb d_D_push_4 rfl (lv_at hl 0 rfl) ?_
  refine zz_get (j := 0) (ci := 0) (C := R_D) (T := T_D) (N := 10) hx hb hts in_D hown hK hP (by omega) c0 rfl 1 (by decide) (hts _ mf_D_15) (fun _ h => h) (v := .int (nI (sc 0))) rfl d_D_push_5 ?_
  refine lv_aload_n hx hb d_D_push_8 rfl (lv_at hl 1 rfl) ?_
  refine dd_aastS hx hb hN hK hP hD hS (j := 1) (q := q) (by omega) hq c1 cq hci (sc 0) rfl (by omega) (by decide) d_D_push_9 (fun H locs hP hS => ?_)
  have hP : va_P D zC (zl n ad (va_up ct 1 (.inl (ca 2, 6, .inr (.inr (.inr (.inr (va_up sk (sc 0) (some (ad q)))))))))) H := hP
  obtain ⟨ct1, hct1⟩ : ∃ c, c = va_up ct 1 (.inl (ca 2, 6, .inr (.inr (.inr (.inr (va_up sk (sc 0) (some (ad q)))))))) := ⟨_, rfl⟩
  rw [← hct1] at hP
  have c0 : ct1 0 = .inr (0, [.ref (ad 1), .int (nI (sc 0)), tv, .ref (ad 2), .int (nI (sc 1)), .ref (ad 3), .ref (ad 4), .ref (ad 6), .int (nI (sc 2)), .int (nI (sc 3))]) := by rw [hct1]; exact (va_up_ne _ _ (fun q => absurd ((c0.symm.trans (congrArg ct q)).trans c1) (by simp))).trans c0
  have c1 : ct1 1 = .inl (ca 2, 6, .inr (.inr (.inr (.inr (va_up sk (sc 0) (some (ad q))))))) := by rw [hct1]; exact va_up_self _ _ _
  refine lv_aload_n hx hb d_D_push_10 rfl (lv_at hl 0 rfl) ?_
  refine lv_dup hx hb d_D_push_11 rfl ?_
  refine zz_get (j := 0) (ci := 0) (C := R_D) (T := T_D) (N := 10) hx hb hts in_D hown hK hP (by omega) c0 rfl 1 (by decide) (hts _ mf_D_15) (fun _ h => h) (v := .int (nI (sc 0))) rfl d_D_push_12 ?_
  refine lv_iconst (v := 1) hx hb d_D_push_15 rfl ?_
  refine lv_iadd hx hb d_D_push_16 ?_
  refine zz_as (y := nI ((sc 0) + 1)) (nI_add (sc 0) 1) ?_
  refine zz_put (j := 0) (ci := 0) (C := R_D) (T := T_D) (N := 10) (v := .int (nI ((sc 0) + 1))) (ty := ft_D 1) hx hb hts in_D ft_D ft_D_ok fn_D hown hK hP hD hS (by omega) c0 rfl 1 (by decide) (hts _ mf_D_15) (fun _ h => h) rfl (ft_D_ok 1 (by decide)) rfl rfl (Nat.le_of_ble_eq_true rfl) d_D_push_17 (fun H locs hP hS => ?_)
  have hP : va_P D zC (zl n ad (va_up ct1 0 (.inr (0, [.ref (ad 1), .int (nI ((sc 0) + 1)), tv, .ref (ad 2), .int (nI (sc 1)), .ref (ad 3), .ref (ad 4), .ref (ad 6), .int (nI (sc 2)), .int (nI (sc 3))])))) H := hP
  obtain ⟨ct2, hct2⟩ : ∃ c, c = va_up ct1 0 (.inr (0, [.ref (ad 1), .int (nI ((sc 0) + 1)), tv, .ref (ad 2), .int (nI (sc 1)), .ref (ad 3), .ref (ad 4), .ref (ad 6), .int (nI (sc 2)), .int (nI (sc 3))])) := ⟨_, rfl⟩
  rw [← hct2] at hP
  have c1 : ct2 1 = .inl (ca 2, 6, .inr (.inr (.inr (.inr (va_up sk (sc 0) (some (ad q))))))) := by rw [hct2]; exact (va_up_ne _ _ (fun q => absurd ((c1.symm.trans (congrArg ct1 q)).trans c0) (by simp))).trans c1
  have c0 : ct2 0 = .inr (0, [.ref (ad 1), .int (nI ((sc 0) + 1)), tv, .ref (ad 2), .int (nI (sc 1)), .ref (ad 3), .ref (ad 4), .ref (ad 6), .int (nI (sc 2)), .int (nI (sc 3))]) := by rw [hct2]; exact va_up_self _ _ _
  exact W.vret hx hb hr (fun t ht hW => ⟨⟨ct2, rfl, by rw [hct2, hct1], zN_warm hW hN, va_K.moved hW.alike hK, by rw [ht]; exact hP⟩, hS.F ht⟩) hS.2.2 d_D_push_20

theorem d_D_drop_0 : decode c_D_drop 0 = .ok (.aload_n 0, 1) := by decide +kernel
theorem d_D_drop_1 : decode c_D_drop 1 = .ok (.dup, 1) := by decide +kernel
theorem d_D_drop_2 : decode c_D_drop 2 = .ok (.getfield 15, 3) := by decide +kernel
theorem d_D_drop_5 : decode c_D_drop 5 = .ok (.iconst 1, 1) := by decide +kernel
theorem d_D_drop_6 : decode c_D_drop 6 = .ok (.isub, 1) := by decide +kernel
theorem d_D_drop_7 : decode c_D_drop 7 = .ok (.putfield 15, 3) := by decide +kernel
theorem d_D_drop_10 : decode c_D_drop 10 = .ok (.aload_n 0, 1) := by decide +kernel
theorem d_D_drop_11 : decode c_D_drop 11 = .ok (.getfield 11, 3) := by decide +kernel
theorem d_D_drop_14 : decode c_D_drop 14 = .ok (.aload_n 0, 1) := by decide +kernel
theorem d_D_drop_15 : decode c_D_drop 15 = .ok (.getfield 15, 3) := by decide +kernel
theorem d_D_drop_18 : decode c_D_drop 18 = .ok (.aconst_null, 1) := by decide +kernel
theorem d_D_drop_19 : decode c_D_drop 19 = .ok (.aastore, 1) := by decide +kernel
theorem d_D_drop_20 : decode c_D_drop 20 = .ok (.return_, 1) := by decide +kernel

set_option maxHeartbeats 4000000 in
set_option maxRecDepth 100000 in
/-- drop() -/
theorem k_drop (l : Launch) (D : va_G) (ca : Nat → ClassId) (n : Nat) (ad : Nat → Nat) (ct : Nat → va_E) (hI : dI n ad) (tv : Value) (sc : Nat → Nat) (hn0 : 8 ≤ n) (c0 : ct 0 = dkC ad tv sc) (sk : Nat → Option Nat) (c1 : ct 1 = skC ca sk) (hs1 : 1 ≤ sc 0) (hsc : sc 0 ≤ 6) : Met l y_D_drop (Cond.code y_D_drop c_D_drop 1 none :: zT) ({ frames := 1, cells := 0, slots := 0, locals := 40 }) (va_Pc [.ref (ad 0)] (dw D ca n ad ct)) (va_Qv (fun ct1 => ct1 = va_up (va_up ct 0 (.inr (0, [.ref (ad 1), .int (nI (sc 0 - 1)), tv, .ref (ad 2), .int (nI (sc 1)), .ref (ad 3), .ref (ad 4), .ref (ad 6), .int (nI (sc 2)), .int (nI (sc 3))]))) 1 (skC ca (va_up sk (sc 0 - 1) none))) (dw D ca n ad) (dA n ad)) 0 0 (dA n ad) := by
  refine Met.ofW (cc := c_D_drop) (maxL := 1) (ret := none) (by decide) rfl ?_
  intro p e s m args below meth c s₁ B hml hv
  obtain ⟨rfl, hN, hK, hP⟩ := hv
  have hx := B.exec
  have hb := B.bytes
  have hr := B.returns
  have hts0 := atoms_spec (ws := Cond.code y_D_drop c_D_drop 1 none :: zT) B.pre
  have hts := fun w h => hts0 w (List.mem_cons_of_mem _ h)
  have hown : s.vm.findClass R_D = some m.cls := findClass_of_methodNamed B.named
  have hlocks := B.notSynchronized
  have hD := dI_D hI
  have hS : va_S (dA n ad) s.heap s.heap [] := va_S.rf
  have hAA : ∀ q, dA n ad q → dA n ad q := fun _ h => h
  have hl := lv_entry ([.ref (ad 0)]) (n := 1) (Nat.le_of_ble_eq_true rfl)
  rw [lg_entry_eq]
  generalize (lg_sl ([.ref (ad 0)]) ++ List.replicate (1 - (lg_sl ([.ref (ad 0)])).length) Slot.unset).toArray = ls at hl ⊢
  have hl : lv_has ls 1 [(0, .ref (ad 0))] := hl
  refine lv_aload_n hx hb d_D_drop_0 rfl (lv_at hl 0 rfl) ?_
  refine lv_dup hx hb d_D_drop_1 rfl ?_
  refine zz_get (j := 0) (ci := 0) (C := R_D) (T := T_D) (N := 10) hx hb hts in_D hown hK hP (by omega) c0 rfl 1 (by decide) (hts _ mf_D_15) (fun _ h => h) (v := .int (nI (sc 0))) rfl d_D_drop_2 ?_
  refine lv_iconst (v := 1) hx hb d_D_drop_5 rfl ?_
  refine lv_isub hx hb d_D_drop_6 ?_
  refine zz_as (y := nI ((sc 0) - 1)) (pk_sub (a := sc 0) (b := 1) (by omega)) ?_
  refine zz_put (j := 0) (ci := 0) (C := R_D) (T := T_D) (N := 10) (v := .int (nI ((sc 0) - 1))) (ty := ft_D 1) hx hb hts in_D ft_D ft_D_ok fn_D hown hK hP hD hS (by omega) c0 rfl 1 (by decide) (hts _ mf_D_15) (fun _ h => h) rfl (ft_D_ok 1 (by decide)) rfl rfl (Nat.le_of_ble_eq_true rfl) d_D_drop_7 (fun H locs hP hS => ?_)
  have hP : va_P D zC (zl n ad (va_up ct 0 (.inr (0, [.ref (ad 1), .int (nI ((sc 0) - 1)), tv, .ref (ad 2), .int (nI (sc 1)), .ref (ad 3), .ref (ad 4), .ref (ad 6), .int (nI (sc 2)), .int (nI (sc 3))])))) H := hP
  obtain ⟨ct1, hct1⟩ : ∃ c, c = va_up ct 0 (.inr (0, [.ref (ad 1), .int (nI ((sc 0) - 1)), tv, .ref (ad 2), .int (nI (sc 1)), .ref (ad 3), .ref (ad 4), .ref (ad 6), .int (nI (sc 2)), .int (nI (sc 3))])) := ⟨_, rfl⟩
  rw [← hct1] at hP
  have c1 : ct1 1 = .inl (ca 2, 6, .inr (.inr (.inr (.inr sk)))) := by rw [hct1]; exact (va_up_ne _ _ (fun q => absurd ((c1.symm.trans (congrArg ct q)).trans c0) (by simp))).trans c1
  have c0 : ct1 0 = .inr (0, [.ref (ad 1), .int (nI ((sc 0) - 1)), tv, .ref (ad 2), .int (nI (sc 1)), .ref (ad 3), .ref (ad 4), .ref (ad 6), .int (nI (sc 2)), .int (nI (sc 3))]) := by rw [hct1]; exact va_up_self _ _ _
  refine lv_aload_n hx hb d_D_drop_10 rfl (lv_at hl 0 rfl) ?_
  refine zz_get (j := 0) (ci := 0) (C := R_D) (T := T_D) (N := 10) hx hb hts in_D hown hK hP (by omega) c0 rfl 0 (by decide) (hts _ mf_D_11) (fun _ h => h) (v := .ref (ad 1)) rfl d_D_drop_11 ?_
  refine lv_aload_n hx hb d_D_drop_14 rfl (lv_at hl 0 rfl) ?_
  refine zz_get (j := 0) (ci := 0) (C := R_D) (T := T_D) (N := 10) hx hb hts in_D hown hK hP (by omega) c0 rfl 1 (by decide) (hts _ mf_D_15) (fun _ h => h) (v := .int (nI ((sc 0) - 1))) rfl d_D_drop_15 ?_
  refine lv_null hx hb d_D_drop_18 ?_
  refine dd_aastN hx hb hK hP hD hS (j := 1) (by omega) c1 (sc 0 - 1) rfl (by omega) (by decide) d_D_drop_19 (fun H locs hP hS => ?_)
  have hP : va_P D zC (zl n ad (va_up ct1 1 (.inl (ca 2, 6, .inr (.inr (.inr (.inr (va_up sk (sc 0 - 1) none)))))))) H := hP
  obtain ⟨ct2, hct2⟩ : ∃ c, c = va_up ct1 1 (.inl (ca 2, 6, .inr (.inr (.inr (.inr (va_up sk (sc 0 - 1) none)))))) := ⟨_, rfl⟩
  rw [← hct2] at hP
  have c0 : ct2 0 = .inr (0, [.ref (ad 1), .int (nI ((sc 0) - 1)), tv, .ref (ad 2), .int (nI (sc 1)), .ref (ad 3), .ref (ad 4), .ref (ad 6), .int (nI (sc 2)), .int (nI (sc 3))]) := by rw [hct2]; exact (va_up_ne _ _ (fun q => absurd ((c0.symm.trans (congrArg ct1 q)).trans c1) (by simp))).trans c0
  have c1 : ct2 1 = .inl (ca 2, 6, .inr (.inr (.inr (.inr (va_up sk (sc 0 - 1) none))))) := by rw [hct2]; exact va_up_self _ _ _
  exact W.vret hx hb hr (fun t ht hW => ⟨⟨ct2, rfl, by rw [hct2, hct1], zN_warm hW hN, va_K.moved hW.alike hK, by rw [ht]; exact hP⟩, hS.F ht⟩) hS.2.2 d_D_drop_20

theorem d_D_discard_0 : decode c_D_discard 0 = .ok (.aload_n 0, 1) := by decide +kernel
theorem d_D_discard_1 : decode c_D_discard 1 = .ok (.getfield 15, 3) := by decide +kernel
theorem d_D_discard_4 : decode c_D_discard 4 = .ok (.ifCond .ne 5, 3) := by decide +kernel
theorem d_D_discard_7 : decode c_D_discard 7 = .ok (.iconst 0, 1) := by decide +kernel
theorem d_D_discard_8 : decode c_D_discard 8 = .ok (.ireturn, 1) := by decide +kernel
theorem d_D_discard_9 : decode c_D_discard 9 = .ok (.aload_n 0, 1) := by decide +kernel
theorem d_D_discard_10 : decode c_D_discard 10 = .ok (.invokevirtual 85, 3) := by decide +kernel
theorem d_D_discard_13 : decode c_D_discard 13 = .ok (.iconst 1, 1) := by decide +kernel
theorem d_D_discard_14 : decode c_D_discard 14 = .ok (.ireturn, 1) := by decide +kernel

set_option maxHeartbeats 4000000 in
set_option maxRecDepth 100000 in
/-- discard() -/
theorem k_discardD (l : Launch) (D : va_G) (ca : Nat → ClassId) (n : Nat) (ad : Nat → Nat) (ct : Nat → va_E) (hI : dI n ad) (tv : Value) (sc : Nat → Nat) (hn0 : 8 ≤ n) (c0 : ct 0 = dkC ad tv sc) (sk : Nat → Option Nat) (c1 : ct 1 = skC ca sk) (hsc : sc 0 ≤ 6) : Met l y_D_discard (Cond.code y_D_discard c_D_discard 1 (some .boolean) :: zT) ({ frames := 2, cells := 0, slots := 0, locals := 80 }) (va_Pc [.ref (ad 0)] (dw D ca n ad ct)) (va_Qi (fun r ct1 => r = zb (decide (0 < sc 0)) ∧ ct1 = if decide (0 < sc 0) then va_up (va_up ct 0 (.inr (0, [.ref (ad 1), .int (nI (sc 0 - 1)), tv, .ref (ad 2), .int (nI (sc 1)), .ref (ad 3), .ref (ad 4), .ref (ad 6), .int (nI (sc 2)), .int (nI (sc 3))]))) 1 (skC ca (va_up sk (sc 0 - 1) none)) else ct) (dw D ca n ad) (dA n ad)) 0 0 (dA n ad) := by
  refine Met.ofW (cc := c_D_discard) (maxL := 1) (ret := (some .boolean)) (by decide) rfl ?_
  intro p e s m args below meth c s₁ B hml hv
  obtain ⟨rfl, hN, hK, hP⟩ := hv
  have hx := B.exec
  have hb := B.bytes
  have hr := B.returns
  have hts0 := atoms_spec (ws := Cond.code y_D_discard c_D_discard 1 (some .boolean) :: zT) B.pre
  have hts := fun w h => hts0 w (List.mem_cons_of_mem _ h)
  have hown : s.vm.findClass R_D = some m.cls := findClass_of_methodNamed B.named
  have hlocks := B.notSynchronized
  have hD := dI_D hI
  have hS : va_S (dA n ad) s.heap s.heap [] := va_S.rf
  have hAA : ∀ q, dA n ad q → dA n ad q := fun _ h => h
  have hl := lv_entry ([.ref (ad 0)]) (n := 1) (Nat.le_of_ble_eq_true rfl)
  rw [lg_entry_eq]
  generalize (lg_sl ([.ref (ad 0)]) ++ List.replicate (1 - (lg_sl ([.ref (ad 0)])).length) Slot.unset).toArray = ls at hl ⊢
  have hl : lv_has ls 1 [(0, .ref (ad 0))] := hl
  refine lv_aload_n hx hb d_D_discard_0 rfl (lv_at hl 0 rfl) ?_
  refine zz_get (j := 0) (ci := 0) (C := R_D) (T := T_D) (N := 10) hx hb hts in_D hown hK hP (by omega) c0 rfl 1 (by decide) (hts _ mf_D_15) (fun _ h => h) (v := .int (nI (sc 0))) rfl d_D_discard_1 ?_
  refine lv_if_ne (tgt := 9) hx hb d_D_discard_4 rfl (fun h4 => ?_) (fun h4 => ?_)
  · skip
    have z : ¬ sc 0 = 0 := fun q => h4 (by rw [q]; rfl)
    have hq : decide (0 < sc 0) = true := decide_eq_true (by omega)
    refine lv_aload_n hx hb d_D_discard_9 rfl (lv_at hl 0 rfl) ?_
    refine dd_cv (index := 85) (k := 0) (As := []) (rest := []) ⟨hx, hb, hml, hown, hts⟩ (k_drop l D ca n ad ct hI tv sc hn0 c0 sk c1 (by omega) hsc) mk_D_85 mo_D_drop me_D_D_drop_D mi_D mc_D_drop (by decide +kernel) ⟨rfl, rfl⟩ ⟨by decide, by decide⟩ (dd_pre hN hK hP (j := 0) (by omega) c0 (r := (R_D, T_D, 10)) rfl) hS hAA rfl hl.1 rfl (Nat.le_of_ble_eq_true rfl) d_D_discard_10 ⟨Nat.zero_le _, Nat.zero_le _⟩ (fun ct1 H locs hct1 hP hS => ?_)
    refine lv_iconst (v := 1) hx hb d_D_discard_13 rfl ?_
    exact W.zret hx hb hr (rfl) (fun t ht hW => ⟨⟨_, ct1, rfl, ⟨by rw [hq]; rfl, by rw [hq, if_pos rfl]; exact hct1⟩, zN_warm hW hN, va_K.moved hW.alike hK, by rw [ht]; exact hP⟩, hS.F ht⟩) hS.2.2 d_D_discard_14
  · skip
    have z : sc 0 = 0 := (zn_inj (by omega) (by decide)).mp h4
    have hq : decide (0 < sc 0) = false := decide_eq_false (by omega)
    refine lv_iconst (v := 0) hx hb d_D_discard_7 rfl ?_
    exact W.zret hx hb hr (rfl) (fun t ht hW => ⟨⟨_, ct, rfl, ⟨by rw [hq]; rfl, by rw [hq]; rfl⟩, zN_warm hW hN, va_K.moved hW.alike hK, by rw [ht]; exact hP⟩, hS.F ht⟩) hS.2.2 d_D_discard_8

theorem d_D_power_0 : decode c_D_power 0 = .ok (.iload_n 1, 1) := by decide +kernel
theorem d_D_power_1 : decode c_D_power 1 = .ok (.invokestatic 56, 3) := by decide +kernel
theorem d_D_power_4 : decode c_D_power 4 = .ok (.ifCond .eq 10, 3) := by decide +kernel
theorem d_D_power_7 : decode c_D_power 7 = .ok (.iload_n 2, 1) := by decide +kernel
theorem d_D_power_8 : decode c_D_power 8 = .ok (.invokestatic 60, 3) := by decide +kernel
theorem d_D_power_11 : decode c_D_power 11 = .ok (.ifCond .ne 5, 3) := by decide +kernel
theorem d_D_power_14 : decode c_D_power 14 = .ok (.iconst (-1), 1) := by decide +kernel
theorem d_D_power_15 : decode c_D_power 15 = .ok (.ireturn, 1) := by decide +kernel
theorem d_D_power_16 : decode c_D_power 16 = .ok (.iload_n 1, 1) := by decide +kernel
theorem d_D_power_17 : decode c_D_power 17 = .ok (.iload_n 2, 1) := by decide +kernel
theorem d_D_power_18 : decode c_D_power 18 = .ok (.sipush 10007, 3) := by decide +kernel
theorem d_D_power_21 : decode c_D_power 21 = .ok (.invokestatic 63, 3) := by decide +kernel
theorem d_D_power_24 : decode c_D_power 24 = .ok (.ireturn, 1) := by decide +kernel

set_option maxHeartbeats 4000000 in
set_option maxRecDepth 100000 in
/-- power(b, e) -/
theorem k_powerD (l : Launch) (D : va_G) (ca : Nat → ClassId) (n : Nat) (ad : Nat → Nat) (ct : Nat → va_E) (tv : Value) (sc : Nat → Nat) (hn0 : 8 ≤ n) (c0 : ct 0 = dkC ad tv sc) (b e0 : Nat) (hb0 : b < 2 ^ 32) (he0 : e0 < 2 ^ 32) : Met l y_D_power (Cond.code y_D_power c_D_power 3 (some .int) :: zT) ({ frames := 3, cells := 0, slots := 0, locals := 120 }) (va_Pc [.ref (ad 0), .int (nI b), .int (nI e0)] (dw D ca n ad ct)) (QcRead (if el b && ex e0 then nI (b ^ e0 % 10007) else -1)) 0 0 (fun _ => False) := by
  refine Met.ofW (cc := c_D_power) (maxL := 3) (ret := (some .int)) (by decide) rfl ?_
  intro p e s m args below meth c s₁ B hml hv
  obtain ⟨rfl, hN, hK, hP⟩ := hv
  have hx := B.exec
  have hb := B.bytes
  have hr := B.returns
  have hts0 := atoms_spec (ws := Cond.code y_D_power c_D_power 3 (some .int) :: zT) B.pre
  have hts := fun w h => hts0 w (List.mem_cons_of_mem _ h)
  have hown : s.vm.findClass R_D = some m.cls := findClass_of_methodNamed B.named
  have hlocks := B.notSynchronized
  have hl := lv_entry ([.ref (ad 0), .int (nI b), .int (nI e0)]) (n := 3) (Nat.le_of_ble_eq_true rfl)
  rw [lg_entry_eq]
  generalize (lg_sl ([.ref (ad 0), .int (nI b), .int (nI e0)]) ++ List.replicate (3 - (lg_sl ([.ref (ad 0), .int (nI b), .int (nI e0)])).length) Slot.unset).toArray = ls at hl ⊢
  have hl : lv_has ls 3 [(0, .ref (ad 0)), (1, .int (nI b)), (2, .int (nI e0))] := hl
  refine lv_iload_n hx hb d_D_power_0 rfl (lv_at hl 1 rfl) ?_
  refine zz_cS (index := 56) (n := 1) (As := [.int (nI b)]) (rest := []) ⟨hx, hb, hml, hown, hts⟩ (k_isElD l b hb0) mk_D_56 ms_D_isElement mi_D mc_D_isElement (by decide +kernel) ⟨rfl, rfl⟩ ⟨by decide, by decide⟩ preEq rfl hl.1 rfl (Nat.le_of_ble_eq_true rfl) d_D_power_1 ⟨Nat.zero_le _, Nat.zero_le _⟩ ?_
  refine lv_if_eq (tgt := 14) hx hb d_D_power_4 rfl (fun h4 => ?_) (fun h4 => ?_)
  · skip
    have hq : (el b && ex e0) = false := by rw [zb_eq h4]; rfl
    refine lv_iconst (v := (-1)) hx hb d_D_power_14 rfl ?_
    refine zz_as (y := if el b && ex e0 then nI (b ^ e0 % 10007) else -1) (by rw [hq]; rfl) ?_
    exact W.iret hx hb hr (fun t ht hW => ⟨rfl, ht⟩) (fun q h => absurd h List.not_mem_nil) d_D_power_15
  · skip
    refine lv_iload_n hx hb d_D_power_7 rfl (lv_at hl 2 rfl) ?_
    refine zz_cS (index := 60) (n := 1) (As := [.int (nI e0)]) (rest := []) ⟨hx, hb, hml, hown, hts⟩ (k_isExD l e0 he0) mk_D_60 ms_D_isExponent mi_D mc_D_isExponent (by decide +kernel) ⟨rfl, rfl⟩ ⟨by decide, by decide⟩ preEq rfl hl.1 rfl (Nat.le_of_ble_eq_true rfl) d_D_power_8 ⟨Nat.zero_le _, Nat.zero_le _⟩ ?_
    refine lv_if_ne (tgt := 16) hx hb d_D_power_11 rfl (fun h11 => ?_) (fun h11 => ?_)
    · skip
      have hq : (el b && ex e0) = true := by rw [zb_ne h4, zb_ne h11]; rfl
      have hr0 := (el_is (zb_ne h4)).2.1
      have hr1 := ex_is (zb_ne h11)
      refine lv_iload_n hx hb d_D_power_16 rfl (lv_at hl 1 rfl) ?_
      refine lv_iload_n hx hb d_D_power_17 rfl (lv_at hl 2 rfl) ?_
      refine lv_sipush (v := 10007) hx hb d_D_power_18 rfl ?_
      refine zz_cS (index := 63) (n := 3) (As := [.int (nI b), .int (nI e0), .int 10007]) (rest := []) ⟨hx, hb, hml, hown, hts⟩ (k_raise l b e0 10007 hr0 (by decide) (by decide) (by omega)) mk_D_63 ms_D_raise mi_D mc_D_raise (by decide +kernel) ⟨rfl, rfl⟩ ⟨by decide, by decide⟩ preEq rfl hl.1 rfl (Nat.le_of_ble_eq_true rfl) d_D_power_21 ⟨Nat.zero_le _, Nat.zero_le _⟩ ?_
      refine zz_as (y := if el b && ex e0 then nI (b ^ e0 % 10007) else -1) (by rw [hq]; rfl) ?_
      exact W.iret hx hb hr (fun t ht hW => ⟨rfl, ht⟩) (fun q h => absurd h List.not_mem_nil) d_D_power_24
    · skip
      have hq : (el b && ex e0) = false := by rw [zb_eq h11, Bool.and_false]
      refine lv_iconst (v := (-1)) hx hb d_D_power_14 rfl ?_
      refine zz_as (y := if el b && ex e0 then nI (b ^ e0 % 10007) else -1) (by rw [hq]; rfl) ?_
      exact W.iret hx hb hr (fun t ht hW => ⟨rfl, ht⟩) (fun q h => absurd h List.not_mem_nil) d_D_power_15

theorem d_D_tell_0 : decode c_D_tell 0 = .ok (.aload_n 0, 1) := by decide +kernel
theorem d_D_tell_1 : decode c_D_tell 1 = .ok (.iload_n 1, 1) := by decide +kernel
theorem d_D_tell_2 : decode c_D_tell 2 = .ok (.invokevirtual 103, 3) := by decide +kernel
theorem d_D_tell_5 : decode c_D_tell 5 = .ok (.ifCond .eq 23, 3) := by decide +kernel
theorem d_D_tell_8 : decode c_D_tell 8 = .ok (.iload_n 2, 1) := by decide +kernel
theorem d_D_tell_9 : decode c_D_tell 9 = .ok (.invokestatic 60, 3) := by decide +kernel
theorem d_D_tell_12 : decode c_D_tell 12 = .ok (.ifCond .eq 16, 3) := by decide +kernel
theorem d_D_tell_15 : decode c_D_tell 15 = .ok (.aload_n 0, 1) := by decide +kernel
theorem d_D_tell_16 : decode c_D_tell 16 = .ok (.getfield 25, 3) := by decide +kernel
theorem d_D_tell_19 : decode c_D_tell 19 = .ok (.iload_n 1, 1) := by decide +kernel
theorem d_D_tell_20 : decode c_D_tell 20 = .ok (.aaload, 1) := by decide +kernel
theorem d_D_tell_21 : decode c_D_tell 21 = .ok (.iload_n 2, 1) := by decide +kernel
theorem d_D_tell_22 : decode c_D_tell 22 = .ok (.invokevirtual 106, 3) := by decide +kernel
theorem d_D_tell_25 : decode c_D_tell 25 = .ok (.ifCond .ne 5, 3) := by decide +kernel
theorem d_D_tell_28 : decode c_D_tell 28 = .ok (.iconst 0, 1) := by decide +kernel
theorem d_D_tell_29 : decode c_D_tell 29 = .ok (.ireturn, 1) := by decide +kernel
theorem d_D_tell_30 : decode c_D_tell 30 = .ok (.aload_n 0, 1) := by decide +kernel
theorem d_D_tell_31 : decode c_D_tell 31 = .ok (.getfield 25, 3) := by decide +kernel
theorem d_D_tell_34 : decode c_D_tell 34 = .ok (.iload_n 1, 1) := by decide +kernel
theorem d_D_tell_35 : decode c_D_tell 35 = .ok (.aaload, 1) := by decide +kernel
theorem d_D_tell_36 : decode c_D_tell 36 = .ok (.iload_n 2, 1) := by decide +kernel
theorem d_D_tell_37 : decode c_D_tell 37 = .ok (.invokevirtual 109, 3) := by decide +kernel
theorem d_D_tell_40 : decode c_D_tell 40 = .ok (.iconst 1, 1) := by decide +kernel
theorem d_D_tell_41 : decode c_D_tell 41 = .ok (.ireturn, 1) := by decide +kernel

set_option maxHeartbeats 4000000 in
set_option maxRecDepth 100000 in
/-- tell(w, x) -/
theorem k_tellD (l : Launch) (D : va_G) (ca : Nat → ClassId) (n : Nat) (ad : Nat → Nat) (ct : Nat → va_E) (hI : dI n ad) (tt bb ee : Nat → Nat → Nat) (N : Nat) (dd : Nat → Nat → Nat) (sc : Nat → Nat) (sk rw : Nat → Option Nat) (fk ln : Nat → Nat) (hn0 : 8 ≤ n) (hTS : tS n tt bb ee 4 5 3 N) (hd : dS ca ad tt bb ee N dd sc sk rw fk ln ct) (w x : Nat) (hw : w < 2 ^ 32) (hx1 : x < 2 ^ 32) : Met l y_D_tell (Cond.code y_D_tell c_D_tell 3 (some .boolean) :: zT) ({ frames := 3, cells := 0, slots := 0, locals := 120 }) (va_Pc [.ref (ad 0), .int (nI w), .int (nI x)] (dw D ca n ad ct)) (va_Qi (fun r ct1 => r = zb (decide (w < sc 1) && (ex x && fitB (bb (ln w)) (ee (ln w)) (tt 6 (ln w)) x)) ∧ ct1 = if decide (w < sc 1) && (ex x && fitB (bb (ln w)) (ee (ln w)) (tt 6 (ln w)) x) then va_up ct (tt 3 (ln w)) (.inr (4, [.int 1, .ref (ad (tt 4 (ln w))), .ref (ad (tt 5 (ln w))), .int (nI (dd 0 (ln w))), .int (nI 1), .int (nI x), .int (nI (dd 3 (ln w)))])) else ct) (dw D ca n ad) (dA n ad)) 0 0 (dA n ad) := by
  refine Met.ofW (cc := c_D_tell) (maxL := 3) (ret := (some .boolean)) (by decide) rfl ?_
  intro p e s m args below meth c s₁ B hml hv
  obtain ⟨rfl, hN, hK, hP⟩ := hv
  have hx := B.exec
  have hb := B.bytes
  have hr := B.returns
  have hts0 := atoms_spec (ws := Cond.code y_D_tell c_D_tell 3 (some .boolean) :: zT) B.pre
  have hts := fun w h => hts0 w (List.mem_cons_of_mem _ h)
  have hown : s.vm.findClass R_D = some m.cls := findClass_of_methodNamed B.named
  have hlocks := B.notSynchronized
  have hD := dI_D hI
  have hS : va_S (dA n ad) s.heap s.heap [] := va_S.rf
  have hAA : ∀ q, dA n ad q → dA n ad q := fun _ h => h
  obtain ⟨c0, c1, c2, c6, c7, hTW, hln, hl2⟩ := id hd
  have c4 := hTW.1
  have c5 := hTW.2.1
  have c3 := hTW.2.2.1
  have hl := lv_entry ([.ref (ad 0), .int (nI w), .int (nI x)]) (n := 3) (Nat.le_of_ble_eq_true rfl)
  rw [lg_entry_eq]
  generalize (lg_sl ([.ref (ad 0), .int (nI w), .int (nI x)]) ++ List.replicate (3 - (lg_sl ([.ref (ad 0), .int (nI w), .int (nI x)])).length) Slot.unset).toArray = ls at hl ⊢
  have hl : lv_has ls 3 [(0, .ref (ad 0)), (1, .int (nI w)), (2, .int (nI x))] := hl
  refine lv_aload_n hx hb d_D_tell_0 rfl (lv_at hl 0 rfl) ?_
  refine lv_iload_n hx hb d_D_tell_1 rfl (lv_at hl 1 rfl) ?_
  refine zz_cV (index := 103) (n := 1) (As := [.int (nI w)]) (rest := []) ⟨hx, hb, hml, hown, hts⟩ (k_isLeafD l D ca n ad ct (trV ad tt N) sc hn0 c0 w hw hl2) mk_D_103 mo_D_isLeaf me_D_D_isLeaf_D mi_D mc_D_isLeaf (by decide +kernel) ⟨rfl, rfl⟩ ⟨by decide, by decide⟩ (dd_pre hN hK hP (j := 0) (by omega) c0 (r := (R_D, T_D, 10)) rfl) rfl hl.1 rfl (Nat.le_of_ble_eq_true rfl) d_D_tell_2 ⟨Nat.zero_le _, Nat.zero_le _⟩ ?_
  refine lv_if_eq (tgt := 28) hx hb d_D_tell_5 rfl (fun h5 => ?_) (fun h5 => ?_)
  · skip
    have hq : (decide (w < sc 1) && (ex x && fitB (bb (ln w)) (ee (ln w)) (tt 6 (ln w)) x)) = false := by rw [zb_eq h5, Bool.false_and]
    refine lv_iconst (v := 0) hx hb d_D_tell_28 rfl ?_
    exact W.zret hx hb hr (rfl) (fun t ht hW => ⟨⟨_, ct, rfl, ⟨by rw [hq]; rfl, by rw [hq]; rfl⟩, zN_warm hW hN, va_K.moved hW.alike hK, by rw [ht]; exact hP⟩, hS.F ht⟩) hS.2.2 d_D_tell_29
  · skip
    have hA : w < sc 1 := of_decide_eq_true (zb_ne h5)
    refine lv_iload_n hx hb d_D_tell_8 rfl (lv_at hl 2 rfl) ?_
    refine zz_cS (index := 60) (n := 1) (As := [.int (nI x)]) (rest := []) ⟨hx, hb, hml, hown, hts⟩ (k_isExD l x hx1) mk_D_60 ms_D_isExponent mi_D mc_D_isExponent (by decide +kernel) ⟨rfl, rfl⟩ ⟨by decide, by decide⟩ preEq rfl hl.1 rfl (Nat.le_of_ble_eq_true rfl) d_D_tell_9 ⟨Nat.zero_le _, Nat.zero_le _⟩ ?_
    refine lv_if_eq (tgt := 28) hx hb d_D_tell_12 rfl (fun h12 => ?_) (fun h12 => ?_)
    · skip
      have hq : (decide (w < sc 1) && (ex x && fitB (bb (ln w)) (ee (ln w)) (tt 6 (ln w)) x)) = false := by rw [zb_eq h12, Bool.false_and, Bool.and_false]
      refine lv_iconst (v := 0) hx hb d_D_tell_28 rfl ?_
      exact W.zret hx hb hr (rfl) (fun t ht hW => ⟨⟨_, ct, rfl, ⟨by rw [hq]; rfl, by rw [hq]; rfl⟩, zN_warm hW hN, va_K.moved hW.alike hK, by rw [ht]; exact hP⟩, hS.F ht⟩) hS.2.2 d_D_tell_29
    · skip
      have hE := zb_ne h12
      have hE2 := ex_is hE
      obtain ⟨n1, n2, n3, n4⟩ := hln w hA
      obtain ⟨t1, -, -, t4⟩ := hTS.2.2.2.2 (ln w) n1
      obtain ⟨u1, u2, u3, u4, u5⟩ := t4 n2
      obtain ⟨hcn, hcl⟩ := hTW.2.2.2 (ln w) n1
      have cn := hcn.trans (ndC_0 n2)
      obtain ⟨cb, ce⟩ := hcl n2
      refine lv_aload_n hx hb d_D_tell_15 rfl (lv_at hl 0 rfl) ?_
      refine zz_get (j := 0) (ci := 0) (C := R_D) (T := T_D) (N := 10) hx hb hts in_D hown hK hP (by omega) c0 rfl 3 (by decide) (hts _ mf_D_25) (fun _ h => h) (v := .ref (ad 2)) rfl d_D_tell_16 ?_
      refine lv_iload_n hx hb d_D_tell_19 rfl (lv_at hl 1 rfl) ?_
      refine dd_aald hx hb hK hP (j := 2) (by omega) (t0 := 3) (Or.inr rfl) c2 (w) rfl (by omega) (by decide) (v := .ref (ad (tt 3 (ln w)))) (by rw [n4]; rfl) d_D_tell_20 ?_
      refine lv_iload_n hx hb d_D_tell_21 rfl (lv_at hl 2 rfl) ?_
      refine zz_cV (index := 106) (n := 1) (As := [.int (nI x)]) (rest := []) ⟨hx, hb, hml, hown, hts⟩ (k_fits l D ca n ad ct (tt 3 (ln w)) (tt 4 (ln w)) (tt 5 (ln w)) (tt 6 (ln w)) (bb (ln w)) (ee (ln w)) (dd 0 (ln w)) (dd 1 (ln w)) (dd 2 (ln w)) (dd 3 (ln w)) t1 u1 u2 u3 cn cb ce u4 u5 x hE2) mk_D_106 mo_F_fits me_F_F_fits_F mi_F mc_F_fits (by decide +kernel) ⟨rfl, rfl⟩ ⟨by decide, by decide⟩ (dd_pre hN hK hP (j := tt 3 (ln w)) t1 cn (r := (R_F, T_F, 7)) rfl) rfl hl.1 rfl (Nat.le_of_ble_eq_true rfl) d_D_tell_22 ⟨Nat.zero_le _, Nat.zero_le _⟩ ?_
      refine lv_if_ne (tgt := 30) hx hb d_D_tell_25 rfl (fun h25 => ?_) (fun h25 => ?_)
      · skip
        have hq : (decide (w < sc 1) && (ex x && fitB (bb (ln w)) (ee (ln w)) (tt 6 (ln w)) x)) = true := by rw [decide_eq_true hA, hE, zb_ne h25]; rfl
        refine lv_aload_n hx hb d_D_tell_30 rfl (lv_at hl 0 rfl) ?_
        refine zz_get (j := 0) (ci := 0) (C := R_D) (T := T_D) (N := 10) hx hb hts in_D hown hK hP (by omega) c0 rfl 3 (by decide) (hts _ mf_D_25) (fun _ h => h) (v := .ref (ad 2)) rfl d_D_tell_31 ?_
        refine lv_iload_n hx hb d_D_tell_34 rfl (lv_at hl 1 rfl) ?_
        refine dd_aald hx hb hK hP (j := 2) (by omega) (t0 := 3) (Or.inr rfl) c2 (w) rfl (by omega) (by decide) (v := .ref (ad (tt 3 (ln w)))) (by rw [n4]; rfl) d_D_tell_35 ?_
        refine lv_iload_n hx hb d_D_tell_36 rfl (lv_at hl 2 rfl) ?_
        refine dd_cv (index := 109) (k := 1) (As := [.int (nI x)]) (rest := []) ⟨hx, hb, hml, hown, hts⟩ (k_learn l D ca n ad ct hI (tt 3 (ln w)) (tt 4 (ln w)) (tt 5 (ln w)) (tt 6 (ln w)) (bb (ln w)) (ee (ln w)) (dd 0 (ln w)) (dd 1 (ln w)) (dd 2 (ln w)) (dd 3 (ln w)) t1 u1 u2 u3 cn cb ce x) mk_D_109 mo_F_learn me_F_F_learn_F mi_F mc_F_learn (by decide +kernel) ⟨rfl, rfl⟩ ⟨by decide, by decide⟩ (dd_pre hN hK hP (j := tt 3 (ln w)) t1 cn (r := (R_F, T_F, 7)) rfl) hS hAA rfl hl.1 rfl (Nat.le_of_ble_eq_true rfl) d_D_tell_37 ⟨Nat.zero_le _, Nat.zero_le _⟩ (fun ct1 H locs hct1 hP hS => ?_)
        refine lv_iconst (v := 1) hx hb d_D_tell_40 rfl ?_
        exact W.zret hx hb hr (rfl) (fun t ht hW => ⟨⟨_, ct1, rfl, ⟨by rw [hq]; rfl, by rw [hq, if_pos rfl]; exact hct1⟩, zN_warm hW hN, va_K.moved hW.alike hK, by rw [ht]; exact hP⟩, hS.F ht⟩) hS.2.2 d_D_tell_41
      · skip
        have hq : (decide (w < sc 1) && (ex x && fitB (bb (ln w)) (ee (ln w)) (tt 6 (ln w)) x)) = false := by rw [zb_eq h25, Bool.and_false, Bool.and_false]
        refine lv_iconst (v := 0) hx hb d_D_tell_28 rfl ?_
        exact W.zret hx hb hr (rfl) (fun t ht hW => ⟨⟨_, ct, rfl, ⟨by rw [hq]; rfl, by rw [hq]; rfl⟩, zN_warm hW hN, va_K.moved hW.alike hK, by rw [ht]; exact hP⟩, hS.F ht⟩) hS.2.2 d_D_tell_29

theorem d_D_witness_0 : decode c_D_witness 0 = .ok (.aload_n 0, 1) := by decide +kernel
theorem d_D_witness_1 : decode c_D_witness 1 = .ok (.getfield 19, 3) := by decide +kernel
theorem d_D_witness_4 : decode c_D_witness 4 = .ok (.ifnonnull 6, 3) := by decide +kernel
theorem d_D_witness_7 : decode c_D_witness 7 = .ok (.bipush (-2), 2) := by decide +kernel
theorem d_D_witness_9 : decode c_D_witness 9 = .ok (.ireturn, 1) := by decide +kernel
theorem d_D_witness_10 : decode c_D_witness 10 = .ok (.aload_n 0, 1) := by decide +kernel
theorem d_D_witness_11 : decode c_D_witness 11 = .ok (.iload_n 1, 1) := by decide +kernel
theorem d_D_witness_12 : decode c_D_witness 12 = .ok (.invokevirtual 103, 3) := by decide +kernel
theorem d_D_witness_15 : decode c_D_witness 15 = .ok (.ifCond .ne 5, 3) := by decide +kernel
theorem d_D_witness_18 : decode c_D_witness 18 = .ok (.iconst (-1), 1) := by decide +kernel
theorem d_D_witness_19 : decode c_D_witness 19 = .ok (.ireturn, 1) := by decide +kernel
theorem d_D_witness_20 : decode c_D_witness 20 = .ok (.aload_n 0, 1) := by decide +kernel
theorem d_D_witness_21 : decode c_D_witness 21 = .ok (.getfield 25, 3) := by decide +kernel
theorem d_D_witness_24 : decode c_D_witness 24 = .ok (.iload_n 1, 1) := by decide +kernel
theorem d_D_witness_25 : decode c_D_witness 25 = .ok (.aaload, 1) := by decide +kernel
theorem d_D_witness_26 : decode c_D_witness 26 = .ok (.invokevirtual 113, 3) := by decide +kernel
theorem d_D_witness_29 : decode c_D_witness 29 = .ok (.ifCond .eq 15, 3) := by decide +kernel
theorem d_D_witness_32 : decode c_D_witness 32 = .ok (.aload_n 0, 1) := by decide +kernel
theorem d_D_witness_33 : decode c_D_witness 33 = .ok (.getfield 25, 3) := by decide +kernel
theorem d_D_witness_36 : decode c_D_witness 36 = .ok (.iload_n 1, 1) := by decide +kernel
theorem d_D_witness_37 : decode c_D_witness 37 = .ok (.aaload, 1) := by decide +kernel
theorem d_D_witness_38 : decode c_D_witness 38 = .ok (.getfield 116, 3) := by decide +kernel
theorem d_D_witness_41 : decode c_D_witness 41 = .ok (.goto 5, 3) := by decide +kernel
theorem d_D_witness_44 : decode c_D_witness 44 = .ok (.bipush (-3), 2) := by decide +kernel
theorem d_D_witness_46 : decode c_D_witness 46 = .ok (.ireturn, 1) := by decide +kernel

set_option maxHeartbeats 4000000 in
set_option maxRecDepth 100000 in
/-- witness(w) -/
theorem k_witnessD (l : Launch) (D : va_G) (ca : Nat → ClassId) (n : Nat) (ad : Nat → Nat) (ct : Nat → va_E) (tt bb ee : Nat → Nat → Nat) (N : Nat) (dd : Nat → Nat → Nat) (sc : Nat → Nat) (sk rw : Nat → Option Nat) (fk ln : Nat → Nat) (hn0 : 8 ≤ n) (hTS : tS n tt bb ee 4 5 3 N) (hd : dS ca ad tt bb ee N dd sc sk rw fk ln ct) (w : Nat) (hw : w < 2 ^ 32) (htl : ∀ k, k < N → tt 0 k = 0 → dd 1 k < 2) : Met l y_D_witness (Cond.code y_D_witness c_D_witness 2 (some .int) :: zT) ({ frames := 3, cells := 0, slots := 0, locals := 120 }) (va_Pc [.ref (ad 0), .int (nI w)] (dw D ca n ad ct)) (QcRead (if N = 0 then -2 else if w < sc 1 then (if dd 1 (ln w) = 1 then nI (dd 2 (ln w)) else -3) else -1)) 0 0 (fun _ => False) := by
  refine Met.ofW (cc := c_D_witness) (maxL := 2) (ret := (some .int)) (by decide) rfl ?_
  intro p e s m args below meth c s₁ B hml hv
  obtain ⟨rfl, hN, hK, hP⟩ := hv
  have hx := B.exec
  have hb := B.bytes
  have hr := B.returns
  have hts0 := atoms_spec (ws := Cond.code y_D_witness c_D_witness 2 (some .int) :: zT) B.pre
  have hts := fun w h => hts0 w (List.mem_cons_of_mem _ h)
  have hown : s.vm.findClass R_D = some m.cls := findClass_of_methodNamed B.named
  have hlocks := B.notSynchronized
  obtain ⟨c0, c1, c2, c6, c7, hTW, hln, hl2⟩ := id hd
  have c4 := hTW.1
  have c5 := hTW.2.1
  have c3 := hTW.2.2.1
  have hl := lv_entry ([.ref (ad 0), .int (nI w)]) (n := 2) (Nat.le_of_ble_eq_true rfl)
  rw [lg_entry_eq]
  generalize (lg_sl ([.ref (ad 0), .int (nI w)]) ++ List.replicate (2 - (lg_sl ([.ref (ad 0), .int (nI w)])).length) Slot.unset).toArray = ls at hl ⊢
  have hl : lv_has ls 2 [(0, .ref (ad 0)), (1, .int (nI w))] := hl
  rcases Nat.eq_zero_or_pos N with hN0 | hN0
  · rw [trV_0 hN0] at c0
    have hq : (if N = 0 then -2 else if w < sc 1 then (if dd 1 (ln w) = 1 then nI (dd 2 (ln w)) else -3) else -1) = (-2 : Int32) := by rw [if_pos hN0]
    refine lv_aload_n hx hb d_D_witness_0 rfl (lv_at hl 0 rfl) ?_
    refine zz_get (j := 0) (ci := 0) (C := R_D) (T := T_D) (N := 10) hx hb hts in_D hown hK hP (by omega) c0 rfl 2 (by decide) (hts _ mf_D_19) (fun _ h => h) (v := .null) rfl d_D_witness_1 ?_
    refine lv_ifnonnullN hx hb d_D_witness_4 ?_
    refine lv_bipush (v := (-2)) hx hb d_D_witness_7 rfl ?_
    refine zz_as (y := if N = 0 then -2 else if w < sc 1 then (if dd 1 (ln w) = 1 then nI (dd 2 (ln w)) else -3) else -1) (hq.symm) ?_
    exact W.iret hx hb hr (fun t ht hW => ⟨rfl, ht⟩) (fun q h => absurd h List.not_mem_nil) d_D_witness_9
  · have hNs : ¬ N = 0 := by omega
    rw [trV_s hNs] at c0
    refine lv_aload_n hx hb d_D_witness_0 rfl (lv_at hl 0 rfl) ?_
    refine zz_get (j := 0) (ci := 0) (C := R_D) (T := T_D) (N := 10) hx hb hts in_D hown hK hP (by omega) c0 rfl 2 (by decide) (hts _ mf_D_19) (fun _ h => h) (v := .ref (ad (tt 3 (N - 1)))) rfl d_D_witness_1 ?_
    refine lv_ifnonnull (tgt := 10) hx hb d_D_witness_4 rfl ?_
    refine lv_aload_n hx hb d_D_witness_10 rfl (lv_at hl 0 rfl) ?_
    refine lv_iload_n hx hb d_D_witness_11 rfl (lv_at hl 1 rfl) ?_
    refine zz_cV (index := 103) (n := 1) (As := [.int (nI w)]) (rest := []) ⟨hx, hb, hml, hown, hts⟩ (k_isLeafD l D ca n ad ct (.ref (ad (tt 3 (N - 1)))) sc hn0 c0 w hw hl2) mk_D_103 mo_D_isLeaf me_D_D_isLeaf_D mi_D mc_D_isLeaf (by decide +kernel) ⟨rfl, rfl⟩ ⟨by decide, by decide⟩ (dd_pre hN hK hP (j := 0) (by omega) c0 (r := (R_D, T_D, 10)) rfl) rfl hl.1 rfl (Nat.le_of_ble_eq_true rfl) d_D_witness_12 ⟨Nat.zero_le _, Nat.zero_le _⟩ ?_
    refine lv_if_ne (tgt := 20) hx hb d_D_witness_15 rfl (fun h15 => ?_) (fun h15 => ?_)
    · skip
      have hA : w < sc 1 := of_decide_eq_true (zb_ne h15)
      obtain ⟨n1, n2, n3, n4⟩ := hln w hA
      obtain ⟨t1, -, -, t4⟩ := hTS.2.2.2.2 (ln w) n1
      obtain ⟨u1, u2, u3, u4, u5⟩ := t4 n2
      obtain ⟨hcn, hcl⟩ := hTW.2.2.2 (ln w) n1
      have cn := hcn.trans (ndC_0 n2)
      obtain ⟨cb, ce⟩ := hcl n2
      have hb1 := htl (ln w) n1 n2
      refine lv_aload_n hx hb d_D_witness_20 rfl (lv_at hl 0 rfl) ?_
      refine zz_get (j := 0) (ci := 0) (C := R_D) (T := T_D) (N := 10) hx hb hts in_D hown hK hP (by omega) c0 rfl 3 (by decide) (hts _ mf_D_25) (fun _ h => h) (v := .ref (ad 2)) rfl d_D_witness_21 ?_
      refine lv_iload_n hx hb d_D_witness_24 rfl (lv_at hl 1 rfl) ?_
      refine dd_aald hx hb hK hP (j := 2) (by omega) (t0 := 3) (Or.inr rfl) c2 (w) rfl (by omega) (by decide) (v := .ref (ad (tt 3 (ln w)))) (by rw [n4]; rfl) d_D_witness_25 ?_
      refine zz_cV (index := 113) (n := 0) (As := []) (rest := []) ⟨hx, hb, hml, hown, hts⟩ (k_isKnownF l D ca n ad ct (tt 3 (ln w)) (tt 4 (ln w)) (tt 5 (ln w)) (tt 6 (ln w)) (bb (ln w)) (ee (ln w)) (dd 0 (ln w)) (dd 1 (ln w)) (dd 2 (ln w)) (dd 3 (ln w)) t1 u1 u2 u3 cn cb ce hb1) mk_D_113 mo_F_isKnown me_F_F_isKnown_F mi_F mc_F_isKnown (by decide +kernel) ⟨rfl, rfl⟩ ⟨by decide, by decide⟩ (dd_pre hN hK hP (j := tt 3 (ln w)) t1 cn (r := (R_F, T_F, 7)) rfl) rfl hl.1 rfl (Nat.le_of_ble_eq_true rfl) d_D_witness_26 ⟨Nat.zero_le _, Nat.zero_le _⟩ ?_
      refine lv_if_eq (tgt := 44) hx hb d_D_witness_29 rfl (fun h29 => ?_) (fun h29 => ?_)
      · skip
        have v := b_z hb1 h29
        have hq : (if N = 0 then -2 else if w < sc 1 then (if dd 1 (ln w) = 1 then nI (dd 2 (ln w)) else -3) else -1) = (-3 : Int32) := by rw [if_neg hNs, if_pos hA, if_neg (by omega)]
        refine lv_bipush (v := (-3)) hx hb d_D_witness_44 rfl ?_
        refine zz_as (y := if N = 0 then -2 else if w < sc 1 then (if dd 1 (ln w) = 1 then nI (dd 2 (ln w)) else -3) else -1) (hq.symm) ?_
        exact W.iret hx hb hr (fun t ht hW => ⟨rfl, ht⟩) (fun q h => absurd h List.not_mem_nil) d_D_witness_46
      · skip
        have v := b_o hb1 h29
        have hq : (if N = 0 then -2 else if w < sc 1 then (if dd 1 (ln w) = 1 then nI (dd 2 (ln w)) else -3) else -1) = nI (dd 2 (ln w)) := by rw [if_neg hNs, if_pos hA, if_pos v]
        refine lv_aload_n hx hb d_D_witness_32 rfl (lv_at hl 0 rfl) ?_
        refine zz_get (j := 0) (ci := 0) (C := R_D) (T := T_D) (N := 10) hx hb hts in_D hown hK hP (by omega) c0 rfl 3 (by decide) (hts _ mf_D_25) (fun _ h => h) (v := .ref (ad 2)) rfl d_D_witness_33 ?_
        refine lv_iload_n hx hb d_D_witness_36 rfl (lv_at hl 1 rfl) ?_
        refine dd_aald hx hb hK hP (j := 2) (by omega) (t0 := 3) (Or.inr rfl) c2 (w) rfl (by omega) (by decide) (v := .ref (ad (tt 3 (ln w)))) (by rw [n4]; rfl) d_D_witness_37 ?_
        refine zz_getN (j := tt 3 (ln w)) (ci := 4) (C := R_F) (T := T_F) (N := 7) hx hb hts in_F hown hK hP t1 cn rfl 5 (by decide) (va_Nw.use rfl (hN _ mf_D_116 rfl)) (fun _ h => h) (v := .int (nI (dd 2 (ln w)))) rfl d_D_witness_38 ?_
        refine lv_goto (tgt := 46) hx hb d_D_witness_41 rfl ?_
        refine zz_as (y := if N = 0 then -2 else if w < sc 1 then (if dd 1 (ln w) = 1 then nI (dd 2 (ln w)) else -3) else -1) (hq.symm) ?_
        exact W.iret hx hb hr (fun t ht hW => ⟨rfl, ht⟩) (fun q h => absurd h List.not_mem_nil) d_D_witness_46
    · skip
      have y : ¬ w < sc 1 := of_decide_eq_false (zb_eq h15)
      have hq : (if N = 0 then -2 else if w < sc 1 then (if dd 1 (ln w) = 1 then nI (dd 2 (ln w)) else -3) else -1) = (-1 : Int32) := by rw [if_neg hNs, if_neg y]
      refine lv_iconst (v := (-1)) hx hb d_D_witness_18 rfl ?_
      refine zz_as (y := if N = 0 then -2 else if w < sc 1 then (if dd 1 (ln w) = 1 then nI (dd 2 (ln w)) else -3) else -1) (hq.symm) ?_
      exact W.iret hx hb hr (fun t ht hW => ⟨rfl, ht⟩) (fun q h => absurd h List.not_mem_nil) d_D_witness_19

theorem d_D_isPart_0 : decode c_D_isPart 0 = .ok (.aload_n 0, 1) := by decide +kernel
theorem d_D_isPart_1 : decode c_D_isPart 1 = .ok (.iload_n 1, 1) := by decide +kernel
theorem d_D_isPart_2 : decode c_D_isPart 2 = .ok (.invokevirtual 103, 3) := by decide +kernel
theorem d_D_isPart_5 : decode c_D_isPart 5 = .ok (.ifCond .eq 12, 3) := by decide +kernel
theorem d_D_isPart_8 : decode c_D_isPart 8 = .ok (.iload_n 2, 1) := by decide +kernel
theorem d_D_isPart_9 : decode c_D_isPart 9 = .ok (.ifCond .lt 8, 3) := by decide +kernel
theorem d_D_isPart_12 : decode c_D_isPart 12 = .ok (.iload_n 2, 1) := by decide +kernel
theorem d_D_isPart_13 : decode c_D_isPart 13 = .ok (.iconst 4, 1) := by decide +kernel
theorem d_D_isPart_14 : decode c_D_isPart 14 = .ok (.if_icmp .lt 5, 3) := by decide +kernel
theorem d_D_isPart_17 : decode c_D_isPart 17 = .ok (.iconst 0, 1) := by decide +kernel
theorem d_D_isPart_18 : decode c_D_isPart 18 = .ok (.ireturn, 1) := by decide +kernel
theorem d_D_isPart_19 : decode c_D_isPart 19 = .ok (.iload_n 2, 1) := by decide +kernel
theorem d_D_isPart_20 : decode c_D_isPart 20 = .ok (.iconst 1, 1) := by decide +kernel
theorem d_D_isPart_21 : decode c_D_isPart 21 = .ok (.if_icmp .ne 16, 3) := by decide +kernel
theorem d_D_isPart_24 : decode c_D_isPart 24 = .ok (.aload_n 0, 1) := by decide +kernel
theorem d_D_isPart_25 : decode c_D_isPart 25 = .ok (.getfield 25, 3) := by decide +kernel
theorem d_D_isPart_28 : decode c_D_isPart 28 = .ok (.iload_n 1, 1) := by decide +kernel
theorem d_D_isPart_29 : decode c_D_isPart 29 = .ok (.aaload, 1) := by decide +kernel
theorem d_D_isPart_30 : decode c_D_isPart 30 = .ok (.invokevirtual 182, 3) := by decide +kernel
theorem d_D_isPart_33 : decode c_D_isPart 33 = .ok (.iconst 2, 1) := by decide +kernel
theorem d_D_isPart_34 : decode c_D_isPart 34 = .ok (.if_icmp .ne 7, 3) := by decide +kernel
theorem d_D_isPart_37 : decode c_D_isPart 37 = .ok (.iconst 1, 1) := by decide +kernel
theorem d_D_isPart_38 : decode c_D_isPart 38 = .ok (.goto 4, 3) := by decide +kernel
theorem d_D_isPart_41 : decode c_D_isPart 41 = .ok (.iconst 0, 1) := by decide +kernel
theorem d_D_isPart_42 : decode c_D_isPart 42 = .ok (.ireturn, 1) := by decide +kernel

set_option maxHeartbeats 4000000 in
set_option maxRecDepth 100000 in
/-- isPart(w, q) -/
theorem k_isPartD (l : Launch) (D : va_G) (ca : Nat → ClassId) (n : Nat) (ad : Nat → Nat) (ct : Nat → va_E) (tt bb ee : Nat → Nat → Nat) (N : Nat) (dd : Nat → Nat → Nat) (sc : Nat → Nat) (sk rw : Nat → Option Nat) (fk ln : Nat → Nat) (hn0 : 8 ≤ n) (hTS : tS n tt bb ee 4 5 3 N) (hd : dS ca ad tt bb ee N dd sc sk rw fk ln ct) (w q : Nat) (hw : w < 2 ^ 32) (hq0 : q < 2 ^ 32) : Met l y_D_isPart (Cond.code y_D_isPart c_D_isPart 3 (some .boolean) :: zT) ({ frames := 3, cells := 0, slots := 0, locals := 120 }) (va_Pc [.ref (ad 0), .int (nI w), .int (nI q)] (dw D ca n ad ct)) (QcRead (zb (decide (w < sc 1) && (decide (q < 4) && (!decide (q = 1) || decide (tt 6 (ln w) = 2)))))) 0 0 (fun _ => False) := by
  refine Met.ofW (cc := c_D_isPart) (maxL := 3) (ret := (some .boolean)) (by decide) rfl ?_
  intro p e s m args below meth c s₁ B hml hv
  obtain ⟨rfl, hN, hK, hP⟩ := hv
  have hx := B.exec
  have hb := B.bytes
  have hr := B.returns
  have hts0 := atoms_spec (ws := Cond.code y_D_isPart c_D_isPart 3 (some .boolean) :: zT) B.pre
  have hts := fun w h => hts0 w (List.mem_cons_of_mem _ h)
  have hown : s.vm.findClass R_D = some m.cls := findClass_of_methodNamed B.named
  have hlocks := B.notSynchronized
  obtain ⟨c0, c1, c2, c6, c7, hTW, hln, hl2⟩ := id hd
  have c4 := hTW.1
  have c5 := hTW.2.1
  have c3 := hTW.2.2.1
  have hl := lv_entry ([.ref (ad 0), .int (nI w), .int (nI q)]) (n := 3) (Nat.le_of_ble_eq_true rfl)
  rw [lg_entry_eq]
  generalize (lg_sl ([.ref (ad 0), .int (nI w), .int (nI q)]) ++ List.replicate (3 - (lg_sl ([.ref (ad 0), .int (nI w), .int (nI q)])).length) Slot.unset).toArray = ls at hl ⊢
  have hl : lv_has ls 3 [(0, .ref (ad 0)), (1, .int (nI w)), (2, .int (nI q))] := hl
  refine lv_aload_n hx hb d_D_isPart_0 rfl (lv_at hl 0 rfl) ?_
  refine lv_iload_n hx hb d_D_isPart_1 rfl (lv_at hl 1 rfl) ?_
  refine zz_cV (index := 103) (n := 1) (As := [.int (nI w)]) (rest := []) ⟨hx, hb, hml, hown, hts⟩ (k_isLeafD l D ca n ad ct (trV ad tt N) sc hn0 c0 w hw hl2) mk_D_103 mo_D_isLeaf me_D_D_isLeaf_D mi_D mc_D_isLeaf (by decide +kernel) ⟨rfl, rfl⟩ ⟨by decide, by decide⟩ (dd_pre hN hK hP (j := 0) (by omega) c0 (r := (R_D, T_D, 10)) rfl) rfl hl.1 rfl (Nat.le_of_ble_eq_true rfl) d_D_isPart_2 ⟨Nat.zero_le _, Nat.zero_le _⟩ ?_
  refine lv_if_eq (tgt := 17) hx hb d_D_isPart_5 rfl (fun h5 => ?_) (fun h5 => ?_)
  · skip
    have hq : (decide (w < sc 1) && (decide (q < 4) && (!decide (q = 1) || decide (tt 6 (ln w) = 2)))) = false := by rw [zb_eq h5, Bool.false_and]
    refine lv_iconst (v := 0) hx hb d_D_isPart_17 rfl ?_
    refine zz_as (y := zb (decide (w < sc 1) && (decide (q < 4) && (!decide (q = 1) || decide (tt 6 (ln w) = 2))))) (by rw [hq]; rfl) ?_
    exact W.zret hx hb hr (zb_nar _) (fun t ht hW => ⟨rfl, ht⟩) (fun q h => absurd h List.not_mem_nil) d_D_isPart_18
  · skip
    have hA : w < sc 1 := of_decide_eq_true (zb_ne h5)
    refine lv_iload_n hx hb d_D_isPart_8 rfl (lv_at hl 2 rfl) ?_
    refine lv_if_lt (tgt := 17) hx hb d_D_isPart_9 rfl (fun h9 => ?_) (fun h9 => ?_)
    · skip
      have hq : (decide (w < sc 1) && (decide (q < 4) && (!decide (q = 1) || decide (tt 6 (ln w) = 2)))) = false := by rw [decide_eq_false (show ¬ q < 4 by have := (zn_lt0 hq0).mp h9; omega), Bool.false_and, Bool.and_false]
      refine lv_iconst (v := 0) hx hb d_D_isPart_17 rfl ?_
      refine zz_as (y := zb (decide (w < sc 1) && (decide (q < 4) && (!decide (q = 1) || decide (tt 6 (ln w) = 2))))) (by rw [hq]; rfl) ?_
      exact W.zret hx hb hr (zb_nar _) (fun t ht hW => ⟨rfl, ht⟩) (fun q h => absurd h List.not_mem_nil) d_D_isPart_18
    · skip
      refine lv_iload_n hx hb d_D_isPart_12 rfl (lv_at hl 2 rfl) ?_
      refine lv_iconst (v := 4) hx hb d_D_isPart_13 rfl ?_
      refine lv_icmp_lt (tgt := 19) hx hb d_D_isPart_14 rfl (fun h14 => ?_) (fun h14 => ?_)
      · skip
        have hW4 : q < 4 := by have a := (zn_lt (b := 4) hq0 (by decide)).mp h14; have b := mt (zn_lt0 hq0).mpr h9; omega
        obtain ⟨n1, n2, n3, n4⟩ := hln w hA
        obtain ⟨t1, -, -, t4⟩ := hTS.2.2.2.2 (ln w) n1
        obtain ⟨u1, u2, u3, u4, u5⟩ := t4 n2
        obtain ⟨hcn, hcl⟩ := hTW.2.2.2 (ln w) n1
        have cn := hcn.trans (ndC_0 n2)
        obtain ⟨cb, ce⟩ := hcl n2
        refine lv_iload_n hx hb d_D_isPart_19 rfl (lv_at hl 2 rfl) ?_
        refine lv_iconst (v := 1) hx hb d_D_isPart_20 rfl ?_
        refine lv_icmp_ne (tgt := 37) hx hb d_D_isPart_21 rfl (fun h21 => ?_) (fun h21 => ?_)
        · skip
          have w1 : ¬ q = 1 := fun z => h21 (by rw [z]; rfl)
          have hq : (decide (w < sc 1) && (decide (q < 4) && (!decide (q = 1) || decide (tt 6 (ln w) = 2)))) = true := by rw [decide_eq_true hA, decide_eq_true hW4, decide_eq_false w1]; rfl
          refine lv_iconst (v := 1) hx hb d_D_isPart_37 rfl ?_
          refine lv_goto (tgt := 42) hx hb d_D_isPart_38 rfl ?_
          refine zz_as (y := zb (decide (w < sc 1) && (decide (q < 4) && (!decide (q = 1) || decide (tt 6 (ln w) = 2))))) (by rw [hq]; rfl) ?_
          exact W.zret hx hb hr (zb_nar _) (fun t ht hW => ⟨rfl, ht⟩) (fun q h => absurd h List.not_mem_nil) d_D_isPart_42
        · skip
          have w1 : q = 1 := (zn_inj hq0 (by decide)).mp h21
          refine lv_aload_n hx hb d_D_isPart_24 rfl (lv_at hl 0 rfl) ?_
          refine zz_get (j := 0) (ci := 0) (C := R_D) (T := T_D) (N := 10) hx hb hts in_D hown hK hP (by omega) c0 rfl 3 (by decide) (hts _ mf_D_25) (fun _ h => h) (v := .ref (ad 2)) rfl d_D_isPart_25 ?_
          refine lv_iload_n hx hb d_D_isPart_28 rfl (lv_at hl 1 rfl) ?_
          refine dd_aald hx hb hK hP (j := 2) (by omega) (t0 := 3) (Or.inr rfl) c2 (w) rfl (by omega) (by decide) (v := .ref (ad (tt 3 (ln w)))) (by rw [n4]; rfl) d_D_isPart_29 ?_
          refine zz_cV (index := 182) (n := 0) (As := []) (rest := []) ⟨hx, hb, hml, hown, hts⟩ (k_pairs l D ca n ad ct (tt 3 (ln w)) (tt 4 (ln w)) (tt 5 (ln w)) (tt 6 (ln w)) (bb (ln w)) (ee (ln w)) (dd 0 (ln w)) (dd 1 (ln w)) (dd 2 (ln w)) (dd 3 (ln w)) t1 u1 u2 u3 cn cb ce) mk_D_182 mo_F_pairs me_F_F_pairs_F mi_F mc_F_pairs (by decide +kernel) ⟨rfl, rfl⟩ ⟨by decide, by decide⟩ (dd_pre hN hK hP (j := tt 3 (ln w)) t1 cn (r := (R_F, T_F, 7)) rfl) rfl hl.1 rfl (Nat.le_of_ble_eq_true rfl) d_D_isPart_30 ⟨Nat.zero_le _, Nat.zero_le _⟩ ?_
          refine lv_iconst (v := 2) hx hb d_D_isPart_33 rfl ?_
          refine lv_icmp_ne (tgt := 41) hx hb d_D_isPart_34 rfl (fun h34 => ?_) (fun h34 => ?_)
          · skip
            have w2 : ¬ tt 6 (ln w) = 2 := fun z => h34 (by rw [z]; rfl)
            have hq : (decide (w < sc 1) && (decide (q < 4) && (!decide (q = 1) || decide (tt 6 (ln w) = 2)))) = false := by rw [decide_eq_true w1, decide_eq_false w2]; simp
            refine lv_iconst (v := 0) hx hb d_D_isPart_41 rfl ?_
            refine zz_as (y := zb (decide (w < sc 1) && (decide (q < 4) && (!decide (q = 1) || decide (tt 6 (ln w) = 2))))) (by rw [hq]; rfl) ?_
            exact W.zret hx hb hr (zb_nar _) (fun t ht hW => ⟨rfl, ht⟩) (fun q h => absurd h List.not_mem_nil) d_D_isPart_42
          · skip
            have w2 : tt 6 (ln w) = 2 := (zn_inj (by omega) (by decide)).mp h34
            have hq : (decide (w < sc 1) && (decide (q < 4) && (!decide (q = 1) || decide (tt 6 (ln w) = 2)))) = true := by rw [decide_eq_true hA, decide_eq_true hW4, decide_eq_true w2, Bool.or_true]; rfl
            refine lv_iconst (v := 1) hx hb d_D_isPart_37 rfl ?_
            refine lv_goto (tgt := 42) hx hb d_D_isPart_38 rfl ?_
            refine zz_as (y := zb (decide (w < sc 1) && (decide (q < 4) && (!decide (q = 1) || decide (tt 6 (ln w) = 2))))) (by rw [hq]; rfl) ?_
            exact W.zret hx hb hr (zb_nar _) (fun t ht hW => ⟨rfl, ht⟩) (fun q h => absurd h List.not_mem_nil) d_D_isPart_42
      · skip
        have hq : (decide (w < sc 1) && (decide (q < 4) && (!decide (q = 1) || decide (tt 6 (ln w) = 2)))) = false := by rw [decide_eq_false (show ¬ q < 4 from fun z => h14 ((zn_lt (b := 4) hq0 (by decide)).mpr (Or.inl z))), Bool.false_and, Bool.and_false]
        refine lv_iconst (v := 0) hx hb d_D_isPart_17 rfl ?_
        refine zz_as (y := zb (decide (w < sc 1) && (decide (q < 4) && (!decide (q = 1) || decide (tt 6 (ln w) = 2))))) (by rw [hq]; rfl) ?_
        exact W.zret hx hb hr (zb_nar _) (fun t ht hW => ⟨rfl, ht⟩) (fun q h => absurd h List.not_mem_nil) d_D_isPart_18

theorem d_D_part_0 : decode c_D_part 0 = .ok (.aload_n 0, 1) := by decide +kernel
theorem d_D_part_1 : decode c_D_part 1 = .ok (.getfield 19, 3) := by decide +kernel
theorem d_D_part_4 : decode c_D_part 4 = .ok (.ifnonnull 6, 3) := by decide +kernel
theorem d_D_part_7 : decode c_D_part 7 = .ok (.bipush (-2), 2) := by decide +kernel
theorem d_D_part_9 : decode c_D_part 9 = .ok (.ireturn, 1) := by decide +kernel
theorem d_D_part_10 : decode c_D_part 10 = .ok (.aload_n 0, 1) := by decide +kernel
theorem d_D_part_11 : decode c_D_part 11 = .ok (.iload_n 1, 1) := by decide +kernel
theorem d_D_part_12 : decode c_D_part 12 = .ok (.iload_n 2, 1) := by decide +kernel
theorem d_D_part_13 : decode c_D_part 13 = .ok (.invokevirtual 161, 3) := by decide +kernel
theorem d_D_part_16 : decode c_D_part 16 = .ok (.ifCond .ne 5, 3) := by decide +kernel
theorem d_D_part_19 : decode c_D_part 19 = .ok (.iconst (-1), 1) := by decide +kernel
theorem d_D_part_20 : decode c_D_part 20 = .ok (.ireturn, 1) := by decide +kernel
theorem d_D_part_21 : decode c_D_part 21 = .ok (.aload_n 0, 1) := by decide +kernel
theorem d_D_part_22 : decode c_D_part 22 = .ok (.getfield 42, 3) := by decide +kernel
theorem d_D_part_25 : decode c_D_part 25 = .ok (.iload_n 1, 1) := by decide +kernel
theorem d_D_part_26 : decode c_D_part 26 = .ok (.iload_n 2, 1) := by decide +kernel
theorem d_D_part_27 : decode c_D_part 27 = .ok (.invokevirtual 164, 3) := by decide +kernel
theorem d_D_part_30 : decode c_D_part 30 = .ok (.ireturn, 1) := by decide +kernel

set_option maxHeartbeats 4000000 in
set_option maxRecDepth 100000 in
/-- part(w, q) -/
theorem k_partD (l : Launch) (D : va_G) (ca : Nat → ClassId) (n : Nat) (ad : Nat → Nat) (ct : Nat → va_E) (tt bb ee : Nat → Nat → Nat) (N : Nat) (dd : Nat → Nat → Nat) (sc : Nat → Nat) (sk rw : Nat → Option Nat) (fk ln : Nat → Nat) (hn0 : 8 ≤ n) (hTS : tS n tt bb ee 4 5 3 N) (hd : dS ca ad tt bb ee N dd sc sk rw fk ln ct) (w q : Nat) (hw : w < 2 ^ 32) (hq0 : q < 2 ^ 32) : Met l y_D_part (Cond.code y_D_part c_D_part 3 (some .int) :: zT) ({ frames := 4, cells := 0, slots := 0, locals := 160 }) (va_Pc [.ref (ad 0), .int (nI w), .int (nI q)] (dw D ca n ad ct)) (QcRead (if N = 0 then -2 else if decide (w < sc 1) && (decide (q < 4) && (!decide (q = 1) || decide (tt 6 (ln w) = 2))) then nI (dd 6 (w * 4 + q)) else -1)) 0 0 (fun _ => False) := by
  refine Met.ofW (cc := c_D_part) (maxL := 3) (ret := (some .int)) (by decide) rfl ?_
  intro p e s m args below meth c s₁ B hml hv
  obtain ⟨rfl, hN, hK, hP⟩ := hv
  have hx := B.exec
  have hb := B.bytes
  have hr := B.returns
  have hts0 := atoms_spec (ws := Cond.code y_D_part c_D_part 3 (some .int) :: zT) B.pre
  have hts := fun w h => hts0 w (List.mem_cons_of_mem _ h)
  have hown : s.vm.findClass R_D = some m.cls := findClass_of_methodNamed B.named
  have hlocks := B.notSynchronized
  obtain ⟨c0, c1, c2, c6, c7, hTW, hln, hl2⟩ := id hd
  have c4 := hTW.1
  have c5 := hTW.2.1
  have c3 := hTW.2.2.1
  have hl := lv_entry ([.ref (ad 0), .int (nI w), .int (nI q)]) (n := 3) (Nat.le_of_ble_eq_true rfl)
  rw [lg_entry_eq]
  generalize (lg_sl ([.ref (ad 0), .int (nI w), .int (nI q)]) ++ List.replicate (3 - (lg_sl ([.ref (ad 0), .int (nI w), .int (nI q)])).length) Slot.unset).toArray = ls at hl ⊢
  have hl : lv_has ls 3 [(0, .ref (ad 0)), (1, .int (nI w)), (2, .int (nI q))] := hl
  rcases Nat.eq_zero_or_pos N with hN0 | hN0
  · rw [trV_0 hN0] at c0
    have hq : (if N = 0 then -2 else if decide (w < sc 1) && (decide (q < 4) && (!decide (q = 1) || decide (tt 6 (ln w) = 2))) then nI (dd 6 (w * 4 + q)) else -1) = (-2 : Int32) := by rw [if_pos hN0]
    refine lv_aload_n hx hb d_D_part_0 rfl (lv_at hl 0 rfl) ?_
    refine zz_get (j := 0) (ci := 0) (C := R_D) (T := T_D) (N := 10) hx hb hts in_D hown hK hP (by omega) c0 rfl 2 (by decide) (hts _ mf_D_19) (fun _ h => h) (v := .null) rfl d_D_part_1 ?_
    refine lv_ifnonnullN hx hb d_D_part_4 ?_
    refine lv_bipush (v := (-2)) hx hb d_D_part_7 rfl ?_
    refine zz_as (y := if N = 0 then -2 else if decide (w < sc 1) && (decide (q < 4) && (!decide (q = 1) || decide (tt 6 (ln w) = 2))) then nI (dd 6 (w * 4 + q)) else -1) (hq.symm) ?_
    exact W.iret hx hb hr (fun t ht hW => ⟨rfl, ht⟩) (fun q h => absurd h List.not_mem_nil) d_D_part_9
  · have hNs : ¬ N = 0 := by omega
    rw [trV_s hNs] at c0
    refine lv_aload_n hx hb d_D_part_0 rfl (lv_at hl 0 rfl) ?_
    refine zz_get (j := 0) (ci := 0) (C := R_D) (T := T_D) (N := 10) hx hb hts in_D hown hK hP (by omega) c0 rfl 2 (by decide) (hts _ mf_D_19) (fun _ h => h) (v := .ref (ad (tt 3 (N - 1)))) rfl d_D_part_1 ?_
    refine lv_ifnonnull (tgt := 10) hx hb d_D_part_4 rfl ?_
    refine lv_aload_n hx hb d_D_part_10 rfl (lv_at hl 0 rfl) ?_
    refine lv_iload_n hx hb d_D_part_11 rfl (lv_at hl 1 rfl) ?_
    refine lv_iload_n hx hb d_D_part_12 rfl (lv_at hl 2 rfl) ?_
    refine zz_cV (index := 161) (n := 2) (As := [.int (nI w), .int (nI q)]) (rest := []) ⟨hx, hb, hml, hown, hts⟩ (k_isPartD l D ca n ad ct tt bb ee N dd sc sk rw fk ln hn0 hTS hd w q hw hq0) mk_D_161 mo_D_isPart me_D_D_isPart_D mi_D mc_D_isPart (by decide +kernel) ⟨rfl, rfl⟩ ⟨by decide, by decide⟩ (dd_pre hN hK hP (j := 0) (by omega) c0 (r := (R_D, T_D, 10)) rfl) rfl hl.1 rfl (Nat.le_of_ble_eq_true rfl) d_D_part_13 ⟨Nat.zero_le _, Nat.zero_le _⟩ ?_
    refine lv_if_ne (tgt := 21) hx hb d_D_part_16 rfl (fun h16 => ?_) (fun h16 => ?_)
    · skip
      have y := zb_ne h16
      have hq : (if N = 0 then -2 else if decide (w < sc 1) && (decide (q < 4) && (!decide (q = 1) || decide (tt 6 (ln w) = 2))) then nI (dd 6 (w * 4 + q)) else -1) = nI (dd 6 (w * 4 + q)) := by rw [if_neg hNs, y, if_pos rfl]
      simp only [Bool.and_eq_true, decide_eq_true_eq] at y
      have y1 := y.1
      have y2 := y.2.1
      refine lv_aload_n hx hb d_D_part_21 rfl (lv_at hl 0 rfl) ?_
      refine zz_get (j := 0) (ci := 0) (C := R_D) (T := T_D) (N := 10) hx hb hts in_D hown hK hP (by omega) c0 rfl 6 (by decide) (hts _ mf_D_42) (fun _ h => h) (v := .ref (ad 4)) rfl d_D_part_22 ?_
      refine lv_iload_n hx hb d_D_part_25 rfl (lv_at hl 1 rfl) ?_
      refine lv_iload_n hx hb d_D_part_26 rfl (lv_at hl 2 rfl) ?_
      refine zz_cV (index := 164) (n := 2) (As := [.int (nI w), .int (nI q)]) (rest := []) ⟨hx, hb, hml, hown, hts⟩ (k_get l D ca n ad ct 4 5 (dd 6) (by omega) (by omega) c4 c5 w q (by omega)) mk_D_164 mo_T_get me_T_T_get_T mi_T mc_T_get (by decide +kernel) ⟨rfl, rfl⟩ ⟨by decide, by decide⟩ (dd_pre hN hK hP (j := 4) (by omega) c4 (r := (R_T, T_T, 1)) rfl) rfl hl.1 rfl (Nat.le_of_ble_eq_true rfl) d_D_part_27 ⟨Nat.zero_le _, Nat.zero_le _⟩ ?_
      refine zz_as (y := if N = 0 then -2 else if decide (w < sc 1) && (decide (q < 4) && (!decide (q = 1) || decide (tt 6 (ln w) = 2))) then nI (dd 6 (w * 4 + q)) else -1) (hq.symm) ?_
      exact W.iret hx hb hr (fun t ht hW => ⟨rfl, ht⟩) (fun q h => absurd h List.not_mem_nil) d_D_part_30
    · skip
      have hq : (if N = 0 then -2 else if decide (w < sc 1) && (decide (q < 4) && (!decide (q = 1) || decide (tt 6 (ln w) = 2))) then nI (dd 6 (w * 4 + q)) else -1) = (-1 : Int32) := by rw [if_neg hNs, zb_eq h16]; rfl
      refine lv_iconst (v := (-1)) hx hb d_D_part_19 rfl ?_
      refine zz_as (y := if N = 0 then -2 else if decide (w < sc 1) && (decide (q < 4) && (!decide (q = 1) || decide (tt 6 (ln w) = 2))) then nI (dd 6 (w * 4 + q)) else -1) (hq.symm) ?_
      exact W.iret hx hb hr (fun t ht hW => ⟨rfl, ht⟩) (fun q h => absurd h List.not_mem_nil) d_D_part_20
