/-! the desk: leaf, equal, join: new cells -/
theorem zl_grow {D : va_G} {cl : List vw_C} {n : Nat} {ad : Nat → Nat} {ct : Nat → va_E} {q : Nat} {e : va_E} {H : Heap} {A : Nat → Prop} (hP : va_P D cl (zl n ad ct ++ [(q, e)]) H) (hD : va_D A (zl n ad ct ++ [(q, e)])) : ∃ ad1 : Nat → Nat, (∀ j, j < n → ad1 j = ad j) ∧ ad1 n = q ∧ va_P D cl (zl (n + 1) ad1 (va_up ct n e)) H ∧ zD A (n + 1) ad1 := by
  refine ⟨va_up ad n q, fun j hj => va_up_ne _ _ (by omega), va_up_self _ _ _, ?_, zD_push (D := D) (cl := cl) hD⟩
  rw [zl_push] at hP
  exact hP
theorem zty_uo {D : va_G} {cl : List vw_C} {ca : Nat → ClassId} {s : State} {cA : ClassId} (h : va_K D cl (zty ca ++ [(cA, .object R_S)]) s) : cA = ca 2 := by
  obtain ⟨_, _, _, _, _, a⟩ := (h.2 2 (ca 2, .object R_S) rfl).2
  obtain ⟨_, _, _, _, _, b⟩ := (h.2 4 (cA, .object R_S) rfl).2
  exact Option.some.inj (b.symm.trans a)
theorem zty_uf {D : va_G} {cl : List vw_C} {ca : Nat → ClassId} {s : State} {cA : ClassId} (h : va_K D cl (zty ca ++ [(cA, .object R_F)]) s) : cA = ca 3 := by
  obtain ⟨_, _, _, _, _, a⟩ := (h.2 3 (ca 3, .object R_F) rfl).2
  obtain ⟨_, _, _, _, _, b⟩ := (h.2 4 (cA, .object R_F) rfl).2
  exact Option.some.inj (b.symm.trans a)
theorem zD_A {A : Nat → Prop} {n : Nat} {ad : Nat → Nat} (h : zD A n ad) : ∀ q, dA n ad q → A q := fun q ⟨j, hj, e⟩ => e ▸ h.2 j hj
def nA (n : Nat) (ad : Nat → Nat) (sz : Nat) : Nat → Prop := fun q => dA n ad q ∨ sz ≤ q
abbrev dU : Type := Nat × (Nat → Nat) × (Nat → va_E)
section DG
variable {p : Program} {l : Launch} {e : Env} {R : Room} {s : State} {m : MethodId} {args : Array Value} {below : List Frame} {meth : Method} {c : Code} {H H0 : Heap} {locs : List Loc} {cells slots pc nL n : Nat} {ls : Array Slot} {rest st0 : List Value} {cc : ByteArray} {Q : State → Prop} {A : Nat → Prop} {D : va_G} {ca : Nat → ClassId} {ad : Nat → Nat} {ct : Nat → va_E} {own : String}
theorem dd_newO (hexec : p.tables.exec = Jvm.exec) (hb : c.code = cc) {C : String} {T : u_T} {N ci index : Nat} (hts : ∀ w ∈ zT, w.before args s = true) (hin : ∀ w ∈ u_ws C T N, w ∈ zT) (ty : Nat → FieldType) (hty : ∀ k, k < N → parseFieldDescriptor (T k).2.2.1 = some (ty k)) (hown : s.vm.findClass own = some m.cls) (hcl : Cond.classLink own index C ∈ zT) (hinst : Cond.instantiable C N ∈ zT) (hini : Cond.initialized C ∈ zT)
    (hK : va_K D zC (zty ca) s) (hP : va_P D zC (zl n ad ct) H) (hD : zD A n ad) (hS : va_S A H0 H locs) (hA : ∀ q, H0.size ≤ q → A q) (hc : zC[ci]? = some (C, T, N)) {fs : List Value} (hfs : ∀ j, j < N → defaultValue (ty j) = vp_V fs j) (hcells : cells + 1 ≤ R.cells) (hslots : slots + N ≤ R.slots) (hdg : decode cc pc = .ok (.new index, 3))
    (kk : ∀ (ad1 : Nat → Nat) (H1 : Heap), (∀ j, j < n → ad1 j = ad j) → va_P D zC (zl (n + 1) ad1 (va_up ct n (.inr (ci, fs)))) H1 → zD A (n + 1) ad1 → va_S A H0 H1 locs →
      W p l e R s m args below meth c H1 locs (cells + 1) (slots + N) Q (F0 m (pc + 3) ls (.ref (ad1 n) :: rest))) : W p l e R s m args below meth c H locs cells slots Q (F0 m pc ls rest) := by
  refine va_new hexec hb hts hin ty hty hown (hts _ hcl) (hts _ hinst) (hts _ hini) hK hP (zD_to hD ct) hS hA hc hfs hcells hslots hdg (fun q H1 h1 h2 h3 => ?_)
  obtain ⟨ad1, a, b, c, d⟩ := zl_grow h1 h2
  subst b
  exact kk ad1 H1 a c d h3
theorem dd_newi (hexec : p.tables.exec = Jvm.exec) (hb : c.code = cc) (hts : ∀ w ∈ zT, w.before args s = true) (hK : va_K D zC (zty ca) s) (hP : va_P D zC (zl n ad ct) H) (hD : zD A n ad) (hS : va_S A H0 H locs) (hA : ∀ q, H0.size ≤ q → A q)
    {i : Int32} (N : Nat) (hi : i = nI N) (hN : N ≤ 90) (hcells : cells + 1 ≤ R.cells) (hslots : slots + N ≤ R.slots) (hdg : decode cc pc = .ok (.newarray .int, 2))
    (kk : ∀ (ad1 : Nat → Nat) (H1 : Heap), (∀ j, j < n → ad1 j = ad j) → va_P D zC (zl (n + 1) ad1 (va_up ct n (.inl (ca 0, N, .inl (zf (fun _ => 0)))))) H1 → zD A (n + 1) ad1 → va_S A H0 H1 locs →
      W p l e R s m args below meth c H1 locs (cells + 1) (slots + N) Q (F0 m (pc + 2) ls (.ref (ad1 n) :: rest))) : W p l e R s m args below meth c H locs cells slots Q (F0 m pc ls (.int i :: rest)) := by
  subst hi
  have hm : N < 2 ^ 31 := by omega
  refine va_newa (atype := .int) (D := D) (cl := zC) (tys := zty ca) (a0 := (N, .inl (fun _ => 0))) hexec hb (hts _ ma_int) (ty := .int) rfl hK hP (zD_to hD _) hS hA (fun cA => rfl) (nI_pos hm) (nI_clamp hm) (Nat.le_trans (Nat.mul_le_mul_right _ hN) (by decide)) hcells hslots hdg (fun q cA H1 hK1 h1 h2 h3 => ?_)
  have hcA := zty_u hK1
  subst hcA
  obtain ⟨ad1, a, b, c, d⟩ := zl_grow h1 h2
  subst b
  exact kk ad1 H1 a c d h3
theorem dd_newq (hexec : p.tables.exec = Jvm.exec) (hb : c.code = cc) (hts : ∀ w ∈ zT, w.before args s = true) (hown : s.vm.findClass own = some m.cls) {C : String} {t0 : Nat} {index : Nat} (hcl : Cond.classLink own index C ∈ zT) (ho : va_AO C s) (hu : ∀ cA, va_K D zC (zty ca ++ [(cA, .object C)]) s → cA = ca t0) (hK : va_K D zC (zty ca) s) (hP : va_P D zC (zl n ad ct) H) (hD : zD A n ad) (hS : va_S A H0 H locs) (hA : ∀ q, H0.size ≤ q → A q)
    {i : Int32} (N : Nat) (hi : i = nI N) (hN : N ≤ 90) (hcells : cells + 1 ≤ R.cells) (hslots : slots + N ≤ R.slots) (hdg : decode cc pc = .ok (.anewarray index, 3))
    (kk : ∀ (ad1 : Nat → Nat) (H1 : Heap), (∀ j, j < n → ad1 j = ad j) → va_P D zC (zl (n + 1) ad1 (va_up ct n (.inl (ca t0, N, .inr (.inr (.inr (.inr (fun _ => none)))))))) H1 → zD A (n + 1) ad1 → va_S A H0 H1 locs →
      W p l e R s m args below meth c H1 locs (cells + 1) (slots + N) Q (F0 m (pc + 3) ls (.ref (ad1 n) :: rest))) : W p l e R s m args below meth c H locs cells slots Q (F0 m pc ls (.int i :: rest)) := by
  subst hi
  have hm : N < 2 ^ 31 := by omega
  refine va_newq hexec hb hown (hts _ hcl) ho hK hP (zD_to hD _) hS hA (nI_pos hm) (nI_clamp hm) (Nat.le_trans (Nat.mul_le_mul_right _ hN) (by decide)) hcells hslots hdg (fun q cA H1 hK1 h1 h2 h3 => ?_)
  have hcA := hu cA hK1
  subst hcA
  obtain ⟨ad1, a, b, c, d⟩ := zl_grow h1 h2
  subst b
  exact kk ad1 H1 a c d h3
end DG

theorem d_D_leaf_0 : decode c_D_leaf 0 = .ok (.aload_n 0, 1) := by decide +kernel
theorem d_D_leaf_1 : decode c_D_leaf 1 = .ok (.invokevirtual 67, 3) := by decide +kernel
theorem d_D_leaf_4 : decode c_D_leaf 4 = .ok (.ifCond .ne 11, 3) := by decide +kernel
theorem d_D_leaf_7 : decode c_D_leaf 7 = .ok (.iload_n 1, 1) := by decide +kernel
theorem d_D_leaf_8 : decode c_D_leaf 8 = .ok (.iload_n 2, 1) := by decide +kernel
theorem d_D_leaf_9 : decode c_D_leaf 9 = .ok (.invokestatic 71, 3) := by decide +kernel
theorem d_D_leaf_12 : decode c_D_leaf 12 = .ok (.ifCond .ne 5, 3) := by decide +kernel
theorem d_D_leaf_15 : decode c_D_leaf 15 = .ok (.iconst 0, 1) := by decide +kernel
theorem d_D_leaf_16 : decode c_D_leaf 16 = .ok (.ireturn, 1) := by decide +kernel
theorem d_D_leaf_17 : decode c_D_leaf 17 = .ok (.aload_n 0, 1) := by decide +kernel
theorem d_D_leaf_18 : decode c_D_leaf 18 = .ok (.new 23, 3) := by decide +kernel
theorem d_D_leaf_21 : decode c_D_leaf 21 = .ok (.dup, 1) := by decide +kernel
theorem d_D_leaf_22 : decode c_D_leaf 22 = .ok (.iconst 1, 1) := by decide +kernel
theorem d_D_leaf_23 : decode c_D_leaf 23 = .ok (.newarray .int, 2) := by decide +kernel
theorem d_D_leaf_25 : decode c_D_leaf 25 = .ok (.dup, 1) := by decide +kernel
theorem d_D_leaf_26 : decode c_D_leaf 26 = .ok (.iconst 0, 1) := by decide +kernel
theorem d_D_leaf_27 : decode c_D_leaf 27 = .ok (.iload_n 1, 1) := by decide +kernel
theorem d_D_leaf_28 : decode c_D_leaf 28 = .ok (.iastore, 1) := by decide +kernel
theorem d_D_leaf_29 : decode c_D_leaf 29 = .ok (.iconst 1, 1) := by decide +kernel
theorem d_D_leaf_30 : decode c_D_leaf 30 = .ok (.newarray .int, 2) := by decide +kernel
theorem d_D_leaf_32 : decode c_D_leaf 32 = .ok (.dup, 1) := by decide +kernel
theorem d_D_leaf_33 : decode c_D_leaf 33 = .ok (.iconst 0, 1) := by decide +kernel
theorem d_D_leaf_34 : decode c_D_leaf 34 = .ok (.iload_n 2, 1) := by decide +kernel
theorem d_D_leaf_35 : decode c_D_leaf 35 = .ok (.iastore, 1) := by decide +kernel
theorem d_D_leaf_36 : decode c_D_leaf 36 = .ok (.invokespecial 75, 3) := by decide +kernel
theorem d_D_leaf_39 : decode c_D_leaf 39 = .ok (.invokevirtual 78, 3) := by decide +kernel
theorem d_D_leaf_42 : decode c_D_leaf 42 = .ok (.iconst 1, 1) := by decide +kernel
theorem d_D_leaf_43 : decode c_D_leaf 43 = .ok (.ireturn, 1) := by decide +kernel

set_option maxHeartbeats 4000000 in
set_option maxRecDepth 100000 in
/-- leaf -/
theorem k_leafD (l : Launch) (D : va_G) (ca : Nat → ClassId) (n : Nat) (ad : Nat → Nat) (ct : Nat → va_E) (hI : dI n ad) (sz : Nat) (tv : Value) (sc : Nat → Nat) (hn0 : 8 ≤ n) (c0 : ct 0 = dkC ad tv sc) (sk : Nat → Option Nat) (c1 : ct 1 = skC ca sk) (hsc : sc 0 ≤ 6) (b y : Nat) (hb0 : b < 2 ^ 32) (hy0 : y < 2 ^ 32) : Met l y_D_leaf (Cond.code y_D_leaf c_D_leaf 3 (some .boolean) :: zT) ({ frames := 4, cells := 3, slots := 9, locals := 160 }) (va_Pc [.ref (ad 0), .int (nI b), .int (nI y)] (fun U => U.heap.size = sz ∧ dw D ca n ad ct U)) (va_Qi (S := dU) (fun r u => ((!decide (6 ≤ sc 0) && (bs b && el y)) = false ∧ r = 0 ∧ u = (n, ad, ct)) ∨ ((!decide (6 ≤ sc 0) && (bs b && el y)) = true ∧ r = 1 ∧ u.1 = n + 3 ∧ (∀ j, j < n → u.2.1 j = ad j) ∧ zD (nA n ad sz) (n + 3) u.2.1 ∧ u.2.2 0 = dkC u.2.1 tv (va_up sc 0 (sc 0 + 1)) ∧ u.2.2 1 = skC ca (va_up sk (sc 0) (some (u.2.1 n))) ∧ u.2.2 n = .inr (4, [.int (nI 1), .ref (u.2.1 (n + 1)), .ref (u.2.1 (n + 2)), .int 0, .int 0, .int 0, .int 0]) ∧ u.2.2 (n + 1) = .inl (ca 0, 1, .inl (zf (va_up (fun _ => 0) 0 b))) ∧ u.2.2 (n + 2) = .inl (ca 0, 1, .inl (zf (va_up (fun _ => 0) 0 y))) ∧ ∀ q, q < n → 2 ≤ q → u.2.2 q = ct q)) (fun u => dw D ca u.1 u.2.1 u.2.2) (nA n ad sz)) 3 9 (nA n ad sz) := by
  refine Met.ofW (cc := c_D_leaf) (maxL := 3) (ret := (some .boolean)) (by decide) rfl ?_
  intro p e s m args below meth c s₁ B hml hv
  obtain ⟨rfl, hsz, hN, hK, hP⟩ := hv
  have hx := B.exec
  have hb := B.bytes
  have hr := B.returns
  have hts0 := atoms_spec (ws := Cond.code y_D_leaf c_D_leaf 3 (some .boolean) :: zT) B.pre
  have hts := fun w h => hts0 w (List.mem_cons_of_mem _ h)
  have hown : s.vm.findClass R_D = some m.cls := findClass_of_methodNamed B.named
  have hlocks := B.notSynchronized
  subst hsz
  have hD : zD (nA n ad s.heap.size) n ad := ⟨hI, fun j hj => Or.inl ⟨j, hj, rfl⟩⟩
  have hA : ∀ q : Nat, s.heap.size ≤ q → nA n ad s.heap.size q := fun q h => Or.inr h
  have hS : va_S (nA n ad s.heap.size) s.heap s.heap [] := va_S.rf
  have hAA : ∀ q, dA n ad q → nA n ad s.heap.size q := fun _ h => Or.inl h
  have hl := lv_entry ([.ref (ad 0), .int (nI b), .int (nI y)]) (n := 3) (Nat.le_of_ble_eq_true rfl)
  rw [lg_entry_eq]
  generalize (lg_sl ([.ref (ad 0), .int (nI b), .int (nI y)]) ++ List.replicate (3 - (lg_sl ([.ref (ad 0), .int (nI b), .int (nI y)])).length) Slot.unset).toArray = ls at hl ⊢
  have hl : lv_has ls 3 [(0, .ref (ad 0)), (1, .int (nI b)), (2, .int (nI y))] := hl
  refine lv_aload_n hx hb d_D_leaf_0 rfl (lv_at hl 0 rfl) ?_
  refine zz_cV (index := 67) (n := 0) (As := []) (rest := []) ⟨hx, hb, hml, hown, hts⟩ (k_isFull l D ca n ad ct tv sc hn0 c0 hsc) mk_D_67 mo_D_isFull me_D_D_isFull_D mi_D mc_D_isFull (by decide +kernel) ⟨rfl, rfl⟩ ⟨by decide, by decide⟩ (dd_pre hN hK hP (j := 0) (by omega) c0 (r := (R_D, T_D, 10)) rfl) rfl hl.1 rfl (Nat.le_of_ble_eq_true rfl) d_D_leaf_1 ⟨by decide, by decide⟩ ?_
  refine lv_if_ne (tgt := 15) hx hb d_D_leaf_4 rfl (fun h4 => ?_) (fun h4 => ?_)
  · skip
    have hq : (!decide (6 ≤ sc 0) && (bs b && el y)) = false := by rw [zb_ne h4]; rfl
    refine lv_iconst (v := 0) hx hb d_D_leaf_15 rfl ?_
    refine W.widen (k := 3) (n := 9) (by decide) (by decide) ?_
    exact W.zret hx hb hr (rfl) (fun t ht hW => ⟨⟨_, (n, ad, ct), rfl, Or.inl ⟨hq, rfl, rfl⟩, zN_warm hW hN, va_K.moved hW.alike hK, by rw [ht]; exact hP⟩, hS.F ht⟩) hS.2.2 d_D_leaf_16
  · skip
    have z1 := zb_eq h4
    have z2 : sc 0 < 6 := by have := of_decide_eq_false z1; omega
    refine lv_iload_n hx hb d_D_leaf_7 rfl (lv_at hl 1 rfl) ?_
    refine lv_iload_n hx hb d_D_leaf_8 rfl (lv_at hl 2 rfl) ?_
    refine zz_cS (index := 71) (n := 2) (As := [.int (nI b), .int (nI y)]) (rest := []) ⟨hx, hb, hml, hown, hts⟩ (k_isPair l b y hb0 hy0) mk_D_71 ms_D_isPair mi_D mc_D_isPair (by decide +kernel) ⟨rfl, rfl⟩ ⟨by decide, by decide⟩ preEq rfl hl.1 rfl (Nat.le_of_ble_eq_true rfl) d_D_leaf_9 ⟨by decide, by decide⟩ ?_
    refine lv_if_ne (tgt := 17) hx hb d_D_leaf_12 rfl (fun h12 => ?_) (fun h12 => ?_)
    · skip
      have hq : (!decide (6 ≤ sc 0) && (bs b && el y)) = true := by rw [z1, zb_ne h12]; rfl
      refine lv_aload_n hx hb d_D_leaf_17 rfl (lv_at hl 0 rfl) ?_
      refine dd_newO (ci := 4) (C := R_F) (T := T_F) (N := 7) hx hb hts in_F ft_F ft_F_ok hown ml_D_23 mt_F mi_F hK hP hD hS hA rfl (fs := [.int 0, .null, .null, .int 0, .int 0, .int 0, .int 0]) (fun j hj => by rcases (show j = 0 ∨ j = 1 ∨ j = 2 ∨ j = 3 ∨ j = 4 ∨ j = 5 ∨ j = 6 by omega) with rfl | rfl | rfl | rfl | rfl | rfl | rfl <;> rfl) (by decide) (by decide) d_D_leaf_18 (fun ad1 H hag hP hD hS => ?_)
      have a0 : ad1 0 = ad 0 := hag 0 (by omega)
      have a1 : ad1 1 = ad 1 := hag 1 (by omega)
      have a2 : ad1 2 = ad 2 := hag 2 (by omega)
      have a3 : ad1 3 = ad 3 := hag 3 (by omega)
      have a4 : ad1 4 = ad 4 := hag 4 (by omega)
      have a5 : ad1 6 = ad 6 := hag 6 (by omega)
      refine W.eq (g2 := F0 m 21 ls [.ref (ad1 n), .ref (ad1 0)]) (by simp only [a0, a1, a2, a3, a4, a5]) ?_
      have hl : lv_has ls 3 [(0, .ref (ad1 0)), (1, .int (nI b)), (2, .int (nI y))] := by simp only [a0, a1, a2, a3, a4, a5]; exact hl
      obtain ⟨ct1, hct1⟩ : ∃ c, c = va_up ct (n) (.inr (4, [.int 0, .null, .null, .int 0, .int 0, .int 0, .int 0])) := ⟨_, rfl⟩
      rw [← hct1] at hP
      have c0 : ct1 0 = .inr (0, [.ref (ad1 1), .int (nI (sc 0)), tv, .ref (ad1 2), .int (nI (sc 1)), .ref (ad1 3), .ref (ad1 4), .ref (ad1 6), .int (nI (sc 2)), .int (nI (sc 3))]) := by rw [hct1, va_up_ne _ _ (by omega)]; simp only [a0, a1, a2, a3, a4, a5]; exact c0
      have c1 : ct1 1 = .inl (ca 2, 6, .inr (.inr (.inr (.inr sk)))) := by rw [hct1, va_up_ne _ _ (by omega)]; exact c1
      have x1 : ct1 (n) = .inr (4, [.int 0, .null, .null, .int 0, .int 0, .int 0, .int 0]) := by rw [hct1]; exact va_up_self _ _ _
      have hag1 := hag
      have hI : dI (n + 1) ad1 := hD.1
      have hAA := zD_A hD
      refine lv_dup hx hb d_D_leaf_21 rfl ?_
      refine lv_iconst (v := 1) hx hb d_D_leaf_22 rfl ?_
      refine dd_newi hx hb hts hK hP hD hS hA 1 rfl (by decide) (by decide) (by decide) d_D_leaf_23 (fun ad2 H hag hP hD hS => ?_)
      have a0 : ad2 n = ad1 n := hag n (by omega)
      have a1 : ad2 0 = ad1 0 := hag 0 (by omega)
      have a2 : ad2 1 = ad1 1 := hag 1 (by omega)
      have a3 : ad2 2 = ad1 2 := hag 2 (by omega)
      have a4 : ad2 3 = ad1 3 := hag 3 (by omega)
      have a5 : ad2 4 = ad1 4 := hag 4 (by omega)
      have a6 : ad2 6 = ad1 6 := hag 6 (by omega)
      refine W.eq (g2 := F0 m 25 ls [.ref (ad2 (n + 1)), .ref (ad2 n), .ref (ad2 n), .ref (ad2 0)]) (by simp only [a0, a1, a2, a3, a4, a5, a6]) ?_
      have hl : lv_has ls 3 [(0, .ref (ad2 0)), (1, .int (nI b)), (2, .int (nI y))] := by simp only [a0, a1, a2, a3, a4, a5, a6]; exact hl
      obtain ⟨ct2, hct2⟩ : ∃ c, c = va_up ct1 (n + 1) (.inl (ca 0, 1, .inl (zf (fun _ => 0)))) := ⟨_, rfl⟩
      rw [← hct2] at hP
      have c0 : ct2 0 = .inr (0, [.ref (ad2 1), .int (nI (sc 0)), tv, .ref (ad2 2), .int (nI (sc 1)), .ref (ad2 3), .ref (ad2 4), .ref (ad2 6), .int (nI (sc 2)), .int (nI (sc 3))]) := by rw [hct2, va_up_ne _ _ (by omega)]; simp only [a0, a1, a2, a3, a4, a5, a6]; exact c0
      have c1 : ct2 1 = .inl (ca 2, 6, .inr (.inr (.inr (.inr sk)))) := by rw [hct2, va_up_ne _ _ (by omega)]; exact c1
      have x1 : ct2 n = .inr (4, [.int 0, .null, .null, .int 0, .int 0, .int 0, .int 0]) := by rw [hct2, va_up_ne _ _ (by omega)]; exact x1
      have x2 : ct2 (n + 1) = .inl (ca 0, 1, .inl (zf (fun _ => 0))) := by rw [hct2]; exact va_up_self _ _ _
      have hag2 := hag
      have hI : dI (n + 2) ad2 := hD.1
      have hAA := zD_A hD
      refine lv_dup hx hb d_D_leaf_25 rfl ?_
      refine lv_iconst (v := 0) hx hb d_D_leaf_26 rfl ?_
      refine lv_iload_n hx hb d_D_leaf_27 rfl (lv_at hl 1 rfl) ?_
      refine dd_ast hx hb hK hP hD hS (j := n + 1) (by omega) x2 (0) rfl (by omega) (by decide) (b) (rfl) d_D_leaf_28 (fun H locs hP hS => ?_)
      have hP : va_P D zC (zl (n + 2) ad2 (va_up ct2 (n + 1) (.inl (ca 0, 1, .inl (zf (va_up (fun _ => 0) 0 b)))))) H := hP
      obtain ⟨ct3, hct3⟩ : ∃ c, c = va_up ct2 (n + 1) (.inl (ca 0, 1, .inl (zf (va_up (fun _ => 0) 0 b)))) := ⟨_, rfl⟩
      rw [← hct3] at hP
      have c0 : ct3 0 = .inr (0, [.ref (ad2 1), .int (nI (sc 0)), tv, .ref (ad2 2), .int (nI (sc 1)), .ref (ad2 3), .ref (ad2 4), .ref (ad2 6), .int (nI (sc 2)), .int (nI (sc 3))]) := by rw [hct3]; exact (va_up_ne _ _ (by omega)).trans c0
      have c1 : ct3 1 = .inl (ca 2, 6, .inr (.inr (.inr (.inr sk)))) := by rw [hct3]; exact (va_up_ne _ _ (by omega)).trans c1
      have x1 : ct3 n = .inr (4, [.int 0, .null, .null, .int 0, .int 0, .int 0, .int 0]) := by rw [hct3]; exact (va_up_ne _ _ (by omega)).trans x1
      have x2 : ct3 (n + 1) = .inl (ca 0, 1, .inl (zf (va_up (fun _ => 0) 0 b))) := by rw [hct3]; exact va_up_self _ _ _
      refine lv_iconst (v := 1) hx hb d_D_leaf_29 rfl ?_
      refine dd_newi hx hb hts hK hP hD hS hA 1 rfl (by decide) (by decide) (by decide) d_D_leaf_30 (fun ad3 H hag hP hD hS => ?_)
      have a0 : ad3 (n + 1) = ad2 (n + 1) := hag (n + 1) (by omega)
      have a1 : ad3 n = ad2 n := hag n (by omega)
      have a2 : ad3 0 = ad2 0 := hag 0 (by omega)
      have a3 : ad3 1 = ad2 1 := hag 1 (by omega)
      have a4 : ad3 2 = ad2 2 := hag 2 (by omega)
      have a5 : ad3 3 = ad2 3 := hag 3 (by omega)
      have a6 : ad3 4 = ad2 4 := hag 4 (by omega)
      have a7 : ad3 6 = ad2 6 := hag 6 (by omega)
      refine W.eq (g2 := F0 m 32 ls [.ref (ad3 (n + 2)), .ref (ad3 (n + 1)), .ref (ad3 n), .ref (ad3 n), .ref (ad3 0)]) (by simp only [a0, a1, a2, a3, a4, a5, a6, a7]) ?_
      have hl : lv_has ls 3 [(0, .ref (ad3 0)), (1, .int (nI b)), (2, .int (nI y))] := by simp only [a0, a1, a2, a3, a4, a5, a6, a7]; exact hl
      obtain ⟨ct4, hct4⟩ : ∃ c, c = va_up ct3 (n + 2) (.inl (ca 0, 1, .inl (zf (fun _ => 0)))) := ⟨_, rfl⟩
      rw [← hct4] at hP
      have c0 : ct4 0 = .inr (0, [.ref (ad3 1), .int (nI (sc 0)), tv, .ref (ad3 2), .int (nI (sc 1)), .ref (ad3 3), .ref (ad3 4), .ref (ad3 6), .int (nI (sc 2)), .int (nI (sc 3))]) := by rw [hct4, va_up_ne _ _ (by omega)]; simp only [a0, a1, a2, a3, a4, a5, a6, a7]; exact c0
      have c1 : ct4 1 = .inl (ca 2, 6, .inr (.inr (.inr (.inr sk)))) := by rw [hct4, va_up_ne _ _ (by omega)]; exact c1
      have x1 : ct4 n = .inr (4, [.int 0, .null, .null, .int 0, .int 0, .int 0, .int 0]) := by rw [hct4, va_up_ne _ _ (by omega)]; exact x1
      have x2 : ct4 (n + 1) = .inl (ca 0, 1, .inl (zf (va_up (fun _ => 0) 0 b))) := by rw [hct4, va_up_ne _ _ (by omega)]; exact x2
      have x3 : ct4 (n + 2) = .inl (ca 0, 1, .inl (zf (fun _ => 0))) := by rw [hct4]; exact va_up_self _ _ _
      have hag3 := hag
      have hI : dI (n + 3) ad3 := hD.1
      have hAA := zD_A hD
      refine lv_dup hx hb d_D_leaf_32 rfl ?_
      refine lv_iconst (v := 0) hx hb d_D_leaf_33 rfl ?_
      refine lv_iload_n hx hb d_D_leaf_34 rfl (lv_at hl 2 rfl) ?_
      refine dd_ast hx hb hK hP hD hS (j := n + 2) (by omega) x3 (0) rfl (by omega) (by decide) (y) (rfl) d_D_leaf_35 (fun H locs hP hS => ?_)
      have hP : va_P D zC (zl (n + 3) ad3 (va_up ct4 (n + 2) (.inl (ca 0, 1, .inl (zf (va_up (fun _ => 0) 0 y)))))) H := hP
      obtain ⟨ct5, hct5⟩ : ∃ c, c = va_up ct4 (n + 2) (.inl (ca 0, 1, .inl (zf (va_up (fun _ => 0) 0 y)))) := ⟨_, rfl⟩
      rw [← hct5] at hP
      have c0 : ct5 0 = .inr (0, [.ref (ad3 1), .int (nI (sc 0)), tv, .ref (ad3 2), .int (nI (sc 1)), .ref (ad3 3), .ref (ad3 4), .ref (ad3 6), .int (nI (sc 2)), .int (nI (sc 3))]) := by rw [hct5]; exact (va_up_ne _ _ (by omega)).trans c0
      have c1 : ct5 1 = .inl (ca 2, 6, .inr (.inr (.inr (.inr sk)))) := by rw [hct5]; exact (va_up_ne _ _ (by omega)).trans c1
      have x1 : ct5 n = .inr (4, [.int 0, .null, .null, .int 0, .int 0, .int 0, .int 0]) := by rw [hct5]; exact (va_up_ne _ _ (by omega)).trans x1
      have x2 : ct5 (n + 1) = .inl (ca 0, 1, .inl (zf (va_up (fun _ => 0) 0 b))) := by rw [hct5]; exact (va_up_ne _ _ (by omega)).trans x2
      have x3 : ct5 (n + 2) = .inl (ca 0, 1, .inl (zf (va_up (fun _ => 0) 0 y))) := by rw [hct5]; exact va_up_self _ _ _
      refine dd_cI (index := 75) (k := 2) (b := ad3 n) (As := [.ref (ad3 (n + 1)), .ref (ad3 (n + 2))]) (rest := [.ref (ad3 n), .ref (ad3 0)]) ⟨hx, hb, hml, hown, hts⟩ (k_initF l D ca (n + 3) ad3 ct5 hI n (n + 1) (n + 2) (by omega) (by omega) (by omega) x1) mk_D_75 mo_F_init mi_F mc_F_init (by decide +kernel) rfl ⟨rfl, rfl⟩ ⟨by decide, by decide⟩ hN hK hP hS hAA rfl hl.1 rfl (Nat.le_of_ble_eq_true rfl) d_D_leaf_36 ⟨by decide, by decide⟩ (fun ct6 H locs hct6 hP hS => ?_)
      have c0 : ct6 0 = .inr (0, [.ref (ad3 1), .int (nI (sc 0)), tv, .ref (ad3 2), .int (nI (sc 1)), .ref (ad3 3), .ref (ad3 4), .ref (ad3 6), .int (nI (sc 2)), .int (nI (sc 3))]) := by rw [hct6]; exact (va_up_ne _ _ (by omega)).trans c0
      have c1 : ct6 1 = .inl (ca 2, 6, .inr (.inr (.inr (.inr sk)))) := by rw [hct6]; exact (va_up_ne _ _ (by omega)).trans c1
      have x2 : ct6 (n + 1) = .inl (ca 0, 1, .inl (zf (va_up (fun _ => 0) 0 b))) := by rw [hct6]; exact (va_up_ne _ _ (by omega)).trans x2
      have x3 : ct6 (n + 2) = .inl (ca 0, 1, .inl (zf (va_up (fun _ => 0) 0 y))) := by rw [hct6]; exact (va_up_ne _ _ (by omega)).trans x3
      have x1 : ct6 n = .inr (4, [.int (nI 1), .ref (ad3 (n + 1)), .ref (ad3 (n + 2)), .int 0, .int 0, .int 0, .int 0]) := by rw [hct6]; exact va_up_self _ _ _
      refine dd_cv (index := 78) (k := 1) (As := [.ref (ad3 n)]) (rest := []) ⟨hx, hb, hml, hown, hts⟩ (k_push l D ca (n + 3) ad3 ct6 hI tv sc (by omega) c0 sk c1 n 4 _ (by omega) x1 (Or.inl rfl) z2) mk_D_78 mo_D_push me_D_D_push_D mi_D mc_D_push (by decide +kernel) ⟨rfl, rfl⟩ ⟨by decide, by decide⟩ (dd_pre hN hK hP (j := 0) (by omega) c0 (r := (R_D, T_D, 10)) rfl) hS hAA rfl hl.1 rfl (Nat.le_of_ble_eq_true rfl) d_D_leaf_39 ⟨by decide, by decide⟩ (fun ct7 H locs hct7 hP hS => ?_)
      have c0 : ct7 0 = .inr (0, [.ref (ad3 1), .int (nI (sc 0 + 1)), tv, .ref (ad3 2), .int (nI (sc 1)), .ref (ad3 3), .ref (ad3 4), .ref (ad3 6), .int (nI (sc 2)), .int (nI (sc 3))]) := by rw [hct7]; exact va_up_self _ _ _
      have c1 : ct7 1 = .inl (ca 2, 6, .inr (.inr (.inr (.inr (va_up sk (sc 0) (some (ad3 n))))))) := by rw [hct7]; exact (va_up_ne _ _ (by decide)).trans (va_up_self _ _ _)
      have x1 : ct7 n = .inr (4, [.int (nI 1), .ref (ad3 (n + 1)), .ref (ad3 (n + 2)), .int 0, .int 0, .int 0, .int 0]) := by rw [hct7]; exact (va_up_ne _ _ (by omega)).trans ((va_up_ne _ _ (by omega)).trans x1)
      have x2 : ct7 (n + 1) = .inl (ca 0, 1, .inl (zf (va_up (fun _ => 0) 0 b))) := by rw [hct7]; exact (va_up_ne _ _ (by omega)).trans ((va_up_ne _ _ (by omega)).trans x2)
      have x3 : ct7 (n + 2) = .inl (ca 0, 1, .inl (zf (va_up (fun _ => 0) 0 y))) := by rw [hct7]; exact (va_up_ne _ _ (by omega)).trans ((va_up_ne _ _ (by omega)).trans x3)
      refine lv_iconst (v := 1) hx hb d_D_leaf_42 rfl ?_
      refine W.widen (k := 3) (n := 9) (by decide) (by decide) ?_
      exact W.zret hx hb hr (rfl) (fun t ht hW => ⟨⟨_, (n + 3, ad3, ct7), rfl, Or.inr ⟨hq, rfl, rfl, fun j hj => (hag3 j (by omega)).trans ((hag2 j (by omega)).trans (hag1 j (by omega))), hD, c0, c1, x1, x2, x3, fun q h1 h2 => by show ct7 q = ct q; rw [hct7, va_up_ne _ _ (by omega), va_up_ne _ _ (by omega), hct6, va_up_ne _ _ (by omega), hct5, va_up_ne _ _ (by omega), hct4, va_up_ne _ _ (by omega), hct3, va_up_ne _ _ (by omega), hct2, va_up_ne _ _ (by omega), hct1, va_up_ne _ _ (by omega)]⟩, zN_warm hW hN, va_K.moved hW.alike hK, by rw [ht]; exact hP⟩, hS.F ht⟩) hS.2.2 d_D_leaf_43
    · skip
      have hq : (!decide (6 ≤ sc 0) && (bs b && el y)) = false := by rw [zb_eq h12, Bool.and_false]
      refine lv_iconst (v := 0) hx hb d_D_leaf_15 rfl ?_
      refine W.widen (k := 3) (n := 9) (by decide) (by decide) ?_
      exact W.zret hx hb hr (rfl) (fun t ht hW => ⟨⟨_, (n, ad, ct), rfl, Or.inl ⟨hq, rfl, rfl⟩, zN_warm hW hN, va_K.moved hW.alike hK, by rw [ht]; exact hP⟩, hS.F ht⟩) hS.2.2 d_D_leaf_16

theorem d_D_equal_0 : decode c_D_equal 0 = .ok (.aload_n 0, 1) := by decide +kernel
theorem d_D_equal_1 : decode c_D_equal 1 = .ok (.invokevirtual 67, 3) := by decide +kernel
theorem d_D_equal_4 : decode c_D_equal 4 = .ok (.ifCond .ne 20, 3) := by decide +kernel
theorem d_D_equal_7 : decode c_D_equal 7 = .ok (.iload_n 1, 1) := by decide +kernel
theorem d_D_equal_8 : decode c_D_equal 8 = .ok (.iload_n 2, 1) := by decide +kernel
theorem d_D_equal_9 : decode c_D_equal 9 = .ok (.invokestatic 71, 3) := by decide +kernel
theorem d_D_equal_12 : decode c_D_equal 12 = .ok (.ifCond .eq 12, 3) := by decide +kernel
theorem d_D_equal_15 : decode c_D_equal 15 = .ok (.iload_n 3, 1) := by decide +kernel
theorem d_D_equal_16 : decode c_D_equal 16 = .ok (.iload 4, 2) := by decide +kernel
theorem d_D_equal_18 : decode c_D_equal 18 = .ok (.invokestatic 71, 3) := by decide +kernel
theorem d_D_equal_21 : decode c_D_equal 21 = .ok (.ifCond .ne 5, 3) := by decide +kernel
theorem d_D_equal_24 : decode c_D_equal 24 = .ok (.iconst 0, 1) := by decide +kernel
theorem d_D_equal_25 : decode c_D_equal 25 = .ok (.ireturn, 1) := by decide +kernel
theorem d_D_equal_26 : decode c_D_equal 26 = .ok (.aload_n 0, 1) := by decide +kernel
theorem d_D_equal_27 : decode c_D_equal 27 = .ok (.new 23, 3) := by decide +kernel
theorem d_D_equal_30 : decode c_D_equal 30 = .ok (.dup, 1) := by decide +kernel
theorem d_D_equal_31 : decode c_D_equal 31 = .ok (.iconst 2, 1) := by decide +kernel
theorem d_D_equal_32 : decode c_D_equal 32 = .ok (.newarray .int, 2) := by decide +kernel
theorem d_D_equal_34 : decode c_D_equal 34 = .ok (.dup, 1) := by decide +kernel
theorem d_D_equal_35 : decode c_D_equal 35 = .ok (.iconst 0, 1) := by decide +kernel
theorem d_D_equal_36 : decode c_D_equal 36 = .ok (.iload_n 1, 1) := by decide +kernel
theorem d_D_equal_37 : decode c_D_equal 37 = .ok (.iastore, 1) := by decide +kernel
theorem d_D_equal_38 : decode c_D_equal 38 = .ok (.dup, 1) := by decide +kernel
theorem d_D_equal_39 : decode c_D_equal 39 = .ok (.iconst 1, 1) := by decide +kernel
theorem d_D_equal_40 : decode c_D_equal 40 = .ok (.iload_n 3, 1) := by decide +kernel
theorem d_D_equal_41 : decode c_D_equal 41 = .ok (.iastore, 1) := by decide +kernel
theorem d_D_equal_42 : decode c_D_equal 42 = .ok (.iconst 2, 1) := by decide +kernel
theorem d_D_equal_43 : decode c_D_equal 43 = .ok (.newarray .int, 2) := by decide +kernel
theorem d_D_equal_45 : decode c_D_equal 45 = .ok (.dup, 1) := by decide +kernel
theorem d_D_equal_46 : decode c_D_equal 46 = .ok (.iconst 0, 1) := by decide +kernel
theorem d_D_equal_47 : decode c_D_equal 47 = .ok (.iload_n 2, 1) := by decide +kernel
theorem d_D_equal_48 : decode c_D_equal 48 = .ok (.iastore, 1) := by decide +kernel
theorem d_D_equal_49 : decode c_D_equal 49 = .ok (.dup, 1) := by decide +kernel
theorem d_D_equal_50 : decode c_D_equal 50 = .ok (.iconst 1, 1) := by decide +kernel
theorem d_D_equal_51 : decode c_D_equal 51 = .ok (.iload 4, 2) := by decide +kernel
theorem d_D_equal_53 : decode c_D_equal 53 = .ok (.iastore, 1) := by decide +kernel
theorem d_D_equal_54 : decode c_D_equal 54 = .ok (.invokespecial 75, 3) := by decide +kernel
theorem d_D_equal_57 : decode c_D_equal 57 = .ok (.invokevirtual 78, 3) := by decide +kernel
theorem d_D_equal_60 : decode c_D_equal 60 = .ok (.iconst 1, 1) := by decide +kernel
theorem d_D_equal_61 : decode c_D_equal 61 = .ok (.ireturn, 1) := by decide +kernel

set_option maxHeartbeats 4000000 in
set_option maxRecDepth 100000 in
/-- equal -/
theorem k_equalD (l : Launch) (D : va_G) (ca : Nat → ClassId) (n : Nat) (ad : Nat → Nat) (ct : Nat → va_E) (hI : dI n ad) (sz : Nat) (tv : Value) (sc : Nat → Nat) (hn0 : 8 ≤ n) (c0 : ct 0 = dkC ad tv sc) (sk : Nat → Option Nat) (c1 : ct 1 = skC ca sk) (hsc : sc 0 ≤ 6) (b y d w : Nat) (hb0 : b < 2 ^ 32) (hy0 : y < 2 ^ 32) (hd0 : d < 2 ^ 32) (hw0 : w < 2 ^ 32) : Met l y_D_equal (Cond.code y_D_equal c_D_equal 5 (some .boolean) :: zT) ({ frames := 4, cells := 3, slots := 11, locals := 160 }) (va_Pc [.ref (ad 0), .int (nI b), .int (nI y), .int (nI d), .int (nI w)] (fun U => U.heap.size = sz ∧ dw D ca n ad ct U)) (va_Qi (S := dU) (fun r u => ((!decide (6 ≤ sc 0) && ((bs b && el y) && (bs d && el w))) = false ∧ r = 0 ∧ u = (n, ad, ct)) ∨ ((!decide (6 ≤ sc 0) && ((bs b && el y) && (bs d && el w))) = true ∧ r = 1 ∧ u.1 = n + 3 ∧ (∀ j, j < n → u.2.1 j = ad j) ∧ zD (nA n ad sz) (n + 3) u.2.1 ∧ u.2.2 0 = dkC u.2.1 tv (va_up sc 0 (sc 0 + 1)) ∧ u.2.2 1 = skC ca (va_up sk (sc 0) (some (u.2.1 n))) ∧ u.2.2 n = .inr (4, [.int (nI 1), .ref (u.2.1 (n + 1)), .ref (u.2.1 (n + 2)), .int 0, .int 0, .int 0, .int 0]) ∧ u.2.2 (n + 1) = .inl (ca 0, 2, .inl (zf (va_up (va_up (fun _ => 0) 0 b) 1 d))) ∧ u.2.2 (n + 2) = .inl (ca 0, 2, .inl (zf (va_up (va_up (fun _ => 0) 0 y) 1 w))) ∧ ∀ q, q < n → 2 ≤ q → u.2.2 q = ct q)) (fun u => dw D ca u.1 u.2.1 u.2.2) (nA n ad sz)) 3 11 (nA n ad sz) := by
  refine Met.ofW (cc := c_D_equal) (maxL := 5) (ret := (some .boolean)) (by decide) rfl ?_
  intro p e s m args below meth c s₁ B hml hv
  obtain ⟨rfl, hsz, hN, hK, hP⟩ := hv
  have hx := B.exec
  have hb := B.bytes
  have hr := B.returns
  have hts0 := atoms_spec (ws := Cond.code y_D_equal c_D_equal 5 (some .boolean) :: zT) B.pre
  have hts := fun w h => hts0 w (List.mem_cons_of_mem _ h)
  have hown : s.vm.findClass R_D = some m.cls := findClass_of_methodNamed B.named
  have hlocks := B.notSynchronized
  subst hsz
  have hD : zD (nA n ad s.heap.size) n ad := ⟨hI, fun j hj => Or.inl ⟨j, hj, rfl⟩⟩
  have hA : ∀ q : Nat, s.heap.size ≤ q → nA n ad s.heap.size q := fun q h => Or.inr h
  have hS : va_S (nA n ad s.heap.size) s.heap s.heap [] := va_S.rf
  have hAA : ∀ q, dA n ad q → nA n ad s.heap.size q := fun _ h => Or.inl h
  have hl := lv_entry ([.ref (ad 0), .int (nI b), .int (nI y), .int (nI d), .int (nI w)]) (n := 5) (Nat.le_of_ble_eq_true rfl)
  rw [lg_entry_eq]
  generalize (lg_sl ([.ref (ad 0), .int (nI b), .int (nI y), .int (nI d), .int (nI w)]) ++ List.replicate (5 - (lg_sl ([.ref (ad 0), .int (nI b), .int (nI y), .int (nI d), .int (nI w)])).length) Slot.unset).toArray = ls at hl ⊢
  have hl : lv_has ls 5 [(0, .ref (ad 0)), (1, .int (nI b)), (2, .int (nI y)), (3, .int (nI d)), (4, .int (nI w))] := hl
  refine lv_aload_n hx hb d_D_equal_0 rfl (lv_at hl 0 rfl) ?_
  refine zz_cV (index := 67) (n := 0) (As := []) (rest := []) ⟨hx, hb, hml, hown, hts⟩ (k_isFull l D ca n ad ct tv sc hn0 c0 hsc) mk_D_67 mo_D_isFull me_D_D_isFull_D mi_D mc_D_isFull (by decide +kernel) ⟨rfl, rfl⟩ ⟨by decide, by decide⟩ (dd_pre hN hK hP (j := 0) (by omega) c0 (r := (R_D, T_D, 10)) rfl) rfl hl.1 rfl (Nat.le_of_ble_eq_true rfl) d_D_equal_1 ⟨by decide, by decide⟩ ?_
  refine lv_if_ne (tgt := 24) hx hb d_D_equal_4 rfl (fun h4 => ?_) (fun h4 => ?_)
  · skip
    have hq : (!decide (6 ≤ sc 0) && ((bs b && el y) && (bs d && el w))) = false := by rw [zb_ne h4]; rfl
    refine lv_iconst (v := 0) hx hb d_D_equal_24 rfl ?_
    refine W.widen (k := 3) (n := 11) (by decide) (by decide) ?_
    exact W.zret hx hb hr (rfl) (fun t ht hW => ⟨⟨_, (n, ad, ct), rfl, Or.inl ⟨hq, rfl, rfl⟩, zN_warm hW hN, va_K.moved hW.alike hK, by rw [ht]; exact hP⟩, hS.F ht⟩) hS.2.2 d_D_equal_25
  · skip
    have z1 := zb_eq h4
    have z2 : sc 0 < 6 := by have := of_decide_eq_false z1; omega
    refine lv_iload_n hx hb d_D_equal_7 rfl (lv_at hl 1 rfl) ?_
    refine lv_iload_n hx hb d_D_equal_8 rfl (lv_at hl 2 rfl) ?_
    refine zz_cS (index := 71) (n := 2) (As := [.int (nI b), .int (nI y)]) (rest := []) ⟨hx, hb, hml, hown, hts⟩ (k_isPair l b y hb0 hy0) mk_D_71 ms_D_isPair mi_D mc_D_isPair (by decide +kernel) ⟨rfl, rfl⟩ ⟨by decide, by decide⟩ preEq rfl hl.1 rfl (Nat.le_of_ble_eq_true rfl) d_D_equal_9 ⟨by decide, by decide⟩ ?_
    refine lv_if_eq (tgt := 24) hx hb d_D_equal_12 rfl (fun h12 => ?_) (fun h12 => ?_)
    · skip
      have hq : (!decide (6 ≤ sc 0) && ((bs b && el y) && (bs d && el w))) = false := by rw [zb_eq h12, Bool.false_and, Bool.and_false]
      refine lv_iconst (v := 0) hx hb d_D_equal_24 rfl ?_
      refine W.widen (k := 3) (n := 11) (by decide) (by decide) ?_
      exact W.zret hx hb hr (rfl) (fun t ht hW => ⟨⟨_, (n, ad, ct), rfl, Or.inl ⟨hq, rfl, rfl⟩, zN_warm hW hN, va_K.moved hW.alike hK, by rw [ht]; exact hP⟩, hS.F ht⟩) hS.2.2 d_D_equal_25
    · skip
      have z3 := zb_ne h12
      refine lv_iload_n hx hb d_D_equal_15 rfl (lv_at hl 3 rfl) ?_
      refine lv_iload hx hb d_D_equal_16 (lv_at hl 4 rfl) ?_
      refine zz_cS (index := 71) (n := 2) (As := [.int (nI d), .int (nI w)]) (rest := []) ⟨hx, hb, hml, hown, hts⟩ (k_isPair l d w hd0 hw0) mk_D_71 ms_D_isPair mi_D mc_D_isPair (by decide +kernel) ⟨rfl, rfl⟩ ⟨by decide, by decide⟩ preEq rfl hl.1 rfl (Nat.le_of_ble_eq_true rfl) d_D_equal_18 ⟨by decide, by decide⟩ ?_
      refine lv_if_ne (tgt := 26) hx hb d_D_equal_21 rfl (fun h21 => ?_) (fun h21 => ?_)
      · skip
        have hq : (!decide (6 ≤ sc 0) && ((bs b && el y) && (bs d && el w))) = true := by rw [z1, z3, zb_ne h21]; rfl
        refine lv_aload_n hx hb d_D_equal_26 rfl (lv_at hl 0 rfl) ?_
        refine dd_newO (ci := 4) (C := R_F) (T := T_F) (N := 7) hx hb hts in_F ft_F ft_F_ok hown ml_D_23 mt_F mi_F hK hP hD hS hA rfl (fs := [.int 0, .null, .null, .int 0, .int 0, .int 0, .int 0]) (fun j hj => by rcases (show j = 0 ∨ j = 1 ∨ j = 2 ∨ j = 3 ∨ j = 4 ∨ j = 5 ∨ j = 6 by omega) with rfl | rfl | rfl | rfl | rfl | rfl | rfl <;> rfl) (by decide) (by decide) d_D_equal_27 (fun ad1 H hag hP hD hS => ?_)
        have a0 : ad1 0 = ad 0 := hag 0 (by omega)
        have a1 : ad1 1 = ad 1 := hag 1 (by omega)
        have a2 : ad1 2 = ad 2 := hag 2 (by omega)
        have a3 : ad1 3 = ad 3 := hag 3 (by omega)
        have a4 : ad1 4 = ad 4 := hag 4 (by omega)
        have a5 : ad1 6 = ad 6 := hag 6 (by omega)
        refine W.eq (g2 := F0 m 30 ls [.ref (ad1 n), .ref (ad1 0)]) (by simp only [a0, a1, a2, a3, a4, a5]) ?_
        have hl : lv_has ls 5 [(0, .ref (ad1 0)), (1, .int (nI b)), (2, .int (nI y)), (3, .int (nI d)), (4, .int (nI w))] := by simp only [a0, a1, a2, a3, a4, a5]; exact hl
        obtain ⟨ct1, hct1⟩ : ∃ c, c = va_up ct (n) (.inr (4, [.int 0, .null, .null, .int 0, .int 0, .int 0, .int 0])) := ⟨_, rfl⟩
        rw [← hct1] at hP
        have c0 : ct1 0 = .inr (0, [.ref (ad1 1), .int (nI (sc 0)), tv, .ref (ad1 2), .int (nI (sc 1)), .ref (ad1 3), .ref (ad1 4), .ref (ad1 6), .int (nI (sc 2)), .int (nI (sc 3))]) := by rw [hct1, va_up_ne _ _ (by omega)]; simp only [a0, a1, a2, a3, a4, a5]; exact c0
        have c1 : ct1 1 = .inl (ca 2, 6, .inr (.inr (.inr (.inr sk)))) := by rw [hct1, va_up_ne _ _ (by omega)]; exact c1
        have x1 : ct1 (n) = .inr (4, [.int 0, .null, .null, .int 0, .int 0, .int 0, .int 0]) := by rw [hct1]; exact va_up_self _ _ _
        have hag1 := hag
        have hI : dI (n + 1) ad1 := hD.1
        have hAA := zD_A hD
        refine lv_dup hx hb d_D_equal_30 rfl ?_
        refine lv_iconst (v := 2) hx hb d_D_equal_31 rfl ?_
        refine dd_newi hx hb hts hK hP hD hS hA 2 rfl (by decide) (by decide) (by decide) d_D_equal_32 (fun ad2 H hag hP hD hS => ?_)
        have a0 : ad2 n = ad1 n := hag n (by omega)
        have a1 : ad2 0 = ad1 0 := hag 0 (by omega)
        have a2 : ad2 1 = ad1 1 := hag 1 (by omega)
        have a3 : ad2 2 = ad1 2 := hag 2 (by omega)
        have a4 : ad2 3 = ad1 3 := hag 3 (by omega)
        have a5 : ad2 4 = ad1 4 := hag 4 (by omega)
        have a6 : ad2 6 = ad1 6 := hag 6 (by omega)
        refine W.eq (g2 := F0 m 34 ls [.ref (ad2 (n + 1)), .ref (ad2 n), .ref (ad2 n), .ref (ad2 0)]) (by simp only [a0, a1, a2, a3, a4, a5, a6]) ?_
        have hl : lv_has ls 5 [(0, .ref (ad2 0)), (1, .int (nI b)), (2, .int (nI y)), (3, .int (nI d)), (4, .int (nI w))] := by simp only [a0, a1, a2, a3, a4, a5, a6]; exact hl
        obtain ⟨ct2, hct2⟩ : ∃ c, c = va_up ct1 (n + 1) (.inl (ca 0, 2, .inl (zf (fun _ => 0)))) := ⟨_, rfl⟩
        rw [← hct2] at hP
        have c0 : ct2 0 = .inr (0, [.ref (ad2 1), .int (nI (sc 0)), tv, .ref (ad2 2), .int (nI (sc 1)), .ref (ad2 3), .ref (ad2 4), .ref (ad2 6), .int (nI (sc 2)), .int (nI (sc 3))]) := by rw [hct2, va_up_ne _ _ (by omega)]; simp only [a0, a1, a2, a3, a4, a5, a6]; exact c0
        have c1 : ct2 1 = .inl (ca 2, 6, .inr (.inr (.inr (.inr sk)))) := by rw [hct2, va_up_ne _ _ (by omega)]; exact c1
        have x1 : ct2 n = .inr (4, [.int 0, .null, .null, .int 0, .int 0, .int 0, .int 0]) := by rw [hct2, va_up_ne _ _ (by omega)]; exact x1
        have x2 : ct2 (n + 1) = .inl (ca 0, 2, .inl (zf (fun _ => 0))) := by rw [hct2]; exact va_up_self _ _ _
        have hag2 := hag
        have hI : dI (n + 2) ad2 := hD.1
        have hAA := zD_A hD
        refine lv_dup hx hb d_D_equal_34 rfl ?_
        refine lv_iconst (v := 0) hx hb d_D_equal_35 rfl ?_
        refine lv_iload_n hx hb d_D_equal_36 rfl (lv_at hl 1 rfl) ?_
        refine dd_ast hx hb hK hP hD hS (j := n + 1) (by omega) x2 (0) rfl (by omega) (by decide) (b) (rfl) d_D_equal_37 (fun H locs hP hS => ?_)
        have hP : va_P D zC (zl (n + 2) ad2 (va_up ct2 (n + 1) (.inl (ca 0, 2, .inl (zf (va_up (fun _ => 0) 0 b)))))) H := hP
        obtain ⟨ct3, hct3⟩ : ∃ c, c = va_up ct2 (n + 1) (.inl (ca 0, 2, .inl (zf (va_up (fun _ => 0) 0 b)))) := ⟨_, rfl⟩
        rw [← hct3] at hP
        have c0 : ct3 0 = .inr (0, [.ref (ad2 1), .int (nI (sc 0)), tv, .ref (ad2 2), .int (nI (sc 1)), .ref (ad2 3), .ref (ad2 4), .ref (ad2 6), .int (nI (sc 2)), .int (nI (sc 3))]) := by rw [hct3]; exact (va_up_ne _ _ (by omega)).trans c0
        have c1 : ct3 1 = .inl (ca 2, 6, .inr (.inr (.inr (.inr sk)))) := by rw [hct3]; exact (va_up_ne _ _ (by omega)).trans c1
        have x1 : ct3 n = .inr (4, [.int 0, .null, .null, .int 0, .int 0, .int 0, .int 0]) := by rw [hct3]; exact (va_up_ne _ _ (by omega)).trans x1
        have x2 : ct3 (n + 1) = .inl (ca 0, 2, .inl (zf (va_up (fun _ => 0) 0 b))) := by rw [hct3]; exact va_up_self _ _ _
        refine lv_dup hx hb d_D_equal_38 rfl ?_
        refine lv_iconst (v := 1) hx hb d_D_equal_39 rfl ?_
        refine lv_iload_n hx hb d_D_equal_40 rfl (lv_at hl 3 rfl) ?_
        refine dd_ast hx hb hK hP hD hS (j := n + 1) (by omega) x2 (1) rfl (by omega) (by decide) (d) (rfl) d_D_equal_41 (fun H locs hP hS => ?_)
        have hP : va_P D zC (zl (n + 2) ad2 (va_up ct3 (n + 1) (.inl (ca 0, 2, .inl (zf (va_up (va_up (fun _ => 0) 0 b) 1 d)))))) H := hP
        obtain ⟨ct4, hct4⟩ : ∃ c, c = va_up ct3 (n + 1) (.inl (ca 0, 2, .inl (zf (va_up (va_up (fun _ => 0) 0 b) 1 d)))) := ⟨_, rfl⟩
        rw [← hct4] at hP
        have c0 : ct4 0 = .inr (0, [.ref (ad2 1), .int (nI (sc 0)), tv, .ref (ad2 2), .int (nI (sc 1)), .ref (ad2 3), .ref (ad2 4), .ref (ad2 6), .int (nI (sc 2)), .int (nI (sc 3))]) := by rw [hct4]; exact (va_up_ne _ _ (by omega)).trans c0
        have c1 : ct4 1 = .inl (ca 2, 6, .inr (.inr (.inr (.inr sk)))) := by rw [hct4]; exact (va_up_ne _ _ (by omega)).trans c1
        have x1 : ct4 n = .inr (4, [.int 0, .null, .null, .int 0, .int 0, .int 0, .int 0]) := by rw [hct4]; exact (va_up_ne _ _ (by omega)).trans x1
        have x2 : ct4 (n + 1) = .inl (ca 0, 2, .inl (zf (va_up (va_up (fun _ => 0) 0 b) 1 d))) := by rw [hct4]; exact va_up_self _ _ _
        refine lv_iconst (v := 2) hx hb d_D_equal_42 rfl ?_
        refine dd_newi hx hb hts hK hP hD hS hA 2 rfl (by decide) (by decide) (by decide) d_D_equal_43 (fun ad3 H hag hP hD hS => ?_)
        have a0 : ad3 (n + 1) = ad2 (n + 1) := hag (n + 1) (by omega)
        have a1 : ad3 n = ad2 n := hag n (by omega)
        have a2 : ad3 0 = ad2 0 := hag 0 (by omega)
        have a3 : ad3 1 = ad2 1 := hag 1 (by omega)
        have a4 : ad3 2 = ad2 2 := hag 2 (by omega)
        have a5 : ad3 3 = ad2 3 := hag 3 (by omega)
        have a6 : ad3 4 = ad2 4 := hag 4 (by omega)
        have a7 : ad3 6 = ad2 6 := hag 6 (by omega)
        refine W.eq (g2 := F0 m 45 ls [.ref (ad3 (n + 2)), .ref (ad3 (n + 1)), .ref (ad3 n), .ref (ad3 n), .ref (ad3 0)]) (by simp only [a0, a1, a2, a3, a4, a5, a6, a7]) ?_
        have hl : lv_has ls 5 [(0, .ref (ad3 0)), (1, .int (nI b)), (2, .int (nI y)), (3, .int (nI d)), (4, .int (nI w))] := by simp only [a0, a1, a2, a3, a4, a5, a6, a7]; exact hl
        obtain ⟨ct5, hct5⟩ : ∃ c, c = va_up ct4 (n + 2) (.inl (ca 0, 2, .inl (zf (fun _ => 0)))) := ⟨_, rfl⟩
        rw [← hct5] at hP
        have c0 : ct5 0 = .inr (0, [.ref (ad3 1), .int (nI (sc 0)), tv, .ref (ad3 2), .int (nI (sc 1)), .ref (ad3 3), .ref (ad3 4), .ref (ad3 6), .int (nI (sc 2)), .int (nI (sc 3))]) := by rw [hct5, va_up_ne _ _ (by omega)]; simp only [a0, a1, a2, a3, a4, a5, a6, a7]; exact c0
        have c1 : ct5 1 = .inl (ca 2, 6, .inr (.inr (.inr (.inr sk)))) := by rw [hct5, va_up_ne _ _ (by omega)]; exact c1
        have x1 : ct5 n = .inr (4, [.int 0, .null, .null, .int 0, .int 0, .int 0, .int 0]) := by rw [hct5, va_up_ne _ _ (by omega)]; exact x1
        have x2 : ct5 (n + 1) = .inl (ca 0, 2, .inl (zf (va_up (va_up (fun _ => 0) 0 b) 1 d))) := by rw [hct5, va_up_ne _ _ (by omega)]; exact x2
        have x3 : ct5 (n + 2) = .inl (ca 0, 2, .inl (zf (fun _ => 0))) := by rw [hct5]; exact va_up_self _ _ _
        have hag3 := hag
        have hI : dI (n + 3) ad3 := hD.1
        have hAA := zD_A hD
        refine lv_dup hx hb d_D_equal_45 rfl ?_
        refine lv_iconst (v := 0) hx hb d_D_equal_46 rfl ?_
        refine lv_iload_n hx hb d_D_equal_47 rfl (lv_at hl 2 rfl) ?_
        refine dd_ast hx hb hK hP hD hS (j := n + 2) (by omega) x3 (0) rfl (by omega) (by decide) (y) (rfl) d_D_equal_48 (fun H locs hP hS => ?_)
        have hP : va_P D zC (zl (n + 3) ad3 (va_up ct5 (n + 2) (.inl (ca 0, 2, .inl (zf (va_up (fun _ => 0) 0 y)))))) H := hP
        obtain ⟨ct6, hct6⟩ : ∃ c, c = va_up ct5 (n + 2) (.inl (ca 0, 2, .inl (zf (va_up (fun _ => 0) 0 y)))) := ⟨_, rfl⟩
        rw [← hct6] at hP
        have c0 : ct6 0 = .inr (0, [.ref (ad3 1), .int (nI (sc 0)), tv, .ref (ad3 2), .int (nI (sc 1)), .ref (ad3 3), .ref (ad3 4), .ref (ad3 6), .int (nI (sc 2)), .int (nI (sc 3))]) := by rw [hct6]; exact (va_up_ne _ _ (by omega)).trans c0
        have c1 : ct6 1 = .inl (ca 2, 6, .inr (.inr (.inr (.inr sk)))) := by rw [hct6]; exact (va_up_ne _ _ (by omega)).trans c1
        have x1 : ct6 n = .inr (4, [.int 0, .null, .null, .int 0, .int 0, .int 0, .int 0]) := by rw [hct6]; exact (va_up_ne _ _ (by omega)).trans x1
        have x2 : ct6 (n + 1) = .inl (ca 0, 2, .inl (zf (va_up (va_up (fun _ => 0) 0 b) 1 d))) := by rw [hct6]; exact (va_up_ne _ _ (by omega)).trans x2
        have x3 : ct6 (n + 2) = .inl (ca 0, 2, .inl (zf (va_up (fun _ => 0) 0 y))) := by rw [hct6]; exact va_up_self _ _ _
        refine lv_dup hx hb d_D_equal_49 rfl ?_
        refine lv_iconst (v := 1) hx hb d_D_equal_50 rfl ?_
        refine lv_iload hx hb d_D_equal_51 (lv_at hl 4 rfl) ?_
        refine dd_ast hx hb hK hP hD hS (j := n + 2) (by omega) x3 (1) rfl (by omega) (by decide) (w) (rfl) d_D_equal_53 (fun H locs hP hS => ?_)
        have hP : va_P D zC (zl (n + 3) ad3 (va_up ct6 (n + 2) (.inl (ca 0, 2, .inl (zf (va_up (va_up (fun _ => 0) 0 y) 1 w)))))) H := hP
        obtain ⟨ct7, hct7⟩ : ∃ c, c = va_up ct6 (n + 2) (.inl (ca 0, 2, .inl (zf (va_up (va_up (fun _ => 0) 0 y) 1 w)))) := ⟨_, rfl⟩
        rw [← hct7] at hP
        have c0 : ct7 0 = .inr (0, [.ref (ad3 1), .int (nI (sc 0)), tv, .ref (ad3 2), .int (nI (sc 1)), .ref (ad3 3), .ref (ad3 4), .ref (ad3 6), .int (nI (sc 2)), .int (nI (sc 3))]) := by rw [hct7]; exact (va_up_ne _ _ (by omega)).trans c0
        have c1 : ct7 1 = .inl (ca 2, 6, .inr (.inr (.inr (.inr sk)))) := by rw [hct7]; exact (va_up_ne _ _ (by omega)).trans c1
        have x1 : ct7 n = .inr (4, [.int 0, .null, .null, .int 0, .int 0, .int 0, .int 0]) := by rw [hct7]; exact (va_up_ne _ _ (by omega)).trans x1
        have x2 : ct7 (n + 1) = .inl (ca 0, 2, .inl (zf (va_up (va_up (fun _ => 0) 0 b) 1 d))) := by rw [hct7]; exact (va_up_ne _ _ (by omega)).trans x2
        have x3 : ct7 (n + 2) = .inl (ca 0, 2, .inl (zf (va_up (va_up (fun _ => 0) 0 y) 1 w))) := by rw [hct7]; exact va_up_self _ _ _
        refine dd_cI (index := 75) (k := 2) (b := ad3 n) (As := [.ref (ad3 (n + 1)), .ref (ad3 (n + 2))]) (rest := [.ref (ad3 n), .ref (ad3 0)]) ⟨hx, hb, hml, hown, hts⟩ (k_initF l D ca (n + 3) ad3 ct7 hI n (n + 1) (n + 2) (by omega) (by omega) (by omega) x1) mk_D_75 mo_F_init mi_F mc_F_init (by decide +kernel) rfl ⟨rfl, rfl⟩ ⟨by decide, by decide⟩ hN hK hP hS hAA rfl hl.1 rfl (Nat.le_of_ble_eq_true rfl) d_D_equal_54 ⟨by decide, by decide⟩ (fun ct8 H locs hct8 hP hS => ?_)
        have c0 : ct8 0 = .inr (0, [.ref (ad3 1), .int (nI (sc 0)), tv, .ref (ad3 2), .int (nI (sc 1)), .ref (ad3 3), .ref (ad3 4), .ref (ad3 6), .int (nI (sc 2)), .int (nI (sc 3))]) := by rw [hct8]; exact (va_up_ne _ _ (by omega)).trans c0
        have c1 : ct8 1 = .inl (ca 2, 6, .inr (.inr (.inr (.inr sk)))) := by rw [hct8]; exact (va_up_ne _ _ (by omega)).trans c1
        have x2 : ct8 (n + 1) = .inl (ca 0, 2, .inl (zf (va_up (va_up (fun _ => 0) 0 b) 1 d))) := by rw [hct8]; exact (va_up_ne _ _ (by omega)).trans x2
        have x3 : ct8 (n + 2) = .inl (ca 0, 2, .inl (zf (va_up (va_up (fun _ => 0) 0 y) 1 w))) := by rw [hct8]; exact (va_up_ne _ _ (by omega)).trans x3
        have x1 : ct8 n = .inr (4, [.int (nI 1), .ref (ad3 (n + 1)), .ref (ad3 (n + 2)), .int 0, .int 0, .int 0, .int 0]) := by rw [hct8]; exact va_up_self _ _ _
        refine dd_cv (index := 78) (k := 1) (As := [.ref (ad3 n)]) (rest := []) ⟨hx, hb, hml, hown, hts⟩ (k_push l D ca (n + 3) ad3 ct8 hI tv sc (by omega) c0 sk c1 n 4 _ (by omega) x1 (Or.inl rfl) z2) mk_D_78 mo_D_push me_D_D_push_D mi_D mc_D_push (by decide +kernel) ⟨rfl, rfl⟩ ⟨by decide, by decide⟩ (dd_pre hN hK hP (j := 0) (by omega) c0 (r := (R_D, T_D, 10)) rfl) hS hAA rfl hl.1 rfl (Nat.le_of_ble_eq_true rfl) d_D_equal_57 ⟨by decide, by decide⟩ (fun ct9 H locs hct9 hP hS => ?_)
        have c0 : ct9 0 = .inr (0, [.ref (ad3 1), .int (nI (sc 0 + 1)), tv, .ref (ad3 2), .int (nI (sc 1)), .ref (ad3 3), .ref (ad3 4), .ref (ad3 6), .int (nI (sc 2)), .int (nI (sc 3))]) := by rw [hct9]; exact va_up_self _ _ _
        have c1 : ct9 1 = .inl (ca 2, 6, .inr (.inr (.inr (.inr (va_up sk (sc 0) (some (ad3 n))))))) := by rw [hct9]; exact (va_up_ne _ _ (by decide)).trans (va_up_self _ _ _)
        have x1 : ct9 n = .inr (4, [.int (nI 1), .ref (ad3 (n + 1)), .ref (ad3 (n + 2)), .int 0, .int 0, .int 0, .int 0]) := by rw [hct9]; exact (va_up_ne _ _ (by omega)).trans ((va_up_ne _ _ (by omega)).trans x1)
        have x2 : ct9 (n + 1) = .inl (ca 0, 2, .inl (zf (va_up (va_up (fun _ => 0) 0 b) 1 d))) := by rw [hct9]; exact (va_up_ne _ _ (by omega)).trans ((va_up_ne _ _ (by omega)).trans x2)
        have x3 : ct9 (n + 2) = .inl (ca 0, 2, .inl (zf (va_up (va_up (fun _ => 0) 0 y) 1 w))) := by rw [hct9]; exact (va_up_ne _ _ (by omega)).trans ((va_up_ne _ _ (by omega)).trans x3)
        refine lv_iconst (v := 1) hx hb d_D_equal_60 rfl ?_
        refine W.widen (k := 3) (n := 11) (by decide) (by decide) ?_
        exact W.zret hx hb hr (rfl) (fun t ht hW => ⟨⟨_, (n + 3, ad3, ct9), rfl, Or.inr ⟨hq, rfl, rfl, fun j hj => (hag3 j (by omega)).trans ((hag2 j (by omega)).trans (hag1 j (by omega))), hD, c0, c1, x1, x2, x3, fun q h1 h2 => by show ct9 q = ct q; rw [hct9, va_up_ne _ _ (by omega), va_up_ne _ _ (by omega), hct8, va_up_ne _ _ (by omega), hct7, va_up_ne _ _ (by omega), hct6, va_up_ne _ _ (by omega), hct5, va_up_ne _ _ (by omega), hct4, va_up_ne _ _ (by omega), hct3, va_up_ne _ _ (by omega), hct2, va_up_ne _ _ (by omega), hct1, va_up_ne _ _ (by omega)]⟩, zN_warm hW hN, va_K.moved hW.alike hK, by rw [ht]; exact hP⟩, hS.F ht⟩) hS.2.2 d_D_equal_61
      · skip
        have hq : (!decide (6 ≤ sc 0) && ((bs b && el y) && (bs d && el w))) = false := by rw [zb_eq h21, Bool.and_false, Bool.and_false]
        refine lv_iconst (v := 0) hx hb d_D_equal_24 rfl ?_
        refine W.widen (k := 3) (n := 11) (by decide) (by decide) ?_
        exact W.zret hx hb hr (rfl) (fun t ht hW => ⟨⟨_, (n, ad, ct), rfl, Or.inl ⟨hq, rfl, rfl⟩, zN_warm hW hN, va_K.moved hW.alike hK, by rw [ht]; exact hP⟩, hS.F ht⟩) hS.2.2 d_D_equal_25

theorem d_D_join_0 : decode c_D_join 0 = .ok (.aload_n 0, 1) := by decide +kernel
theorem d_D_join_1 : decode c_D_join 1 = .ok (.getfield 15, 3) := by decide +kernel
theorem d_D_join_4 : decode c_D_join 4 = .ok (.iconst 2, 1) := by decide +kernel
theorem d_D_join_5 : decode c_D_join 5 = .ok (.if_icmp .ge 5, 3) := by decide +kernel
theorem d_D_join_8 : decode c_D_join 8 = .ok (.iconst 0, 1) := by decide +kernel
theorem d_D_join_9 : decode c_D_join 9 = .ok (.ireturn, 1) := by decide +kernel
theorem d_D_join_10 : decode c_D_join 10 = .ok (.aload_n 0, 1) := by decide +kernel
theorem d_D_join_11 : decode c_D_join 11 = .ok (.getfield 11, 3) := by decide +kernel
theorem d_D_join_14 : decode c_D_join 14 = .ok (.aload_n 0, 1) := by decide +kernel
theorem d_D_join_15 : decode c_D_join 15 = .ok (.getfield 15, 3) := by decide +kernel
theorem d_D_join_18 : decode c_D_join 18 = .ok (.iconst 2, 1) := by decide +kernel
theorem d_D_join_19 : decode c_D_join 19 = .ok (.isub, 1) := by decide +kernel
theorem d_D_join_20 : decode c_D_join 20 = .ok (.aaload, 1) := by decide +kernel
theorem d_D_join_21 : decode c_D_join 21 = .ok (.astore_n 2, 1) := by decide +kernel
theorem d_D_join_22 : decode c_D_join 22 = .ok (.aload_n 0, 1) := by decide +kernel
theorem d_D_join_23 : decode c_D_join 23 = .ok (.getfield 11, 3) := by decide +kernel
theorem d_D_join_26 : decode c_D_join 26 = .ok (.aload_n 0, 1) := by decide +kernel
theorem d_D_join_27 : decode c_D_join 27 = .ok (.getfield 15, 3) := by decide +kernel
theorem d_D_join_30 : decode c_D_join 30 = .ok (.iconst 1, 1) := by decide +kernel
theorem d_D_join_31 : decode c_D_join 31 = .ok (.isub, 1) := by decide +kernel
theorem d_D_join_32 : decode c_D_join 32 = .ok (.aaload, 1) := by decide +kernel
theorem d_D_join_33 : decode c_D_join 33 = .ok (.astore_n 3, 1) := by decide +kernel
theorem d_D_join_34 : decode c_D_join 34 = .ok (.aload_n 2, 1) := by decide +kernel
theorem d_D_join_35 : decode c_D_join 35 = .ok (.getfield 82, 3) := by decide +kernel
theorem d_D_join_38 : decode c_D_join 38 = .ok (.aload_n 3, 1) := by decide +kernel
theorem d_D_join_39 : decode c_D_join 39 = .ok (.getfield 82, 3) := by decide +kernel
theorem d_D_join_42 : decode c_D_join 42 = .ok (.iadd, 1) := by decide +kernel
theorem d_D_join_43 : decode c_D_join 43 = .ok (.bipush 8, 2) := by decide +kernel
theorem d_D_join_45 : decode c_D_join 45 = .ok (.if_icmp .le 5, 3) := by decide +kernel
theorem d_D_join_48 : decode c_D_join 48 = .ok (.iconst 0, 1) := by decide +kernel
theorem d_D_join_49 : decode c_D_join 49 = .ok (.ireturn, 1) := by decide +kernel
theorem d_D_join_50 : decode c_D_join 50 = .ok (.aload_n 0, 1) := by decide +kernel
theorem d_D_join_51 : decode c_D_join 51 = .ok (.invokevirtual 85, 3) := by decide +kernel
theorem d_D_join_54 : decode c_D_join 54 = .ok (.aload_n 0, 1) := by decide +kernel
theorem d_D_join_55 : decode c_D_join 55 = .ok (.invokevirtual 85, 3) := by decide +kernel
theorem d_D_join_58 : decode c_D_join 58 = .ok (.aload_n 0, 1) := by decide +kernel
theorem d_D_join_59 : decode c_D_join 59 = .ok (.iload_n 1, 1) := by decide +kernel
theorem d_D_join_60 : decode c_D_join 60 = .ok (.ifCond .eq 15, 3) := by decide +kernel
theorem d_D_join_63 : decode c_D_join 63 = .ok (.new 88, 3) := by decide +kernel
theorem d_D_join_66 : decode c_D_join 66 = .ok (.dup, 1) := by decide +kernel
theorem d_D_join_67 : decode c_D_join 67 = .ok (.aload_n 2, 1) := by decide +kernel
theorem d_D_join_68 : decode c_D_join 68 = .ok (.aload_n 3, 1) := by decide +kernel
theorem d_D_join_69 : decode c_D_join 69 = .ok (.invokespecial 90, 3) := by decide +kernel
theorem d_D_join_72 : decode c_D_join 72 = .ok (.goto 12, 3) := by decide +kernel
theorem d_D_join_75 : decode c_D_join 75 = .ok (.new 93, 3) := by decide +kernel
theorem d_D_join_78 : decode c_D_join 78 = .ok (.dup, 1) := by decide +kernel
theorem d_D_join_79 : decode c_D_join 79 = .ok (.aload_n 2, 1) := by decide +kernel
theorem d_D_join_80 : decode c_D_join 80 = .ok (.aload_n 3, 1) := by decide +kernel
theorem d_D_join_81 : decode c_D_join 81 = .ok (.invokespecial 95, 3) := by decide +kernel
theorem d_D_join_84 : decode c_D_join 84 = .ok (.invokevirtual 78, 3) := by decide +kernel
theorem d_D_join_87 : decode c_D_join 87 = .ok (.iconst 1, 1) := by decide +kernel
theorem d_D_join_88 : decode c_D_join 88 = .ok (.ireturn, 1) := by decide +kernel

theorem ndC_ag2 {n : Nat} {ad ad1 : Nat → Nat} {tt bb ee dd : Nat → Nat → Nat} {jt kt jd M k : Nat} (hTS : tS n tt bb ee jt kt jd M) (hk : k < M) (hag : ∀ j, j < n → ad1 j = ad j) : ndC ad1 tt dd k = ndC ad tt dd k := by
  obtain ⟨t1, t2, t3, t4⟩ := hTS.2.2.2.2 k hk
  unfold ndC
  by_cases h0 : tt 0 k = 0
  · rw [if_pos h0, if_pos h0, hag _ (t4 h0).1, hag _ (t4 h0).2.1]
  · obtain ⟨a, b⟩ := t3 h0
    rw [if_neg h0, if_neg h0, hag _ (hTS.2.2.2.2 (tt 1 k) (by omega)).1, hag _ (hTS.2.2.2.2 (tt 2 k) (by omega)).1]

set_option maxHeartbeats 4000000 in
set_option maxRecDepth 100000 in
/-- join -/
theorem k_joinD (l : Launch) (D : va_G) (ca : Nat → ClassId) (n : Nat) (ad : Nat → Nat) (ct : Nat → va_E) (hI : dI n ad) (sz : Nat) (tv : Value) (sc : Nat → Nat) (hn0 : 8 ≤ n) (c0 : ct 0 = dkC ad tv sc) (sk : Nat → Option Nat) (c1 : ct 1 = skC ca sk) (hsc : sc 0 ≤ 6) (all : Bool) (tt bb ee dd : Nat → Nat → Nat) (M kl kr : Nat) (hTS : tS n tt bb ee 4 5 3 M) (hF : 2 ≤ sc 0 → sk (sc 0 - 2) = some (ad (tt 3 kl)) ∧ sk (sc 0 - 1) = some (ad (tt 3 kr)) ∧ (kl < M ∧ 8 ≤ tt 3 kl ∧ tt 3 kl < n) ∧ (kr < M ∧ 8 ≤ tt 3 kr ∧ tt 3 kr < n) ∧ tt 0 kl ≤ 2 ∧ tt 0 kr ≤ 2 ∧ ct (tt 3 kl) = ndC ad tt dd kl ∧ ct (tt 3 kr) = ndC ad tt dd kr ∧ szN tt kl ≤ 8 ∧ szN tt kr ≤ 8) : Met l y_D_join (Cond.code y_D_join c_D_join 4 (some .boolean) :: zT) ({ frames := 5, cells := 1, slots := 5, locals := 200 }) (va_Pc [.ref (ad 0), .int (zb all)] (fun U => U.heap.size = sz ∧ dw D ca n ad ct U)) (va_Qi (S := dU) (fun r u => ((decide (2 ≤ sc 0) && decide (szN tt kl + szN tt kr ≤ 8)) = false ∧ r = 0 ∧ u = (n, ad, ct)) ∨ ((decide (2 ≤ sc 0) && decide (szN tt kl + szN tt kr ≤ 8)) = true ∧ r = 1 ∧ u.1 = n + 1 ∧ (∀ j, j < n → u.2.1 j = ad j) ∧ zD (nA n ad sz) (n + 1) u.2.1 ∧ u.2.2 0 = dkC u.2.1 tv (va_up sc 0 (sc 0 - 1 - 1 + 1)) ∧ u.2.2 1 = skC ca (va_up (va_up (va_up sk (sc 0 - 1) none) (sc 0 - 1 - 1) none) (sc 0 - 1 - 1) (some (u.2.1 n))) ∧ u.2.2 n = (if all then .inr (2, [.ref (u.2.1 (tt 3 kl)), .ref (u.2.1 (tt 3 kr)), .int (nI (szN tt kl + szN tt kr))]) else .inr (3, [.ref (u.2.1 (tt 3 kl)), .ref (u.2.1 (tt 3 kr)), .int (nI (szN tt kl + szN tt kr)), .int 0, .int 0])) ∧ ∀ q, q < n → 2 ≤ q → u.2.2 q = ct q)) (fun u => dw D ca u.1 u.2.1 u.2.2) (nA n ad sz)) 1 5 (nA n ad sz) := by
  refine Met.ofW (cc := c_D_join) (maxL := 4) (ret := (some .boolean)) (by decide) rfl ?_
  intro p e s m args below meth c s₁ B hml hv
  obtain ⟨rfl, hsz, hN, hK, hP⟩ := hv
  have hx := B.exec
  have hb := B.bytes
  have hr := B.returns
  have hts0 := atoms_spec (ws := Cond.code y_D_join c_D_join 4 (some .boolean) :: zT) B.pre
  have hts := fun w h => hts0 w (List.mem_cons_of_mem _ h)
  have hown : s.vm.findClass R_D = some m.cls := findClass_of_methodNamed B.named
  have hlocks := B.notSynchronized
  subst hsz
  have hD : zD (nA n ad s.heap.size) n ad := ⟨hI, fun j hj => Or.inl ⟨j, hj, rfl⟩⟩
  have hA : ∀ q : Nat, s.heap.size ≤ q → nA n ad s.heap.size q := fun q h => Or.inr h
  have hS : va_S (nA n ad s.heap.size) s.heap s.heap [] := va_S.rf
  have hAA : ∀ q, dA n ad q → nA n ad s.heap.size q := fun _ h => Or.inl h
  have hl := lv_entry ([.ref (ad 0), .int (zb all)]) (n := 4) (Nat.le_of_ble_eq_true rfl)
  rw [lg_entry_eq]
  generalize (lg_sl ([.ref (ad 0), .int (zb all)]) ++ List.replicate (4 - (lg_sl ([.ref (ad 0), .int (zb all)])).length) Slot.unset).toArray = ls at hl ⊢
  have hl : lv_has ls 4 [(0, .ref (ad 0)), (1, .int (zb all))] := hl
  refine lv_aload_n hx hb d_D_join_0 rfl (lv_at hl 0 rfl) ?_
  refine zz_get (j := 0) (ci := 0) (C := R_D) (T := T_D) (N := 10) hx hb hts in_D hown hK hP (by omega) c0 rfl 1 (by decide) (hts _ mf_D_15) (fun _ h => h) (v := .int (nI (sc 0))) rfl d_D_join_1 ?_
  refine lv_iconst (v := 2) hx hb d_D_join_4 rfl ?_
  refine lv_icmp_ge (tgt := 10) hx hb d_D_join_5 rfl (fun h5 => ?_) (fun h5 => ?_)
  · skip
    have z0 : 2 ≤ sc 0 := (nI_leI (a := 2) (by decide) (by omega)).mp h5
    obtain ⟨s1, s2, jl1, jr1, tl, tr, cL, cR, szl, szr⟩ := hF z0
    refine lv_aload_n hx hb d_D_join_10 rfl (lv_at hl 0 rfl) ?_
    refine zz_get (j := 0) (ci := 0) (C := R_D) (T := T_D) (N := 10) hx hb hts in_D hown hK hP (by omega) c0 rfl 0 (by decide) (hts _ mf_D_11) (fun _ h => h) (v := .ref (ad 1)) rfl d_D_join_11 ?_
    refine lv_aload_n hx hb d_D_join_14 rfl (lv_at hl 0 rfl) ?_
    refine zz_get (j := 0) (ci := 0) (C := R_D) (T := T_D) (N := 10) hx hb hts in_D hown hK hP (by omega) c0 rfl 1 (by decide) (hts _ mf_D_15) (fun _ h => h) (v := .int (nI (sc 0))) rfl d_D_join_15 ?_
    refine lv_iconst (v := 2) hx hb d_D_join_18 rfl ?_
    refine lv_isub hx hb d_D_join_19 ?_
    refine zz_as (y := nI ((sc 0) - 2)) (pk_sub (a := sc 0) (b := 2) (by omega)) ?_
    refine dd_aald hx hb hK hP (j := 1) (by omega) (t0 := 2) (Or.inl rfl) c1 (sc 0 - 2) rfl (by omega) (by decide) (v := .ref (ad (tt 3 kl))) (by rw [s1]; rfl) d_D_join_20 ?_
    refine lv_astore_n (lv' := [(2, .ref (ad (tt 3 kl))), (0, .ref (ad 0)), (1, .int (zb all))]) hx hb d_D_join_21 rfl hl (by decide) rfl (fun ls hl => ?_)
    refine lv_aload_n hx hb d_D_join_22 rfl (lv_at hl 1 rfl) ?_
    refine zz_get (j := 0) (ci := 0) (C := R_D) (T := T_D) (N := 10) hx hb hts in_D hown hK hP (by omega) c0 rfl 0 (by decide) (hts _ mf_D_11) (fun _ h => h) (v := .ref (ad 1)) rfl d_D_join_23 ?_
    refine lv_aload_n hx hb d_D_join_26 rfl (lv_at hl 1 rfl) ?_
    refine zz_get (j := 0) (ci := 0) (C := R_D) (T := T_D) (N := 10) hx hb hts in_D hown hK hP (by omega) c0 rfl 1 (by decide) (hts _ mf_D_15) (fun _ h => h) (v := .int (nI (sc 0))) rfl d_D_join_27 ?_
    refine lv_iconst (v := 1) hx hb d_D_join_30 rfl ?_
    refine lv_isub hx hb d_D_join_31 ?_
    refine zz_as (y := nI ((sc 0) - 1)) (pk_sub (a := sc 0) (b := 1) (by omega)) ?_
    refine dd_aald hx hb hK hP (j := 1) (by omega) (t0 := 2) (Or.inl rfl) c1 (sc 0 - 1) rfl (by omega) (by decide) (v := .ref (ad (tt 3 kr))) (by rw [s2]; rfl) d_D_join_32 ?_
    refine lv_astore_n (lv' := [(3, .ref (ad (tt 3 kr))), (2, .ref (ad (tt 3 kl))), (0, .ref (ad 0)), (1, .int (zb all))]) hx hb d_D_join_33 rfl hl (by decide) rfl (fun ls hl => ?_)
    refine lv_aload_n hx hb d_D_join_34 rfl (lv_at hl 1 rfl) ?_
    refine dd_size hx hb hts hown hK hP (j := tt 3 kl) jl1.2.2 (tt := tt) (dd := dd) (k := kl) tl cL mf_D_82 d_D_join_35 ?_
    refine lv_aload_n hx hb d_D_join_38 rfl (lv_at hl 0 rfl) ?_
    refine dd_size hx hb hts hown hK hP (j := tt 3 kr) jr1.2.2 (tt := tt) (dd := dd) (k := kr) tr cR mf_D_82 d_D_join_39 ?_
    refine lv_iadd hx hb d_D_join_42 ?_
    refine zz_as (y := nI ((szN tt kl) + (szN tt kr))) (nI_add (szN tt kl) (szN tt kr)) ?_
    refine lv_bipush (v := 8) hx hb d_D_join_43 rfl ?_
    refine lv_icmp_le (tgt := 50) hx hb d_D_join_45 rfl (fun h45 => ?_) (fun h45 => ?_)
    · skip
      have z3 : szN tt kl + szN tt kr ≤ 8 := (nI_leI (b := 8) (by omega) (by decide)).mp h45
      have hq : (decide (2 ≤ sc 0) && decide (szN tt kl + szN tt kr ≤ 8)) = true := by rw [decide_eq_true z0, decide_eq_true z3]; rfl
      refine lv_aload_n hx hb d_D_join_50 rfl (lv_at hl 2 rfl) ?_
      refine dd_cv (index := 85) (k := 0) (As := []) (rest := []) ⟨hx, hb, hml, hown, hts⟩ (k_drop l D ca n ad ct hI tv sc hn0 c0 sk c1 (by omega) hsc) mk_D_85 mo_D_drop me_D_D_drop_D mi_D mc_D_drop (by decide +kernel) ⟨rfl, rfl⟩ ⟨by decide, by decide⟩ (dd_pre hN hK hP (j := 0) (by omega) c0 (r := (R_D, T_D, 10)) rfl) hS hAA rfl hl.1 rfl (Nat.le_of_ble_eq_true rfl) d_D_join_51 ⟨by decide, by decide⟩ (fun ct1 H locs hct1 hP hS => ?_)
      have c0 : ct1 0 = .inr (0, [.ref (ad 1), .int (nI (sc 0 - 1)), tv, .ref (ad 2), .int (nI (sc 1)), .ref (ad 3), .ref (ad 4), .ref (ad 6), .int (nI (sc 2)), .int (nI (sc 3))]) := by rw [hct1]; exact (va_up_ne _ _ (by decide)).trans (va_up_self _ _ _)
      have c1 : ct1 1 = .inl (ca 2, 6, .inr (.inr (.inr (.inr (va_up sk (sc 0 - 1) none))))) := by rw [hct1]; exact va_up_self _ _ _
      have cL : ct1 (tt 3 kl) = _ := (by rw [hct1]; exact (va_up_ne _ _ (by omega)).trans (va_up_ne _ _ (by omega)) : ct1 (tt 3 kl) = ct (tt 3 kl)).trans cL
      have cR : ct1 (tt 3 kr) = _ := (by rw [hct1]; exact (va_up_ne _ _ (by omega)).trans (va_up_ne _ _ (by omega)) : ct1 (tt 3 kr) = ct (tt 3 kr)).trans cR
      refine lv_aload_n hx hb d_D_join_54 rfl (lv_at hl 2 rfl) ?_
      refine dd_cv (index := 85) (k := 0) (As := []) (rest := []) ⟨hx, hb, hml, hown, hts⟩ (k_drop l D ca n ad ct1 hI tv (va_up sc 0 (sc 0 - 1)) hn0 c0 (va_up sk (sc 0 - 1) none) c1 (show 1 ≤ sc 0 - 1 by omega) (show sc 0 - 1 ≤ 6 by omega)) mk_D_85 mo_D_drop me_D_D_drop_D mi_D mc_D_drop (by decide +kernel) ⟨rfl, rfl⟩ ⟨by decide, by decide⟩ (dd_pre hN hK hP (j := 0) (by omega) c0 (r := (R_D, T_D, 10)) rfl) hS hAA rfl hl.1 rfl (Nat.le_of_ble_eq_true rfl) d_D_join_55 ⟨by decide, by decide⟩ (fun ct2 H locs hct2 hP hS => ?_)
      have c0 : ct2 0 = .inr (0, [.ref (ad 1), .int (nI (sc 0 - 1 - 1)), tv, .ref (ad 2), .int (nI (sc 1)), .ref (ad 3), .ref (ad 4), .ref (ad 6), .int (nI (sc 2)), .int (nI (sc 3))]) := by rw [hct2]; exact (va_up_ne _ _ (by decide)).trans (va_up_self _ _ _)
      have c1 : ct2 1 = .inl (ca 2, 6, .inr (.inr (.inr (.inr (va_up (va_up sk (sc 0 - 1) none) (sc 0 - 1 - 1) none))))) := by rw [hct2]; exact va_up_self _ _ _
      have cL : ct2 (tt 3 kl) = _ := (by rw [hct2]; exact (va_up_ne _ _ (by omega)).trans (va_up_ne _ _ (by omega)) : ct2 (tt 3 kl) = ct1 (tt 3 kl)).trans cL
      have cR : ct2 (tt 3 kr) = _ := (by rw [hct2]; exact (va_up_ne _ _ (by omega)).trans (va_up_ne _ _ (by omega)) : ct2 (tt 3 kr) = ct1 (tt 3 kr)).trans cR
      refine lv_aload_n hx hb d_D_join_58 rfl (lv_at hl 2 rfl) ?_
      refine lv_iload_n hx hb d_D_join_59 rfl (lv_at hl 3 rfl) ?_
      refine lv_if_eq (tgt := 75) hx hb d_D_join_60 rfl (fun h60 => ?_) (fun h60 => ?_)
      · skip
        have hall : all = false := zb_eq h60
        refine dd_newO (ci := 3) (C := R_O) (T := T_O) (N := 5) hx hb hts in_O ft_O ft_O_ok hown ml_D_93 mt_O mi_O hK hP hD hS hA rfl (fs := [.null, .null, .int 0, .int 0, .int 0]) (fun j hj => by rcases (show j = 0 ∨ j = 1 ∨ j = 2 ∨ j = 3 ∨ j = 4 by omega) with rfl | rfl | rfl | rfl | rfl <;> rfl) (by decide) (by decide) d_D_join_75 (fun ad1 H hag hP hD hS => ?_)
        have a0 : ad1 0 = ad 0 := hag 0 (by omega)
        have a1 : ad1 (tt 3 kr) = ad (tt 3 kr) := hag (tt 3 kr) (by omega)
        have a2 : ad1 (tt 3 kl) = ad (tt 3 kl) := hag (tt 3 kl) (by omega)
        have a3 : ad1 1 = ad 1 := hag 1 (by omega)
        have a4 : ad1 2 = ad 2 := hag 2 (by omega)
        have a5 : ad1 3 = ad 3 := hag 3 (by omega)
        have a6 : ad1 4 = ad 4 := hag 4 (by omega)
        have a7 : ad1 6 = ad 6 := hag 6 (by omega)
        refine W.eq (g2 := F0 m 78 ls [.ref (ad1 n), .ref (ad1 0)]) (by simp only [a0, a1, a2, a3, a4, a5, a6, a7]) ?_
        have hl : lv_has ls 4 [(3, .ref (ad1 (tt 3 kr))), (2, .ref (ad1 (tt 3 kl))), (0, .ref (ad1 0)), (1, .int (zb all))] := by simp only [a0, a1, a2, a3, a4, a5, a6, a7]; exact hl
        obtain ⟨ct3, hct3⟩ : ∃ c, c = va_up ct2 (n) (.inr (3, [.null, .null, .int 0, .int 0, .int 0])) := ⟨_, rfl⟩
        rw [← hct3] at hP
        have c0 : ct3 0 = .inr (0, [.ref (ad1 1), .int (nI (sc 0 - 1 - 1)), tv, .ref (ad1 2), .int (nI (sc 1)), .ref (ad1 3), .ref (ad1 4), .ref (ad1 6), .int (nI (sc 2)), .int (nI (sc 3))]) := by rw [hct3, va_up_ne _ _ (by omega)]; simp only [a0, a1, a2, a3, a4, a5, a6, a7]; exact c0
        have c1 : ct3 1 = .inl (ca 2, 6, .inr (.inr (.inr (.inr (va_up (va_up sk (sc 0 - 1) none) (sc 0 - 1 - 1) none))))) := by rw [hct3, va_up_ne _ _ (by omega)]; exact c1
        have x1 : ct3 (n) = .inr (3, [.null, .null, .int 0, .int 0, .int 0]) := by rw [hct3]; exact va_up_self _ _ _
        have hag1 := hag
        have hI : dI (n + 1) ad1 := hD.1
        have hAA := zD_A hD
        have cL : ct3 (tt 3 kl) = ndC ad1 tt dd kl := by rw [hct3, va_up_ne _ _ (by omega)]; exact cL.trans (ndC_ag2 hTS jl1.1 hag).symm
        have cR : ct3 (tt 3 kr) = ndC ad1 tt dd kr := by rw [hct3, va_up_ne _ _ (by omega)]; exact cR.trans (ndC_ag2 hTS jr1.1 hag).symm
        refine lv_dup hx hb d_D_join_78 rfl ?_
        refine lv_aload_n hx hb d_D_join_79 rfl (lv_at hl 1 rfl) ?_
        refine lv_aload_n hx hb d_D_join_80 rfl (lv_at hl 0 rfl) ?_
        refine dd_cI (index := 95) (k := 2) (b := ad1 n) (As := [.ref (ad1 (tt 3 kl)), .ref (ad1 (tt 3 kr))]) (rest := [.ref (ad1 n), .ref (ad1 0)]) ⟨hx, hb, hml, hown, hts⟩ (k_initO l D ca (n + 1) ad1 ct3 hI n (tt 3 kl) (tt 3 kr) kl kr tt dd (by omega) (by omega) (by omega) tl tr cL cR x1) mk_D_95 mo_O_init mi_O mc_O_init (by decide +kernel) rfl ⟨rfl, rfl⟩ ⟨by decide, by decide⟩ hN hK hP hS hAA rfl hl.1 rfl (Nat.le_of_ble_eq_true rfl) d_D_join_81 ⟨by decide, by decide⟩ (fun ct4 H locs hct4 hP hS => ?_)
        have c0 : ct4 0 = .inr (0, [.ref (ad1 1), .int (nI (sc 0 - 1 - 1)), tv, .ref (ad1 2), .int (nI (sc 1)), .ref (ad1 3), .ref (ad1 4), .ref (ad1 6), .int (nI (sc 2)), .int (nI (sc 3))]) := by rw [hct4]; exact (va_up_ne _ _ (by omega)).trans c0
        have c1 : ct4 1 = .inl (ca 2, 6, .inr (.inr (.inr (.inr (va_up (va_up sk (sc 0 - 1) none) (sc 0 - 1 - 1) none))))) := by rw [hct4]; exact (va_up_ne _ _ (by omega)).trans c1
        have x1 : ct4 n = .inr (3, [.ref (ad1 (tt 3 kl)), .ref (ad1 (tt 3 kr)), .int (nI (szN tt kl + szN tt kr)), .int 0, .int 0]) := by rw [hct4]; exact va_up_self _ _ _
        refine dd_cv (index := 78) (k := 1) (As := [.ref (ad1 n)]) (rest := []) ⟨hx, hb, hml, hown, hts⟩ (k_push l D ca (n + 1) ad1 ct4 hI tv (va_up sc 0 (sc 0 - 1 - 1)) (by omega) c0 (va_up (va_up sk (sc 0 - 1) none) (sc 0 - 1 - 1) none) c1 n 3 _ (by omega) x1 (Or.inr (Or.inr rfl)) (show sc 0 - 1 - 1 < 6 by omega)) mk_D_78 mo_D_push me_D_D_push_D mi_D mc_D_push (by decide +kernel) ⟨rfl, rfl⟩ ⟨by decide, by decide⟩ (dd_pre hN hK hP (j := 0) (by omega) c0 (r := (R_D, T_D, 10)) rfl) hS hAA rfl hl.1 rfl (Nat.le_of_ble_eq_true rfl) d_D_join_84 ⟨by decide, by decide⟩ (fun ct5 H locs hct5 hP hS => ?_)
        have c0 : ct5 0 = .inr (0, [.ref (ad1 1), .int (nI (sc 0 - 1 - 1 + 1)), tv, .ref (ad1 2), .int (nI (sc 1)), .ref (ad1 3), .ref (ad1 4), .ref (ad1 6), .int (nI (sc 2)), .int (nI (sc 3))]) := by rw [hct5]; exact va_up_self _ _ _
        have c1 : ct5 1 = .inl (ca 2, 6, .inr (.inr (.inr (.inr (va_up (va_up (va_up sk (sc 0 - 1) none) (sc 0 - 1 - 1) none) (sc 0 - 1 - 1) (some (ad1 n))))))) := by rw [hct5]; exact (va_up_ne _ _ (by decide)).trans (va_up_self _ _ _)
        have x1 : ct5 n = .inr (3, [.ref (ad1 (tt 3 kl)), .ref (ad1 (tt 3 kr)), .int (nI (szN tt kl + szN tt kr)), .int 0, .int 0]) := by rw [hct5]; exact (va_up_ne _ _ (by omega)).trans ((va_up_ne _ _ (by omega)).trans x1)
        refine lv_iconst (v := 1) hx hb d_D_join_87 rfl ?_
        refine W.widen (k := 1) (n := 5) (by decide) (by decide) ?_
        exact W.zret hx hb hr (rfl) (fun t ht hW => ⟨⟨_, (n + 1, ad1, ct5), rfl, Or.inr ⟨hq, rfl, rfl, fun j hj => hag1 j (by omega), hD, c0, c1, by rw [hall]; exact x1, fun q h1 h2 => by show ct5 q = ct q; rw [hct5, va_up_ne _ _ (by omega), va_up_ne _ _ (by omega), hct4, va_up_ne _ _ (by omega), hct3, va_up_ne _ _ (by omega), hct2, va_up_ne _ _ (by omega), va_up_ne _ _ (by omega), hct1, va_up_ne _ _ (by omega), va_up_ne _ _ (by omega)]⟩, zN_warm hW hN, va_K.moved hW.alike hK, by rw [ht]; exact hP⟩, hS.F ht⟩) hS.2.2 d_D_join_88
      · skip
        have hall : all = true := zb_ne h60
        refine dd_newO (ci := 2) (C := R_A) (T := T_A) (N := 3) hx hb hts in_A ft_A ft_A_ok hown ml_D_88 mt_A mi_A hK hP hD hS hA rfl (fs := [.null, .null, .int 0]) (fun j hj => by rcases (show j = 0 ∨ j = 1 ∨ j = 2 by omega) with rfl | rfl | rfl <;> rfl) (by decide) (by decide) d_D_join_63 (fun ad1 H hag hP hD hS => ?_)
        have a0 : ad1 0 = ad 0 := hag 0 (by omega)
        have a1 : ad1 (tt 3 kr) = ad (tt 3 kr) := hag (tt 3 kr) (by omega)
        have a2 : ad1 (tt 3 kl) = ad (tt 3 kl) := hag (tt 3 kl) (by omega)
        have a3 : ad1 1 = ad 1 := hag 1 (by omega)
        have a4 : ad1 2 = ad 2 := hag 2 (by omega)
        have a5 : ad1 3 = ad 3 := hag 3 (by omega)
        have a6 : ad1 4 = ad 4 := hag 4 (by omega)
        have a7 : ad1 6 = ad 6 := hag 6 (by omega)
        refine W.eq (g2 := F0 m 66 ls [.ref (ad1 n), .ref (ad1 0)]) (by simp only [a0, a1, a2, a3, a4, a5, a6, a7]) ?_
        have hl : lv_has ls 4 [(3, .ref (ad1 (tt 3 kr))), (2, .ref (ad1 (tt 3 kl))), (0, .ref (ad1 0)), (1, .int (zb all))] := by simp only [a0, a1, a2, a3, a4, a5, a6, a7]; exact hl
        obtain ⟨ct3, hct3⟩ : ∃ c, c = va_up ct2 (n) (.inr (2, [.null, .null, .int 0])) := ⟨_, rfl⟩
        rw [← hct3] at hP
        have c0 : ct3 0 = .inr (0, [.ref (ad1 1), .int (nI (sc 0 - 1 - 1)), tv, .ref (ad1 2), .int (nI (sc 1)), .ref (ad1 3), .ref (ad1 4), .ref (ad1 6), .int (nI (sc 2)), .int (nI (sc 3))]) := by rw [hct3, va_up_ne _ _ (by omega)]; simp only [a0, a1, a2, a3, a4, a5, a6, a7]; exact c0
        have c1 : ct3 1 = .inl (ca 2, 6, .inr (.inr (.inr (.inr (va_up (va_up sk (sc 0 - 1) none) (sc 0 - 1 - 1) none))))) := by rw [hct3, va_up_ne _ _ (by omega)]; exact c1
        have x1 : ct3 (n) = .inr (2, [.null, .null, .int 0]) := by rw [hct3]; exact va_up_self _ _ _
        have hag1 := hag
        have hI : dI (n + 1) ad1 := hD.1
        have hAA := zD_A hD
        have cL : ct3 (tt 3 kl) = ndC ad1 tt dd kl := by rw [hct3, va_up_ne _ _ (by omega)]; exact cL.trans (ndC_ag2 hTS jl1.1 hag).symm
        have cR : ct3 (tt 3 kr) = ndC ad1 tt dd kr := by rw [hct3, va_up_ne _ _ (by omega)]; exact cR.trans (ndC_ag2 hTS jr1.1 hag).symm
        refine lv_dup hx hb d_D_join_66 rfl ?_
        refine lv_aload_n hx hb d_D_join_67 rfl (lv_at hl 1 rfl) ?_
        refine lv_aload_n hx hb d_D_join_68 rfl (lv_at hl 0 rfl) ?_
        refine dd_cI (index := 90) (k := 2) (b := ad1 n) (As := [.ref (ad1 (tt 3 kl)), .ref (ad1 (tt 3 kr))]) (rest := [.ref (ad1 n), .ref (ad1 0)]) ⟨hx, hb, hml, hown, hts⟩ (k_initA l D ca (n + 1) ad1 ct3 hI n (tt 3 kl) (tt 3 kr) kl kr tt dd (by omega) (by omega) (by omega) tl tr cL cR x1) mk_D_90 mo_A_init mi_A mc_A_init (by decide +kernel) rfl ⟨rfl, rfl⟩ ⟨by decide, by decide⟩ hN hK hP hS hAA rfl hl.1 rfl (Nat.le_of_ble_eq_true rfl) d_D_join_69 ⟨by decide, by decide⟩ (fun ct4 H locs hct4 hP hS => ?_)
        have c0 : ct4 0 = .inr (0, [.ref (ad1 1), .int (nI (sc 0 - 1 - 1)), tv, .ref (ad1 2), .int (nI (sc 1)), .ref (ad1 3), .ref (ad1 4), .ref (ad1 6), .int (nI (sc 2)), .int (nI (sc 3))]) := by rw [hct4]; exact (va_up_ne _ _ (by omega)).trans c0
        have c1 : ct4 1 = .inl (ca 2, 6, .inr (.inr (.inr (.inr (va_up (va_up sk (sc 0 - 1) none) (sc 0 - 1 - 1) none))))) := by rw [hct4]; exact (va_up_ne _ _ (by omega)).trans c1
        have x1 : ct4 n = .inr (2, [.ref (ad1 (tt 3 kl)), .ref (ad1 (tt 3 kr)), .int (nI (szN tt kl + szN tt kr))]) := by rw [hct4]; exact va_up_self _ _ _
        refine lv_goto (tgt := 84) hx hb d_D_join_72 rfl ?_
        refine dd_cv (index := 78) (k := 1) (As := [.ref (ad1 n)]) (rest := []) ⟨hx, hb, hml, hown, hts⟩ (k_push l D ca (n + 1) ad1 ct4 hI tv (va_up sc 0 (sc 0 - 1 - 1)) (by omega) c0 (va_up (va_up sk (sc 0 - 1) none) (sc 0 - 1 - 1) none) c1 n 2 _ (by omega) x1 (Or.inr (Or.inl rfl)) (show sc 0 - 1 - 1 < 6 by omega)) mk_D_78 mo_D_push me_D_D_push_D mi_D mc_D_push (by decide +kernel) ⟨rfl, rfl⟩ ⟨by decide, by decide⟩ (dd_pre hN hK hP (j := 0) (by omega) c0 (r := (R_D, T_D, 10)) rfl) hS hAA rfl hl.1 rfl (Nat.le_of_ble_eq_true rfl) d_D_join_84 ⟨by decide, by decide⟩ (fun ct5 H locs hct5 hP hS => ?_)
        have c0 : ct5 0 = .inr (0, [.ref (ad1 1), .int (nI (sc 0 - 1 - 1 + 1)), tv, .ref (ad1 2), .int (nI (sc 1)), .ref (ad1 3), .ref (ad1 4), .ref (ad1 6), .int (nI (sc 2)), .int (nI (sc 3))]) := by rw [hct5]; exact va_up_self _ _ _
        have c1 : ct5 1 = .inl (ca 2, 6, .inr (.inr (.inr (.inr (va_up (va_up (va_up sk (sc 0 - 1) none) (sc 0 - 1 - 1) none) (sc 0 - 1 - 1) (some (ad1 n))))))) := by rw [hct5]; exact (va_up_ne _ _ (by decide)).trans (va_up_self _ _ _)
        have x1 : ct5 n = .inr (2, [.ref (ad1 (tt 3 kl)), .ref (ad1 (tt 3 kr)), .int (nI (szN tt kl + szN tt kr))]) := by rw [hct5]; exact (va_up_ne _ _ (by omega)).trans ((va_up_ne _ _ (by omega)).trans x1)
        refine lv_iconst (v := 1) hx hb d_D_join_87 rfl ?_
        refine W.widen (k := 1) (n := 5) (by decide) (by decide) ?_
        exact W.zret hx hb hr (rfl) (fun t ht hW => ⟨⟨_, (n + 1, ad1, ct5), rfl, Or.inr ⟨hq, rfl, rfl, fun j hj => hag1 j (by omega), hD, c0, c1, by rw [hall]; exact x1, fun q h1 h2 => by show ct5 q = ct q; rw [hct5, va_up_ne _ _ (by omega), va_up_ne _ _ (by omega), hct4, va_up_ne _ _ (by omega), hct3, va_up_ne _ _ (by omega), hct2, va_up_ne _ _ (by omega), va_up_ne _ _ (by omega), hct1, va_up_ne _ _ (by omega), va_up_ne _ _ (by omega)]⟩, zN_warm hW hN, va_K.moved hW.alike hK, by rw [ht]; exact hP⟩, hS.F ht⟩) hS.2.2 d_D_join_88
    · skip
      have z3 : ¬ szN tt kl + szN tt kr ≤ 8 := fun q => h45 ((nI_leI (b := 8) (by omega) (by decide)).mpr q)
      have hq : (decide (2 ≤ sc 0) && decide (szN tt kl + szN tt kr ≤ 8)) = false := by rw [decide_eq_false z3, Bool.and_false]
      refine lv_iconst (v := 0) hx hb d_D_join_48 rfl ?_
      refine W.widen (k := 1) (n := 5) (by decide) (by decide) ?_
      exact W.zret hx hb hr (rfl) (fun t ht hW => ⟨⟨_, (n, ad, ct), rfl, Or.inl ⟨hq, rfl, rfl⟩, zN_warm hW hN, va_K.moved hW.alike hK, by rw [ht]; exact hP⟩, hS.F ht⟩) hS.2.2 d_D_join_49
  · skip
    have z0 : ¬ 2 ≤ sc 0 := fun q => h5 ((nI_leI (by decide) (by omega)).mpr q)
    have hq : (decide (2 ≤ sc 0) && decide (szN tt kl + szN tt kr ≤ 8)) = false := by rw [decide_eq_false z0]; rfl
    refine lv_iconst (v := 0) hx hb d_D_join_8 rfl ?_
    refine W.widen (k := 1) (n := 5) (by decide) (by decide) ?_
    exact W.zret hx hb hr (rfl) (fun t ht hW => ⟨⟨_, (n, ad, ct), rfl, Or.inl ⟨hq, rfl, rfl⟩, zN_warm hW hN, va_K.moved hW.alike hK, by rw [ht]; exact hP⟩, hS.F ht⟩) hS.2.2 d_D_join_9
