/-! Drawing, Transcript, Arrays.fill -/

theorem d_G_start_0 : decode c_G_start 0 = .ok (.aload_n 0, 1) := by decide +kernel
theorem d_G_start_1 : decode c_G_start 1 = .ok (.iload_n 1, 1) := by decide +kernel
theorem d_G_start_2 : decode c_G_start 2 = .ok (.putfield 9, 3) := by decide +kernel
theorem d_G_start_5 : decode c_G_start 5 = .ok (.return_, 1) := by decide +kernel

set_option maxHeartbeats 4000000 in
set_option maxRecDepth 100000 in
/-- start(seed) -/
theorem k_start (l : Launch) (D : va_G) (ca : Nat → ClassId) (n : Nat) (ad : Nat → Nat) (ct : Nat → va_E) (hI : dI n ad) (j st sd : Nat) (hj : j < n) (c0 : ct j = .inr (6, [.int (nI st)])) : Met l y_G_start (Cond.code y_G_start c_G_start 2 none :: zT) ({ frames := 1, cells := 0, slots := 0, locals := 40 }) (va_Pc [.ref (ad j), .int (nI sd)] (dw D ca n ad ct)) (va_Qv (fun ct1 => ct1 = va_up ct j (.inr (6, [.int (nI sd)]))) (dw D ca n ad) (dA n ad)) 0 0 (dA n ad) := by
  refine Met.ofW (cc := c_G_start) (maxL := 2) (ret := none) (by decide) rfl ?_
  intro p e s m args below meth c s₁ B hml hv
  obtain ⟨rfl, hN, hK, hP⟩ := hv
  have hx := B.exec
  have hb := B.bytes
  have hr := B.returns
  have hts0 := atoms_spec (ws := Cond.code y_G_start c_G_start 2 none :: zT) B.pre
  have hts := fun w h => hts0 w (List.mem_cons_of_mem _ h)
  have hown : s.vm.findClass R_G = some m.cls := findClass_of_methodNamed B.named
  have hlocks := B.notSynchronized
  have hD := dI_D hI
  have hS : va_S (dA n ad) s.heap s.heap [] := va_S.rf
  have hAA : ∀ q, dA n ad q → dA n ad q := fun _ h => h
  have hl := lv_entry ([.ref (ad j), .int (nI sd)]) (n := 2) (Nat.le_of_ble_eq_true rfl)
  rw [lg_entry_eq]
  generalize (lg_sl ([.ref (ad j), .int (nI sd)]) ++ List.replicate (2 - (lg_sl ([.ref (ad j), .int (nI sd)])).length) Slot.unset).toArray = ls at hl ⊢
  have hl : lv_has ls 2 [(0, .ref (ad j)), (1, .int (nI sd))] := hl
  refine lv_aload_n hx hb d_G_start_0 rfl (lv_at hl 0 rfl) ?_
  refine lv_iload_n hx hb d_G_start_1 rfl (lv_at hl 1 rfl) ?_
  refine zz_put (j := j) (ci := 6) (C := R_G) (T := T_G) (N := 1) (v := .int (nI sd)) (ty := ft_G 0) hx hb hts in_G ft_G ft_G_ok fn_G hown hK hP hD hS hj c0 rfl 0 (by decide) (hts _ mf_G_9) (fun _ h => h) rfl (ft_G_ok 0 (by decide)) rfl rfl (Nat.le_of_ble_eq_true rfl) d_G_start_2 (fun H locs hP hS => ?_)
  have hP : va_P D zC (zl n ad (va_up ct j (.inr (6, [.int (nI sd)])))) H := hP
  obtain ⟨ct1, hct1⟩ : ∃ c, c = va_up ct j (.inr (6, [.int (nI sd)])) := ⟨_, rfl⟩
  rw [← hct1] at hP
  have c0 : ct1 j = .inr (6, [.int (nI sd)]) := by rw [hct1]; exact va_up_self _ _ _
  exact W.vret hx hb hr (fun t ht hW => ⟨⟨ct1, rfl, hct1, zN_warm hW hN, va_K.moved hW.alike hK, by rw [ht]; exact hP⟩, hS.F ht⟩) hS.2.2 d_G_start_5

theorem d_G_draw_0 : decode c_G_draw 0 = .ok (.aload_n 0, 1) := by decide +kernel
theorem d_G_draw_1 : decode c_G_draw 1 = .ok (.aload_n 0, 1) := by decide +kernel
theorem d_G_draw_2 : decode c_G_draw 2 = .ok (.getfield 9, 3) := by decide +kernel
theorem d_G_draw_5 : decode c_G_draw 5 = .ok (.ldc 15, 2) := by decide +kernel
theorem d_G_draw_7 : decode c_G_draw 7 = .ok (.imul, 1) := by decide +kernel
theorem d_G_draw_8 : decode c_G_draw 8 = .ok (.sipush 12345, 3) := by decide +kernel
theorem d_G_draw_11 : decode c_G_draw 11 = .ok (.iadd, 1) := by decide +kernel
theorem d_G_draw_12 : decode c_G_draw 12 = .ok (.putfield 9, 3) := by decide +kernel
theorem d_G_draw_15 : decode c_G_draw 15 = .ok (.aload_n 0, 1) := by decide +kernel
theorem d_G_draw_16 : decode c_G_draw 16 = .ok (.getfield 9, 3) := by decide +kernel
theorem d_G_draw_19 : decode c_G_draw 19 = .ok (.bipush 8, 2) := by decide +kernel
theorem d_G_draw_21 : decode c_G_draw 21 = .ok (.iushr, 1) := by decide +kernel
theorem d_G_draw_22 : decode c_G_draw 22 = .ok (.sipush 5003, 3) := by decide +kernel
theorem d_G_draw_25 : decode c_G_draw 25 = .ok (.irem, 1) := by decide +kernel
theorem d_G_draw_26 : decode c_G_draw 26 = .ok (.ireturn, 1) := by decide +kernel

set_option maxHeartbeats 4000000 in
set_option maxRecDepth 100000 in
/-- draw() -/
theorem k_draw (l : Launch) (D : va_G) (ca : Nat → ClassId) (n : Nat) (ad : Nat → Nat) (ct : Nat → va_E) (hI : dI n ad) (j st : Nat) (hj : j < n) (c0 : ct j = .inr (6, [.int (nI st)])) : Met l y_G_draw (Cond.code y_G_draw c_G_draw 1 (some .int) :: zT) ({ frames := 1, cells := 0, slots := 0, locals := 40 }) (va_Pc [.ref (ad j)] (dw D ca n ad ct)) (va_Qi (fun r ct1 => r = nI (dv (dr st)) ∧ ct1 = va_up ct j (.inr (6, [.int (nI (dr st))]))) (dw D ca n ad) (dA n ad)) 0 0 (dA n ad) := by
  refine Met.ofW (cc := c_G_draw) (maxL := 1) (ret := (some .int)) (by decide) rfl ?_
  intro p e s m args below meth c s₁ B hml hv
  obtain ⟨rfl, hN, hK, hP⟩ := hv
  have hx := B.exec
  have hb := B.bytes
  have hr := B.returns
  have hts0 := atoms_spec (ws := Cond.code y_G_draw c_G_draw 1 (some .int) :: zT) B.pre
  have hts := fun w h => hts0 w (List.mem_cons_of_mem _ h)
  have hown : s.vm.findClass R_G = some m.cls := findClass_of_methodNamed B.named
  have hlocks := B.notSynchronized
  have hD := dI_D hI
  have hS : va_S (dA n ad) s.heap s.heap [] := va_S.rf
  have hAA : ∀ q, dA n ad q → dA n ad q := fun _ h => h
  have hl := lv_entry ([.ref (ad j)]) (n := 1) (Nat.le_of_ble_eq_true rfl)
  rw [lg_entry_eq]
  generalize (lg_sl ([.ref (ad j)]) ++ List.replicate (1 - (lg_sl ([.ref (ad j)])).length) Slot.unset).toArray = ls at hl ⊢
  have hl : lv_has ls 1 [(0, .ref (ad j))] := hl
  refine lv_aload_n hx hb d_G_draw_0 rfl (lv_at hl 0 rfl) ?_
  refine lv_aload_n hx hb d_G_draw_1 rfl (lv_at hl 0 rfl) ?_
  refine zz_get (j := j) (ci := 6) (C := R_G) (T := T_G) (N := 1) hx hb hts in_G hown hK hP hj c0 rfl 0 (by decide) (hts _ mf_G_9) (fun _ h => h) (v := .int (nI st)) rfl d_G_draw_2 ?_
  refine lv_ldc (v := 1103515245) hx hb hown (hts _ mn_G_15) d_G_draw_5 ?_
  refine lv_imul hx hb d_G_draw_7 ?_
  refine lv_sipush (v := 12345) hx hb d_G_draw_8 rfl ?_
  refine lv_iadd hx hb d_G_draw_11 ?_
  obtain ⟨d0, hd0⟩ : ∃ d, dr st = d := ⟨_, rfl⟩
  have hlt : d0 < 2 ^ 32 := by rw [← hd0]; exact dr_lt _
  refine zz_as (y := nI d0) (by rw [dr_n, hd0]) ?_
  refine zz_put (j := j) (ci := 6) (C := R_G) (T := T_G) (N := 1) (v := .int (nI d0)) (ty := ft_G 0) hx hb hts in_G ft_G ft_G_ok fn_G hown hK hP hD hS hj c0 rfl 0 (by decide) (hts _ mf_G_9) (fun _ h => h) rfl (ft_G_ok 0 (by decide)) rfl rfl (Nat.le_of_ble_eq_true rfl) d_G_draw_12 (fun H locs hP hS => ?_)
  have hP : va_P D zC (zl n ad (va_up ct j (.inr (6, [.int (nI d0)])))) H := hP
  obtain ⟨ct1, hct1⟩ : ∃ c, c = va_up ct j (.inr (6, [.int (nI d0)])) := ⟨_, rfl⟩
  rw [← hct1] at hP
  have c0 : ct1 j = .inr (6, [.int (nI d0)]) := by rw [hct1]; exact va_up_self _ _ _
  refine lv_aload_n hx hb d_G_draw_15 rfl (lv_at hl 0 rfl) ?_
  refine zz_get (j := j) (ci := 6) (C := R_G) (T := T_G) (N := 1) hx hb hts in_G hown hK hP hj c0 rfl 0 (by decide) (hts _ mf_G_9) (fun _ h => h) (v := .int (nI d0)) rfl d_G_draw_16 ?_
  refine lv_bipush (v := 8) hx hb d_G_draw_19 rfl ?_
  refine lv_iushr hx hb d_G_draw_21 rfl ?_
  refine zz_as (y := nI (d0 / 256)) (dv_s hlt) ?_
  refine lv_sipush (v := 5003) hx hb d_G_draw_22 rfl ?_
  refine lv_irem hx hb d_G_draw_25 (by decide) ?_
  refine zz_as (y := nI (dv d0)) (dv_n hlt) ?_
  exact W.iret hx hb hr (fun t ht hW => ⟨⟨_, ct1, rfl, ⟨by rw [hd0], by rw [hd0]; exact hct1⟩, zN_warm hW hN, va_K.moved hW.alike hK, by rw [ht]; exact hP⟩, hS.F ht⟩) hS.2.2 d_G_draw_26

theorem d_T_get_0 : decode c_T_get 0 = .ok (.aload_n 0, 1) := by decide +kernel
theorem d_T_get_1 : decode c_T_get 1 = .ok (.getfield 9, 3) := by decide +kernel
theorem d_T_get_4 : decode c_T_get 4 = .ok (.iload_n 1, 1) := by decide +kernel
theorem d_T_get_5 : decode c_T_get 5 = .ok (.iconst 4, 1) := by decide +kernel
theorem d_T_get_6 : decode c_T_get 6 = .ok (.imul, 1) := by decide +kernel
theorem d_T_get_7 : decode c_T_get 7 = .ok (.iload_n 2, 1) := by decide +kernel
theorem d_T_get_8 : decode c_T_get 8 = .ok (.iadd, 1) := by decide +kernel
theorem d_T_get_9 : decode c_T_get 9 = .ok (.iaload, 1) := by decide +kernel
theorem d_T_get_10 : decode c_T_get 10 = .ok (.ireturn, 1) := by decide +kernel

set_option maxHeartbeats 4000000 in
set_option maxRecDepth 100000 in
/-- get(i, w) -/
theorem k_get (l : Launch) (D : va_G) (ca : Nat → ClassId) (n : Nat) (ad : Nat → Nat) (ct : Nat → va_E) (j k : Nat) (f : Nat → Nat) (hj : j < n) (hk : k < n) (c0 : ct j = .inr (5, [.ref (ad k)])) (c1 : ct k = .inl (ca 0, 32, .inl (zf f))) (i w : Nat) (hiw : i * 4 + w < 32) : Met l y_T_get (Cond.code y_T_get c_T_get 3 (some .int) :: zT) ({ frames := 1, cells := 0, slots := 0, locals := 40 }) (va_Pc [.ref (ad j), .int (nI i), .int (nI w)] (dw D ca n ad ct)) (QcRead (nI (f (i * 4 + w)))) 0 0 (fun _ => False) := by
  refine Met.ofW (cc := c_T_get) (maxL := 3) (ret := (some .int)) (by decide) rfl ?_
  intro p e s m args below meth c s₁ B hml hv
  obtain ⟨rfl, hN, hK, hP⟩ := hv
  have hx := B.exec
  have hb := B.bytes
  have hr := B.returns
  have hts0 := atoms_spec (ws := Cond.code y_T_get c_T_get 3 (some .int) :: zT) B.pre
  have hts := fun w h => hts0 w (List.mem_cons_of_mem _ h)
  have hown : s.vm.findClass R_T = some m.cls := findClass_of_methodNamed B.named
  have hlocks := B.notSynchronized
  have hl := lv_entry ([.ref (ad j), .int (nI i), .int (nI w)]) (n := 3) (Nat.le_of_ble_eq_true rfl)
  rw [lg_entry_eq]
  generalize (lg_sl ([.ref (ad j), .int (nI i), .int (nI w)]) ++ List.replicate (3 - (lg_sl ([.ref (ad j), .int (nI i), .int (nI w)])).length) Slot.unset).toArray = ls at hl ⊢
  have hl : lv_has ls 3 [(0, .ref (ad j)), (1, .int (nI i)), (2, .int (nI w))] := hl
  refine lv_aload_n hx hb d_T_get_0 rfl (lv_at hl 0 rfl) ?_
  refine zz_get (j := j) (ci := 5) (C := R_T) (T := T_T) (N := 1) hx hb hts in_T hown hK hP hj c0 rfl 0 (by decide) (hts _ mf_T_9) (fun _ h => h) (v := .ref (ad k)) rfl d_T_get_1 ?_
  refine lv_iload_n hx hb d_T_get_4 rfl (lv_at hl 1 rfl) ?_
  refine lv_iconst (v := 4) hx hb d_T_get_5 rfl ?_
  refine lv_imul hx hb d_T_get_6 ?_
  refine zz_as (y := nI (i * 4)) (pk_mul i 4) ?_
  refine lv_iload_n hx hb d_T_get_7 rfl (lv_at hl 2 rfl) ?_
  refine lv_iadd hx hb d_T_get_8 ?_
  refine zz_as (y := nI ((i * 4) + w)) (nI_add (i * 4) w) ?_
  refine dd_ald hx hb hK hP (j := k) hk c1 ((i * 4) + w) rfl (by omega) (by decide) (f ((i * 4) + w)) (rfl) d_T_get_9 ?_
  exact W.iret hx hb hr (fun t ht hW => ⟨rfl, ht⟩) (fun q h => absurd h List.not_mem_nil) d_T_get_10

theorem d_T_set_0 : decode c_T_set 0 = .ok (.aload_n 0, 1) := by decide +kernel
theorem d_T_set_1 : decode c_T_set 1 = .ok (.getfield 9, 3) := by decide +kernel
theorem d_T_set_4 : decode c_T_set 4 = .ok (.iload_n 1, 1) := by decide +kernel
theorem d_T_set_5 : decode c_T_set 5 = .ok (.iconst 4, 1) := by decide +kernel
theorem d_T_set_6 : decode c_T_set 6 = .ok (.imul, 1) := by decide +kernel
theorem d_T_set_7 : decode c_T_set 7 = .ok (.iload_n 2, 1) := by decide +kernel
theorem d_T_set_8 : decode c_T_set 8 = .ok (.iadd, 1) := by decide +kernel
theorem d_T_set_9 : decode c_T_set 9 = .ok (.iload_n 3, 1) := by decide +kernel
theorem d_T_set_10 : decode c_T_set 10 = .ok (.iastore, 1) := by decide +kernel
theorem d_T_set_11 : decode c_T_set 11 = .ok (.return_, 1) := by decide +kernel

set_option maxHeartbeats 4000000 in
set_option maxRecDepth 100000 in
/-- set(i, w, v) -/
theorem k_set (l : Launch) (D : va_G) (ca : Nat → ClassId) (n : Nat) (ad : Nat → Nat) (ct : Nat → va_E) (hI : dI n ad) (j k : Nat) (f : Nat → Nat) (hj : j < n) (hk : k < n) (c0 : ct j = .inr (5, [.ref (ad k)])) (c1 : ct k = .inl (ca 0, 32, .inl (zf f))) (i w v : Nat) (hiw : i * 4 + w < 32) : Met l y_T_set (Cond.code y_T_set c_T_set 4 none :: zT) ({ frames := 1, cells := 0, slots := 0, locals := 40 }) (va_Pc [.ref (ad j), .int (nI i), .int (nI w), .int (nI v)] (dw D ca n ad ct)) (va_Qv (fun ct1 => ct1 = va_up ct k (.inl (ca 0, 32, .inl (zf (va_up f (i * 4 + w) v))))) (dw D ca n ad) (dA n ad)) 0 0 (dA n ad) := by
  refine Met.ofW (cc := c_T_set) (maxL := 4) (ret := none) (by decide) rfl ?_
  intro p e s m args below meth c s₁ B hml hv
  obtain ⟨rfl, hN, hK, hP⟩ := hv
  have hx := B.exec
  have hb := B.bytes
  have hr := B.returns
  have hts0 := atoms_spec (ws := Cond.code y_T_set c_T_set 4 none :: zT) B.pre
  have hts := fun w h => hts0 w (List.mem_cons_of_mem _ h)
  have hown : s.vm.findClass R_T = some m.cls := findClass_of_methodNamed B.named
  have hlocks := B.notSynchronized
  have hD := dI_D hI
  have hS : va_S (dA n ad) s.heap s.heap [] := va_S.rf
  have hAA : ∀ q, dA n ad q → dA n ad q := fun _ h => h
  have hl := lv_entry ([.ref (ad j), .int (nI i), .int (nI w), .int (nI v)]) (n := 4) (Nat.le_of_ble_eq_true rfl)
  rw [lg_entry_eq]
  generalize (lg_sl ([.ref (ad j), .int (nI i), .int (nI w), .int (nI v)]) ++ List.replicate (4 - (lg_sl ([.ref (ad j), .int (nI i), .int (nI w), .int (nI v)])).length) Slot.unset).toArray = ls at hl ⊢
  have hl : lv_has ls 4 [(0, .ref (ad j)), (1, .int (nI i)), (2, .int (nI w)), (3, .int (nI v))] := hl
  refine lv_aload_n hx hb d_T_set_0 rfl (lv_at hl 0 rfl) ?_
  refine zz_get (j := j) (ci := 5) (C := R_T) (T := T_T) (N := 1) hx hb hts in_T hown hK hP hj c0 rfl 0 (by decide) (hts _ mf_T_9) (fun _ h => h) (v := .ref (ad k)) rfl d_T_set_1 ?_
  refine lv_iload_n hx hb d_T_set_4 rfl (lv_at hl 1 rfl) ?_
  refine lv_iconst (v := 4) hx hb d_T_set_5 rfl ?_
  refine lv_imul hx hb d_T_set_6 ?_
  refine zz_as (y := nI (i * 4)) (pk_mul i 4) ?_
  refine lv_iload_n hx hb d_T_set_7 rfl (lv_at hl 2 rfl) ?_
  refine lv_iadd hx hb d_T_set_8 ?_
  refine zz_as (y := nI ((i * 4) + w)) (nI_add (i * 4) w) ?_
  refine lv_iload_n hx hb d_T_set_9 rfl (lv_at hl 3 rfl) ?_
  refine dd_ast hx hb hK hP hD hS (j := k) hk c1 ((i * 4) + w) rfl (by omega) (by decide) (v) (rfl) d_T_set_10 (fun H locs hP hS => ?_)
  have hP : va_P D zC (zl n ad (va_up ct k (.inl (ca 0, 32, .inl (zf (va_up f ((i * 4) + w) v)))))) H := hP
  obtain ⟨ct1, hct1⟩ : ∃ c, c = va_up ct k (.inl (ca 0, 32, .inl (zf (va_up f ((i * 4) + w) v)))) := ⟨_, rfl⟩
  rw [← hct1] at hP
  have c0 : ct1 j = .inr (5, [.ref (ad k)]) := by rw [hct1]; exact (va_up_ne _ _ (fun q => by rw [q, c1] at c0; cases c0)).trans c0
  have c1 : ct1 k = .inl (ca 0, 32, .inl (zf (va_up f ((i * 4) + w) v))) := by rw [hct1]; exact va_up_self _ _ _
  exact W.vret hx hb hr (fun t ht hW => ⟨⟨ct1, rfl, hct1, zN_warm hW hN, va_K.moved hW.alike hK, by rw [ht]; exact hP⟩, hS.F ht⟩) hS.2.2 d_T_set_11

theorem d_U_fill_0 : decode c_U_fill 0 = .ok (.iconst 0, 1) := by decide +kernel
theorem d_U_fill_1 : decode c_U_fill 1 = .ok (.istore_n 2, 1) := by decide +kernel
theorem d_U_fill_2 : decode c_U_fill 2 = .ok (.aload_n 0, 1) := by decide +kernel
theorem d_U_fill_3 : decode c_U_fill 3 = .ok (.arraylength, 1) := by decide +kernel
theorem d_U_fill_4 : decode c_U_fill 4 = .ok (.istore_n 3, 1) := by decide +kernel
theorem d_U_fill_5 : decode c_U_fill 5 = .ok (.iload_n 2, 1) := by decide +kernel
theorem d_U_fill_6 : decode c_U_fill 6 = .ok (.iload_n 3, 1) := by decide +kernel
theorem d_U_fill_7 : decode c_U_fill 7 = .ok (.if_icmp .ge 13, 3) := by decide +kernel
theorem d_U_fill_10 : decode c_U_fill 10 = .ok (.aload_n 0, 1) := by decide +kernel
theorem d_U_fill_11 : decode c_U_fill 11 = .ok (.iload_n 2, 1) := by decide +kernel
theorem d_U_fill_12 : decode c_U_fill 12 = .ok (.iload_n 1, 1) := by decide +kernel
theorem d_U_fill_13 : decode c_U_fill 13 = .ok (.iastore, 1) := by decide +kernel
theorem d_U_fill_14 : decode c_U_fill 14 = .ok (.iinc 2 1, 3) := by decide +kernel
theorem d_U_fill_17 : decode c_U_fill 17 = .ok (.goto (-12), 3) := by decide +kernel
theorem d_U_fill_20 : decode c_U_fill 20 = .ok (.return_, 1) := by decide +kernel

section UF
variable {p : Program} {l : Launch} {e : Env} {R : Room} {s : State} {m : MethodId} {args : Array Value} {below : List Frame} {meth : Method} {c : Code} {H0 : Heap} {cells slots : Nat} {Q : State → Prop} {A : Nat → Prop} {D : va_G} {ca : Nat → ClassId} {n : Nat} {ad : Nat → Nat}
set_option maxHeartbeats 4000000 in
set_option maxRecDepth 100000 in
theorem fill_loop (hx : p.tables.exec = Jvm.exec) (hb : c.code = c_U_fill) (hml : c.maxLocals = 4) (hown : s.vm.findClass R_U = some m.cls) (hts : ∀ w ∈ zT, w.before args s = true) (hN : zN s) (hK : va_K D zC (zty ca) s) (hD : zD A n ad) (hAA : ∀ q, dA n ad q → A q) (hI : dI n ad) {ct : Nat → va_E} {k : Nat} (hk : k < n) (kk : ∀ (f : Nat → Nat) (H : Heap) (locs : List Loc) (ls : Array Slot), (∀ i, i < 32 → f i = 0) → va_P D zC (zl n ad (va_up ct k (.inl (ca 0, 32, .inl (zf f))))) H → va_S A H0 H locs → W p l e R s m args below meth c H locs cells slots Q (F0 m 20 ls [])) : ∀ (j i : Nat), i + j = 32 → ∀ (f : Nat → Nat) (H : Heap) (locs : List Loc) (ls : Array Slot), (∀ q, q < i → f q = 0) → va_P D zC (zl n ad (va_up ct k (.inl (ca 0, 32, .inl (zf f))))) H → va_S A H0 H locs → lv_has ls 4 [(2, .int (nI i)), (3, .int (nI 32)), (0, .ref (ad k)), (1, .int (nI 0))] → W p l e R s m args below meth c H locs cells slots Q (F0 m 5 ls []) := by
  intro j
  induction j with
  | zero =>
    intro i hi f H locs ls hf hP hS hl
    obtain rfl : i = 32 := by omega
    refine lv_iload_n hx hb d_U_fill_5 rfl (lv_at hl 0 rfl) ?_
    refine lv_iload_n hx hb d_U_fill_6 rfl (lv_at hl 1 rfl) ?_
    refine lv_icmp_ge (tgt := 20) hx hb d_U_fill_7 rfl (fun h7 => ?_) (fun h7 => absurd (Int32.le_refl _) h7)
    exact kk f H locs ls hf hP hS
  | succ j ih =>
    intro i hi f H locs ls hf hP hS hl
    refine lv_iload_n hx hb d_U_fill_5 rfl (lv_at hl 0 rfl) ?_
    refine lv_iload_n hx hb d_U_fill_6 rfl (lv_at hl 1 rfl) ?_
    refine lv_icmp_ge (tgt := 20) hx hb d_U_fill_7 rfl (fun h7 => absurd h7 (nI_ge (b := 32) (by omega) (by decide))) (fun h7 => ?_)
    refine lv_aload_n hx hb d_U_fill_10 rfl (lv_at hl 2 rfl) ?_
    refine lv_iload_n hx hb d_U_fill_11 rfl (lv_at hl 0 rfl) ?_
    refine lv_iload_n hx hb d_U_fill_12 rfl (lv_at hl 3 rfl) ?_
    refine dd_ast hx hb hK hP hD hS (j := k) hk (va_up_self _ _ _) (i) rfl (by omega) (by decide) (0) (rfl) d_U_fill_13 (fun H locs hP hS => ?_)
    rw [bx_uu] at hP
    refine lv_iinc (k := 0) (v := nI (i + 1)) (lv' := [(2, .int (nI (i + 1))), (3, .int (nI 32)), (0, .ref (ad k)), (1, .int (nI 0))]) hx hb d_U_fill_14 hl rfl (nI_1 _) (by decide) rfl (fun ls hl => ?_)
    refine lv_goto (tgt := 5) hx hb d_U_fill_17 rfl ?_
    have hl := lv_sub (l' := [(2, .int (nI (i + 1))), (3, .int (nI 32)), (0, .ref (ad k)), (1, .int (nI 0))]) hl [0, 1, 2, 3] rfl
    exact ih (i + 1) (by omega) (va_up f i 0) H locs ls (up_c hf) hP hS hl
end UF

theorem va_up_row1 {α : Type} (f : Nat → α) (k : Nat) : va_up f k (f k) = f := by
  funext q
  unfold va_up
  split
  · rename_i h; rw [h]
  · rfl

set_option maxHeartbeats 4000000 in
set_option maxRecDepth 100000 in
/-- Arrays.fill(a, 0) -/
theorem k_fill (l : Launch) (D : va_G) (ca : Nat → ClassId) (n : Nat) (ad : Nat → Nat) (ct : Nat → va_E) (hI : dI n ad) (k : Nat) (f : Nat → Nat) (hk : k < n) (c1 : ct k = .inl (ca 0, 32, .inl (zf f))) : Met l y_U_fill (Cond.code y_U_fill c_U_fill 4 none :: zT) ({ frames := 1, cells := 0, slots := 0, locals := 40 }) (va_Pc [.ref (ad k), .int (nI 0)] (dw D ca n ad ct)) (va_Qv (fun ct1 => ∃ f1 : Nat → Nat, (∀ i, i < 32 → f1 i = 0) ∧ ct1 = va_up ct k (.inl (ca 0, 32, .inl (zf f1)))) (dw D ca n ad) (dA n ad)) 0 0 (dA n ad) := by
  refine Met.ofW (cc := c_U_fill) (maxL := 4) (ret := none) (by decide) rfl ?_
  intro p e s m args below meth c s₁ B hml hv
  obtain ⟨rfl, hN, hK, hP⟩ := hv
  have hx := B.exec
  have hb := B.bytes
  have hr := B.returns
  have hts0 := atoms_spec (ws := Cond.code y_U_fill c_U_fill 4 none :: zT) B.pre
  have hts := fun w h => hts0 w (List.mem_cons_of_mem _ h)
  have hown : s.vm.findClass R_U = some m.cls := findClass_of_methodNamed B.named
  have hlocks := B.notSynchronized
  have hD := dI_D hI
  have hS : va_S (dA n ad) s.heap s.heap [] := va_S.rf
  have hAA : ∀ q, dA n ad q → dA n ad q := fun _ h => h
  have hl := lv_entry ([.ref (ad k), .int (nI 0)]) (n := 4) (Nat.le_of_ble_eq_true rfl)
  rw [lg_entry_eq]
  generalize (lg_sl ([.ref (ad k), .int (nI 0)]) ++ List.replicate (4 - (lg_sl ([.ref (ad k), .int (nI 0)])).length) Slot.unset).toArray = ls at hl ⊢
  have hl : lv_has ls 4 [(0, .ref (ad k)), (1, .int (nI 0))] := hl
  refine lv_iconst (v := 0) hx hb d_U_fill_0 rfl ?_
  refine lv_istore_n (lv' := [(2, .int 0), (0, .ref (ad k)), (1, .int (nI 0))]) hx hb d_U_fill_1 rfl hl (by decide) rfl (fun ls hl => ?_)
  refine lv_aload_n hx hb d_U_fill_2 rfl (lv_at hl 1 rfl) ?_
  refine zz_alen hx hb hK hP (j := k) hk (t0 := 0) (by decide) c1 d_U_fill_3 ?_
  refine lv_istore_n (lv' := [(3, .int (nI 32)), (2, .int 0), (0, .ref (ad k)), (1, .int (nI 0))]) hx hb d_U_fill_4 rfl hl (by decide) rfl (fun ls hl => ?_)
  have hP : va_P D zC (zl n ad (va_up ct k (.inl (ca 0, 32, .inl (zf f))))) s.heap := by rw [← c1, va_up_row1]; exact hP
  refine fill_loop hx hb hml hown hts hN hK hD hAA hI hk (fun f1 H locs ls hf hP hS => ?_) 32 0 rfl f s.heap [] ls (fun _ q => absurd q (Nat.not_lt_zero _)) hP hS (lv_sub hl [1, 0, 2, 3] rfl)
  exact W.vret hx hb hr (fun t ht hW => ⟨⟨_, rfl, ⟨f1, hf, rfl⟩, zN_warm hW hN, va_K.moved hW.alike hK, by rw [ht]; exact hP⟩, hS.F ht⟩) hS.2.2 d_U_fill_20

theorem d_T_clear_0 : decode c_T_clear 0 = .ok (.aload_n 0, 1) := by decide +kernel
theorem d_T_clear_1 : decode c_T_clear 1 = .ok (.getfield 9, 3) := by decide +kernel
theorem d_T_clear_4 : decode c_T_clear 4 = .ok (.iconst 0, 1) := by decide +kernel
theorem d_T_clear_5 : decode c_T_clear 5 = .ok (.invokestatic 15, 3) := by decide +kernel
theorem d_T_clear_8 : decode c_T_clear 8 = .ok (.return_, 1) := by decide +kernel

set_option maxHeartbeats 4000000 in
set_option maxRecDepth 100000 in
/-- clear() -/
theorem k_clear (l : Launch) (D : va_G) (ca : Nat → ClassId) (n : Nat) (ad : Nat → Nat) (ct : Nat → va_E) (hI : dI n ad) (j k : Nat) (f : Nat → Nat) (hj : j < n) (hk : k < n) (c0 : ct j = .inr (5, [.ref (ad k)])) (c1 : ct k = .inl (ca 0, 32, .inl (zf f))) : Met l y_T_clear (Cond.code y_T_clear c_T_clear 1 none :: zT) ({ frames := 2, cells := 0, slots := 0, locals := 80 }) (va_Pc [.ref (ad j)] (dw D ca n ad ct)) (va_Qv (fun ct1 => ∃ f1 : Nat → Nat, (∀ i, i < 32 → f1 i = 0) ∧ ct1 = va_up ct k (.inl (ca 0, 32, .inl (zf f1)))) (dw D ca n ad) (dA n ad)) 0 0 (dA n ad) := by
  refine Met.ofW (cc := c_T_clear) (maxL := 1) (ret := none) (by decide) rfl ?_
  intro p e s m args below meth c s₁ B hml hv
  obtain ⟨rfl, hN, hK, hP⟩ := hv
  have hx := B.exec
  have hb := B.bytes
  have hr := B.returns
  have hts0 := atoms_spec (ws := Cond.code y_T_clear c_T_clear 1 none :: zT) B.pre
  have hts := fun w h => hts0 w (List.mem_cons_of_mem _ h)
  have hown : s.vm.findClass R_T = some m.cls := findClass_of_methodNamed B.named
  have hlocks := B.notSynchronized
  have hD := dI_D hI
  have hS : va_S (dA n ad) s.heap s.heap [] := va_S.rf
  have hAA : ∀ q, dA n ad q → dA n ad q := fun _ h => h
  have hl := lv_entry ([.ref (ad j)]) (n := 1) (Nat.le_of_ble_eq_true rfl)
  rw [lg_entry_eq]
  generalize (lg_sl ([.ref (ad j)]) ++ List.replicate (1 - (lg_sl ([.ref (ad j)])).length) Slot.unset).toArray = ls at hl ⊢
  have hl : lv_has ls 1 [(0, .ref (ad j))] := hl
  refine lv_aload_n hx hb d_T_clear_0 rfl (lv_at hl 0 rfl) ?_
  refine zz_get (j := j) (ci := 5) (C := R_T) (T := T_T) (N := 1) hx hb hts in_T hown hK hP hj c0 rfl 0 (by decide) (hts _ mf_T_9) (fun _ h => h) (v := .ref (ad k)) rfl d_T_clear_1 ?_
  refine lv_iconst (v := 0) hx hb d_T_clear_4 rfl ?_
  refine dd_cvS (index := 15) (k := 2) (As := [.ref (ad k), .int (nI 0)]) (rest := []) ⟨hx, hb, hml, hown, hts⟩ (k_fill l D ca n ad ct hI k f hk c1) mk_T_15 ms_U_fill mi_U mc_U_fill (by decide +kernel) ⟨rfl, rfl⟩ ⟨by decide, by decide⟩ hN hK hP hS hAA rfl hl.1 rfl (Nat.le_of_ble_eq_true rfl) d_T_clear_5 ⟨Nat.zero_le _, Nat.zero_le _⟩ (fun ct1 H locs hct1 hP hS => ?_)
  exact W.vret hx hb hr (fun t ht hW => ⟨⟨ct1, rfl, hct1, zN_warm hW hN, va_K.moved hW.alike hK, by rw [ht]; exact hP⟩, hS.F ht⟩) hS.2.2 d_T_clear_8

theorem d_T_copy_0 : decode c_T_copy 0 = .ok (.aload_n 1, 1) := by decide +kernel
theorem d_T_copy_1 : decode c_T_copy 1 = .ok (.getfield 9, 3) := by decide +kernel
theorem d_T_copy_4 : decode c_T_copy 4 = .ok (.iconst 0, 1) := by decide +kernel
theorem d_T_copy_5 : decode c_T_copy 5 = .ok (.aload_n 0, 1) := by decide +kernel
theorem d_T_copy_6 : decode c_T_copy 6 = .ok (.getfield 9, 3) := by decide +kernel
theorem d_T_copy_9 : decode c_T_copy 9 = .ok (.iconst 0, 1) := by decide +kernel
theorem d_T_copy_10 : decode c_T_copy 10 = .ok (.aload_n 0, 1) := by decide +kernel
theorem d_T_copy_11 : decode c_T_copy 11 = .ok (.getfield 9, 3) := by decide +kernel
theorem d_T_copy_14 : decode c_T_copy 14 = .ok (.arraylength, 1) := by decide +kernel
theorem d_T_copy_15 : decode c_T_copy 15 = .ok (.invokestatic 21, 3) := by decide +kernel
theorem d_T_copy_18 : decode c_T_copy 18 = .ok (.return_, 1) := by decide +kernel

theorem zf_cp (f g : Nat → Nat) : va_cpy (zf f) (zf g) (0 : Int32).toNatClampNeg (0 : Int32).toNatClampNeg (nI 32).toNatClampNeg = zf (va_cpy f g 0 0 32) := by
  rw [show (0 : Int32).toNatClampNeg = 0 from by decide, nI_clamp (by decide)]
  funext q
  show (if 0 ≤ q ∧ q < 0 + 32 then nI (f (0 + (q - 0))) else nI (g q)) = nI (if 0 ≤ q ∧ q < 0 + 32 then f (0 + (q - 0)) else g q)
  by_cases h : 0 ≤ q ∧ q < 0 + 32
  · rw [if_pos h, if_pos h]
  · rw [if_neg h, if_neg h]

set_option maxHeartbeats 4000000 in
set_option maxRecDepth 100000 in
/-- copy(other) -/
theorem k_copy (l : Launch) (D : va_G) (ca : Nat → ClassId) (n : Nat) (ad : Nat → Nat) (ct : Nat → va_E) (hI : dI n ad) (j k : Nat) (f : Nat → Nat) (hj : j < n) (hk : k < n) (c0 : ct j = .inr (5, [.ref (ad k)])) (c1 : ct k = .inl (ca 0, 32, .inl (zf f))) (j2 k2 : Nat) (f2 : Nat → Nat) (hj2 : j2 < n) (hk2 : k2 < n) (c2 : ct j2 = .inr (5, [.ref (ad k2)])) (c3 : ct k2 = .inl (ca 0, 32, .inl (zf f2))) : Met l y_T_copy (Cond.code y_T_copy c_T_copy 2 none :: zT) ({ frames := 2, cells := 0, slots := 0, locals := 80 }) (va_Pc [.ref (ad j), .ref (ad j2)] (dw D ca n ad ct)) (va_Qv (fun ct1 => ct1 = va_up ct k (.inl (ca 0, 32, .inl (zf (va_cpy f2 f 0 0 32))))) (dw D ca n ad) (dA n ad)) 0 0 (dA n ad) := by
  refine Met.ofW (cc := c_T_copy) (maxL := 2) (ret := none) (by decide) rfl ?_
  intro p e s m args below meth c s₁ B hml hv
  obtain ⟨rfl, hN, hK, hP⟩ := hv
  have hx := B.exec
  have hb := B.bytes
  have hr := B.returns
  have hts0 := atoms_spec (ws := Cond.code y_T_copy c_T_copy 2 none :: zT) B.pre
  have hts := fun w h => hts0 w (List.mem_cons_of_mem _ h)
  have hown : s.vm.findClass R_T = some m.cls := findClass_of_methodNamed B.named
  have hlocks := B.notSynchronized
  have hD := dI_D hI
  have hS : va_S (dA n ad) s.heap s.heap [] := va_S.rf
  have hAA : ∀ q, dA n ad q → dA n ad q := fun _ h => h
  have hl := lv_entry ([.ref (ad j), .ref (ad j2)]) (n := 2) (Nat.le_of_ble_eq_true rfl)
  rw [lg_entry_eq]
  generalize (lg_sl ([.ref (ad j), .ref (ad j2)]) ++ List.replicate (2 - (lg_sl ([.ref (ad j), .ref (ad j2)])).length) Slot.unset).toArray = ls at hl ⊢
  have hl : lv_has ls 2 [(0, .ref (ad j)), (1, .ref (ad j2))] := hl
  refine lv_aload_n hx hb d_T_copy_0 rfl (lv_at hl 1 rfl) ?_
  refine zz_get (j := j2) (ci := 5) (C := R_T) (T := T_T) (N := 1) hx hb hts in_T hown hK hP hj2 c2 rfl 0 (by decide) (hts _ mf_T_9) (fun _ h => h) (v := .ref (ad k2)) rfl d_T_copy_1 ?_
  refine lv_iconst (v := 0) hx hb d_T_copy_4 rfl ?_
  refine lv_aload_n hx hb d_T_copy_5 rfl (lv_at hl 0 rfl) ?_
  refine zz_get (j := j) (ci := 5) (C := R_T) (T := T_T) (N := 1) hx hb hts in_T hown hK hP hj c0 rfl 0 (by decide) (hts _ mf_T_9) (fun _ h => h) (v := .ref (ad k)) rfl d_T_copy_6 ?_
  refine lv_iconst (v := 0) hx hb d_T_copy_9 rfl ?_
  refine lv_aload_n hx hb d_T_copy_10 rfl (lv_at hl 0 rfl) ?_
  refine zz_get (j := j) (ci := 5) (C := R_T) (T := T_T) (N := 1) hx hb hts in_T hown hK hP hj c0 rfl 0 (by decide) (hts _ mf_T_9) (fun _ h => h) (v := .ref (ad k)) rfl d_T_copy_11 ?_
  refine zz_alen hx hb hK hP (j := k) hk (t0 := 0) (by decide) c1 d_T_copy_14 ?_
  refine va_copyi (cl := zC) (tys := zty ca) (c0 := ca 0) (c1 := ca 0) (ty := .int) hx hb (hml.trans hl.1.symm) hown (hts _ mk_T_21) (hts _ mv_Y_arraycopy) (hts _ ms_Y_arraycopy) (hts _ mi_Y) hK hP (zD_to hD _) hS k2 k 0 0 ((zl_get hk2).trans (by rw [c3])) ((zl_get hk).trans (by rw [c1])) rfl rfl rfl (n := nI 32) (sp := 0) (dp := 0) (by decide) (by decide) (by decide) (by decide) (by decide) (fun i hi => rfl) (by decide) (by decide) d_T_copy_15 (fun H locs hP _ hS => ?_)
  rw [zl_set, zf_cp] at hP
  exact W.vret hx hb hr (fun t ht hW => ⟨⟨(va_up ct k (.inl (ca 0, 32, .inl (zf (va_cpy f2 f 0 0 32))))), rfl, rfl, zN_warm hW hN, va_K.moved hW.alike hK, by rw [ht]; exact hP⟩, hS.F ht⟩) hS.2.2 d_T_copy_18
