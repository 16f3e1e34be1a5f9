/-! Leaf: what it reads and writes -/
def fitB (bf ef : Nat → Nat) (np x : Nat) : Bool := decide (bf 0 ^ x % 10007 = ef 0) && (decide (np = 1) || decide (bf 1 ^ x % 10007 = ef 1))
def mixL (bf ef f : Nat → Nat) (nm np h : Nat) : Nat := if np = 1 then 31 * (31 * (31 * h + bf 0) + ef 0) + f (nm * 4 + 0) else 31 * (31 * (31 * (31 * (31 * (31 * h + bf 0) + ef 0) + f (nm * 4 + 0)) + bf 1) + ef 1) + f (nm * 4 + 1)
def holdP (bf ef f : Nat → Nat) (nm p : Nat) : Bool := decide (bf p ^ f (nm * 4 + 3) % 10007 = f (nm * 4 + p) * (ef p ^ f (nm * 4 + 2) % 10007) % 10007)
def holdB (bf ef f : Nat → Nat) (nm np : Nat) : Bool := holdP bf ef f nm 0 && (decide (np = 1) || holdP bf ef f nm 1)
def ftR (bf f : Nat → Nat) (nm np x : Nat) : Nat → Nat := if np = 1 then va_up (va_up (va_up f (nm * 4 + 0) (bf 0 ^ x % 10007)) (nm * 4 + 2) 0) (nm * 4 + 3) 0 else va_up (va_up (va_up (va_up f (nm * 4 + 0) (bf 0 ^ x % 10007)) (nm * 4 + 1) (bf 1 ^ x % 10007)) (nm * 4 + 2) 0) (nm * 4 + 3) 0
def cvS (b y c x : Nat) : Nat := (b ^ x % 10007) * (y ^ (5003 - c) % 10007) % 10007
def ftS (bf ef f : Nat → Nat) (nm np c x : Nat) : Nat → Nat := if np = 1 then va_up (va_up (va_up f (nm * 4 + 0) (cvS (bf 0) (ef 0) c x)) (nm * 4 + 2) c) (nm * 4 + 3) x else va_up (va_up (va_up (va_up f (nm * 4 + 0) (cvS (bf 0) (ef 0) c x)) (nm * 4 + 1) (cvS (bf 1) (ef 1) c x)) (nm * 4 + 2) c) (nm * 4 + 3) x

theorem d_F_pairs_0 : decode c_F_pairs 0 = .ok (.aload_n 0, 1) := by decide +kernel
theorem d_F_pairs_1 : decode c_F_pairs 1 = .ok (.getfield 9, 3) := by decide +kernel
theorem d_F_pairs_4 : decode c_F_pairs 4 = .ok (.arraylength, 1) := by decide +kernel
theorem d_F_pairs_5 : decode c_F_pairs 5 = .ok (.ireturn, 1) := by decide +kernel

set_option maxHeartbeats 4000000 in
set_option maxRecDepth 100000 in
/-- pairs() -/
theorem k_pairs (l : Launch) (D : va_G) (ca : Nat → ClassId) (n : Nat) (ad : Nat → Nat) (ct : Nat → va_E) (j jb je np : Nat) (bf ef : Nat → Nat) (nm tl wt no : Nat) (hj : j < n) (hjb : jb < n) (hje : je < n) (hnp : np = 1 ∨ np = 2) (c0 : ct j = .inr (4, [.int 1, .ref (ad jb), .ref (ad je), .int (nI nm), .int (nI tl), .int (nI wt), .int (nI no)])) (c1 : ct jb = .inl (ca 0, np, .inl (zf bf))) (c2 : ct je = .inl (ca 0, np, .inl (zf ef))) : Met l y_F_pairs (Cond.code y_F_pairs c_F_pairs 1 (some .int) :: zT) ({ frames := 1, cells := 0, slots := 0, locals := 40 }) (va_Pc [.ref (ad j)] (dw D ca n ad ct)) (QcRead (nI np)) 0 0 (fun _ => False) := by
  refine Met.ofW (cc := c_F_pairs) (maxL := 1) (ret := (some .int)) (by decide) rfl ?_
  intro p e s m args below meth c s₁ B hml hv
  obtain ⟨rfl, hN, hK, hP⟩ := hv
  have hx := B.exec
  have hb := B.bytes
  have hr := B.returns
  have hts0 := atoms_spec (ws := Cond.code y_F_pairs c_F_pairs 1 (some .int) :: zT) B.pre
  have hts := fun w h => hts0 w (List.mem_cons_of_mem _ h)
  have hown : s.vm.findClass R_F = some m.cls := findClass_of_methodNamed B.named
  have hlocks := B.notSynchronized
  have hl := lv_entry ([.ref (ad j)]) (n := 1) (Nat.le_of_ble_eq_true rfl)
  rw [lg_entry_eq]
  generalize (lg_sl ([.ref (ad j)]) ++ List.replicate (1 - (lg_sl ([.ref (ad j)])).length) Slot.unset).toArray = ls at hl ⊢
  have hl : lv_has ls 1 [(0, .ref (ad j))] := hl
  refine lv_aload_n hx hb d_F_pairs_0 rfl (lv_at hl 0 rfl) ?_
  refine zz_get (j := j) (ci := 4) (C := R_F) (T := T_F) (N := 7) hx hb hts in_F hown hK hP hj c0 rfl 1 (by decide) (hts _ mf_F_9) (fun _ h => h) (v := .ref (ad jb)) rfl d_F_pairs_1 ?_
  refine zz_alen hx hb hK hP (j := jb) hjb (t0 := 0) (by decide) c1 d_F_pairs_4 ?_
  exact W.iret hx hb hr (fun t ht hW => ⟨rfl, ht⟩) (fun q h => absurd h List.not_mem_nil) d_F_pairs_5

theorem d_F_isKnown_0 : decode c_F_isKnown 0 = .ok (.aload_n 0, 1) := by decide +kernel
theorem d_F_isKnown_1 : decode c_F_isKnown 1 = .ok (.getfield 22, 3) := by decide +kernel
theorem d_F_isKnown_4 : decode c_F_isKnown 4 = .ok (.ireturn, 1) := by decide +kernel

set_option maxHeartbeats 4000000 in
set_option maxRecDepth 100000 in
/-- isKnown() -/
theorem k_isKnownF (l : Launch) (D : va_G) (ca : Nat → ClassId) (n : Nat) (ad : Nat → Nat) (ct : Nat → va_E) (j jb je np : Nat) (bf ef : Nat → Nat) (nm tl wt no : Nat) (hj : j < n) (hjb : jb < n) (hje : je < n) (hnp : np = 1 ∨ np = 2) (c0 : ct j = .inr (4, [.int 1, .ref (ad jb), .ref (ad je), .int (nI nm), .int (nI tl), .int (nI wt), .int (nI no)])) (c1 : ct jb = .inl (ca 0, np, .inl (zf bf))) (c2 : ct je = .inl (ca 0, np, .inl (zf ef))) (htl : tl < 2) : Met l y_F_isKnown (Cond.code y_F_isKnown c_F_isKnown 1 (some .boolean) :: zT) ({ frames := 1, cells := 0, slots := 0, locals := 40 }) (va_Pc [.ref (ad j)] (dw D ca n ad ct)) (QcRead (nI tl)) 0 0 (fun _ => False) := by
  refine Met.ofW (cc := c_F_isKnown) (maxL := 1) (ret := (some .boolean)) (by decide) rfl ?_
  intro p e s m args below meth c s₁ B hml hv
  obtain ⟨rfl, hN, hK, hP⟩ := hv
  have hx := B.exec
  have hb := B.bytes
  have hr := B.returns
  have hts0 := atoms_spec (ws := Cond.code y_F_isKnown c_F_isKnown 1 (some .boolean) :: zT) B.pre
  have hts := fun w h => hts0 w (List.mem_cons_of_mem _ h)
  have hown : s.vm.findClass R_F = some m.cls := findClass_of_methodNamed B.named
  have hlocks := B.notSynchronized
  have hl := lv_entry ([.ref (ad j)]) (n := 1) (Nat.le_of_ble_eq_true rfl)
  rw [lg_entry_eq]
  generalize (lg_sl ([.ref (ad j)]) ++ List.replicate (1 - (lg_sl ([.ref (ad j)])).length) Slot.unset).toArray = ls at hl ⊢
  have hl : lv_has ls 1 [(0, .ref (ad j))] := hl
  refine lv_aload_n hx hb d_F_isKnown_0 rfl (lv_at hl 0 rfl) ?_
  refine zz_get (j := j) (ci := 4) (C := R_F) (T := T_F) (N := 7) hx hb hts in_F hown hK hP hj c0 rfl 4 (by decide) (hts _ mf_F_22) (fun _ h => h) (v := .int (nI tl)) rfl d_F_isKnown_1 ?_
  exact W.zret hx hb hr (zn_narb htl) (fun t ht hW => ⟨rfl, ht⟩) (fun q h => absurd h List.not_mem_nil) d_F_isKnown_4

theorem d_F_challengeIn_0 : decode c_F_challengeIn 0 = .ok (.aload_n 1, 1) := by decide +kernel
theorem d_F_challengeIn_1 : decode c_F_challengeIn 1 = .ok (.aload_n 0, 1) := by decide +kernel
theorem d_F_challengeIn_2 : decode c_F_challengeIn 2 = .ok (.getfield 30, 3) := by decide +kernel
theorem d_F_challengeIn_5 : decode c_F_challengeIn 5 = .ok (.iconst 2, 1) := by decide +kernel
theorem d_F_challengeIn_6 : decode c_F_challengeIn 6 = .ok (.invokevirtual 33, 3) := by decide +kernel
theorem d_F_challengeIn_9 : decode c_F_challengeIn 9 = .ok (.ireturn, 1) := by decide +kernel

set_option maxHeartbeats 4000000 in
set_option maxRecDepth 100000 in
/-- challengeIn(t) -/
theorem k_challengeInF (l : Launch) (D : va_G) (ca : Nat → ClassId) (n : Nat) (ad : Nat → Nat) (ct : Nat → va_E) (j jb je np : Nat) (bf ef : Nat → Nat) (nm tl wt no : Nat) (hj : j < n) (hjb : jb < n) (hje : je < n) (hnp : np = 1 ∨ np = 2) (c0 : ct j = .inr (4, [.int 1, .ref (ad jb), .ref (ad je), .int (nI nm), .int (nI tl), .int (nI wt), .int (nI no)])) (c1 : ct jb = .inl (ca 0, np, .inl (zf bf))) (c2 : ct je = .inl (ca 0, np, .inl (zf ef))) (jt kt : Nat) (f : Nat → Nat) (hjt : jt < n) (hkt : kt < n) (c3 : ct jt = .inr (5, [.ref (ad kt)])) (c4 : ct kt = .inl (ca 0, 32, .inl (zf f))) (hnm : nm < 8) : Met l y_F_challengeIn (Cond.code y_F_challengeIn c_F_challengeIn 2 (some .int) :: zT) ({ frames := 2, cells := 0, slots := 0, locals := 80 }) (va_Pc [.ref (ad j), .ref (ad jt)] (dw D ca n ad ct)) (QcRead (nI (f (nm * 4 + 2)))) 0 0 (fun _ => False) := by
  refine Met.ofW (cc := c_F_challengeIn) (maxL := 2) (ret := (some .int)) (by decide) rfl ?_
  intro p e s m args below meth c s₁ B hml hv
  obtain ⟨rfl, hN, hK, hP⟩ := hv
  have hx := B.exec
  have hb := B.bytes
  have hr := B.returns
  have hts0 := atoms_spec (ws := Cond.code y_F_challengeIn c_F_challengeIn 2 (some .int) :: zT) B.pre
  have hts := fun w h => hts0 w (List.mem_cons_of_mem _ h)
  have hown : s.vm.findClass R_F = some m.cls := findClass_of_methodNamed B.named
  have hlocks := B.notSynchronized
  have hl := lv_entry ([.ref (ad j), .ref (ad jt)]) (n := 2) (Nat.le_of_ble_eq_true rfl)
  rw [lg_entry_eq]
  generalize (lg_sl ([.ref (ad j), .ref (ad jt)]) ++ List.replicate (2 - (lg_sl ([.ref (ad j), .ref (ad jt)])).length) Slot.unset).toArray = ls at hl ⊢
  have hl : lv_has ls 2 [(0, .ref (ad j)), (1, .ref (ad jt))] := hl
  refine lv_aload_n hx hb d_F_challengeIn_0 rfl (lv_at hl 1 rfl) ?_
  refine lv_aload_n hx hb d_F_challengeIn_1 rfl (lv_at hl 0 rfl) ?_
  refine zz_get (j := j) (ci := 4) (C := R_F) (T := T_F) (N := 7) hx hb hts in_F hown hK hP hj c0 rfl 3 (by decide) (hts _ mf_F_30) (fun _ h => h) (v := .int (nI nm)) rfl d_F_challengeIn_2 ?_
  refine lv_iconst (v := 2) hx hb d_F_challengeIn_5 rfl ?_
  refine zz_cV (index := 33) (n := 2) (As := [.int (nI nm), .int 2]) (rest := []) ⟨hx, hb, hml, hown, hts⟩ (k_get l D ca n ad ct jt kt f hjt hkt c3 c4 nm 2 (by omega)) mk_F_33 mo_T_get me_T_T_get_T mi_T mc_T_get (by decide +kernel) ⟨rfl, rfl⟩ ⟨by decide, by decide⟩ (dd_pre hN hK hP (j := jt) hjt c3 (r := (R_T, T_T, 1)) rfl) rfl hl.1 rfl (Nat.le_of_ble_eq_true rfl) d_F_challengeIn_6 ⟨Nat.zero_le _, Nat.zero_le _⟩ ?_
  exact W.iret hx hb hr (fun t ht hW => ⟨rfl, ht⟩) (fun q h => absurd h List.not_mem_nil) d_F_challengeIn_9

theorem d_F_learn_0 : decode c_F_learn 0 = .ok (.aload_n 0, 1) := by decide +kernel
theorem d_F_learn_1 : decode c_F_learn 1 = .ok (.iconst 1, 1) := by decide +kernel
theorem d_F_learn_2 : decode c_F_learn 2 = .ok (.putfield 22, 3) := by decide +kernel
theorem d_F_learn_5 : decode c_F_learn 5 = .ok (.aload_n 0, 1) := by decide +kernel
theorem d_F_learn_6 : decode c_F_learn 6 = .ok (.iload_n 1, 1) := by decide +kernel
theorem d_F_learn_7 : decode c_F_learn 7 = .ok (.putfield 26, 3) := by decide +kernel
theorem d_F_learn_10 : decode c_F_learn 10 = .ok (.return_, 1) := by decide +kernel

set_option maxHeartbeats 4000000 in
set_option maxRecDepth 100000 in
/-- learn(x) -/
theorem k_learn (l : Launch) (D : va_G) (ca : Nat → ClassId) (n : Nat) (ad : Nat → Nat) (ct : Nat → va_E) (hI : dI n ad) (j jb je np : Nat) (bf ef : Nat → Nat) (nm tl wt no : Nat) (hj : j < n) (hjb : jb < n) (hje : je < n) (hnp : np = 1 ∨ np = 2) (c0 : ct j = .inr (4, [.int 1, .ref (ad jb), .ref (ad je), .int (nI nm), .int (nI tl), .int (nI wt), .int (nI no)])) (c1 : ct jb = .inl (ca 0, np, .inl (zf bf))) (c2 : ct je = .inl (ca 0, np, .inl (zf ef))) (x : Nat) : Met l y_F_learn (Cond.code y_F_learn c_F_learn 2 none :: zT) ({ frames := 1, cells := 0, slots := 0, locals := 40 }) (va_Pc [.ref (ad j), .int (nI x)] (dw D ca n ad ct)) (va_Qv (fun ct1 => ct1 = va_up ct j (.inr (4, [.int 1, .ref (ad jb), .ref (ad je), .int (nI nm), .int (nI 1), .int (nI x), .int (nI no)]))) (dw D ca n ad) (dA n ad)) 0 0 (dA n ad) := by
  refine Met.ofW (cc := c_F_learn) (maxL := 2) (ret := none) (by decide) rfl ?_
  intro p e s m args below meth c s₁ B hml hv
  obtain ⟨rfl, hN, hK, hP⟩ := hv
  have hx := B.exec
  have hb := B.bytes
  have hr := B.returns
  have hts0 := atoms_spec (ws := Cond.code y_F_learn c_F_learn 2 none :: zT) B.pre
  have hts := fun w h => hts0 w (List.mem_cons_of_mem _ h)
  have hown : s.vm.findClass R_F = some m.cls := findClass_of_methodNamed B.named
  have hlocks := B.notSynchronized
  have hD := dI_D hI
  have hS : va_S (dA n ad) s.heap s.heap [] := va_S.rf
  have hAA : ∀ q, dA n ad q → dA n ad q := fun _ h => h
  have hl := lv_entry ([.ref (ad j), .int (nI x)]) (n := 2) (Nat.le_of_ble_eq_true rfl)
  rw [lg_entry_eq]
  generalize (lg_sl ([.ref (ad j), .int (nI x)]) ++ List.replicate (2 - (lg_sl ([.ref (ad j), .int (nI x)])).length) Slot.unset).toArray = ls at hl ⊢
  have hl : lv_has ls 2 [(0, .ref (ad j)), (1, .int (nI x))] := hl
  refine lv_aload_n hx hb d_F_learn_0 rfl (lv_at hl 0 rfl) ?_
  refine lv_iconst (v := 1) hx hb d_F_learn_1 rfl ?_
  refine zz_put (j := j) (ci := 4) (C := R_F) (T := T_F) (N := 7) (v := .int 1) (ty := ft_F 4) hx hb hts in_F ft_F ft_F_ok fn_F hown hK hP hD hS hj c0 rfl 4 (by decide) (hts _ mf_F_22) (fun _ h => h) rfl (ft_F_ok 4 (by decide)) rfl rfl (Nat.le_of_ble_eq_true rfl) d_F_learn_2 (fun H locs hP hS => ?_)
  have hP : va_P D zC (zl n ad (va_up ct j (.inr (4, [.int 1, .ref (ad jb), .ref (ad je), .int (nI nm), .int 1, .int (nI wt), .int (nI no)])))) H := hP
  obtain ⟨ct1, hct1⟩ : ∃ c, c = va_up ct j (.inr (4, [.int 1, .ref (ad jb), .ref (ad je), .int (nI nm), .int 1, .int (nI wt), .int (nI no)])) := ⟨_, rfl⟩
  rw [← hct1] at hP
  have c0 : ct1 j = .inr (4, [.int 1, .ref (ad jb), .ref (ad je), .int (nI nm), .int 1, .int (nI wt), .int (nI no)]) := by rw [hct1]; exact va_up_self _ _ _
  refine lv_aload_n hx hb d_F_learn_5 rfl (lv_at hl 0 rfl) ?_
  refine lv_iload_n hx hb d_F_learn_6 rfl (lv_at hl 1 rfl) ?_
  refine zz_put (j := j) (ci := 4) (C := R_F) (T := T_F) (N := 7) (v := .int (nI x)) (ty := ft_F 5) hx hb hts in_F ft_F ft_F_ok fn_F hown hK hP hD hS hj c0 rfl 5 (by decide) (hts _ mf_F_26) (fun _ h => h) rfl (ft_F_ok 5 (by decide)) rfl rfl (Nat.le_of_ble_eq_true rfl) d_F_learn_7 (fun H locs hP hS => ?_)
  have hP : va_P D zC (zl n ad (va_up ct1 j (.inr (4, [.int 1, .ref (ad jb), .ref (ad je), .int (nI nm), .int 1, .int (nI x), .int (nI no)])))) H := hP
  obtain ⟨ct2, hct2⟩ : ∃ c, c = va_up ct1 j (.inr (4, [.int 1, .ref (ad jb), .ref (ad je), .int (nI nm), .int 1, .int (nI x), .int (nI no)])) := ⟨_, rfl⟩
  rw [← hct2] at hP
  have c0 : ct2 j = .inr (4, [.int 1, .ref (ad jb), .ref (ad je), .int (nI nm), .int 1, .int (nI x), .int (nI no)]) := by rw [hct2]; exact va_up_self _ _ _
  exact W.vret hx hb hr (fun t ht hW => ⟨⟨ct2, rfl, by rw [hct2, hct1, bx_uu]; rfl, zN_warm hW hN, va_K.moved hW.alike hK, by rw [ht]; exact hP⟩, hS.F ht⟩) hS.2.2 d_F_learn_10

theorem d_F_fits_0 : decode c_F_fits 0 = .ok (.iconst 0, 1) := by decide +kernel
theorem d_F_fits_1 : decode c_F_fits 1 = .ok (.istore_n 2, 1) := by decide +kernel
theorem d_F_fits_2 : decode c_F_fits 2 = .ok (.iload_n 2, 1) := by decide +kernel
theorem d_F_fits_3 : decode c_F_fits 3 = .ok (.aload_n 0, 1) := by decide +kernel
theorem d_F_fits_4 : decode c_F_fits 4 = .ok (.getfield 9, 3) := by decide +kernel
theorem d_F_fits_7 : decode c_F_fits 7 = .ok (.arraylength, 1) := by decide +kernel
theorem d_F_fits_8 : decode c_F_fits 8 = .ok (.if_icmp .ge 33, 3) := by decide +kernel
theorem d_F_fits_11 : decode c_F_fits 11 = .ok (.aload_n 0, 1) := by decide +kernel
theorem d_F_fits_12 : decode c_F_fits 12 = .ok (.getfield 9, 3) := by decide +kernel
theorem d_F_fits_15 : decode c_F_fits 15 = .ok (.iload_n 2, 1) := by decide +kernel
theorem d_F_fits_16 : decode c_F_fits 16 = .ok (.iaload, 1) := by decide +kernel
theorem d_F_fits_17 : decode c_F_fits 17 = .ok (.iload_n 1, 1) := by decide +kernel
theorem d_F_fits_18 : decode c_F_fits 18 = .ok (.sipush 10007, 3) := by decide +kernel
theorem d_F_fits_21 : decode c_F_fits 21 = .ok (.invokestatic 18, 3) := by decide +kernel
theorem d_F_fits_24 : decode c_F_fits 24 = .ok (.aload_n 0, 1) := by decide +kernel
theorem d_F_fits_25 : decode c_F_fits 25 = .ok (.getfield 15, 3) := by decide +kernel
theorem d_F_fits_28 : decode c_F_fits 28 = .ok (.iload_n 2, 1) := by decide +kernel
theorem d_F_fits_29 : decode c_F_fits 29 = .ok (.iaload, 1) := by decide +kernel
theorem d_F_fits_30 : decode c_F_fits 30 = .ok (.if_icmp .eq 5, 3) := by decide +kernel
theorem d_F_fits_33 : decode c_F_fits 33 = .ok (.iconst 0, 1) := by decide +kernel
theorem d_F_fits_34 : decode c_F_fits 34 = .ok (.ireturn, 1) := by decide +kernel
theorem d_F_fits_35 : decode c_F_fits 35 = .ok (.iinc 2 1, 3) := by decide +kernel
theorem d_F_fits_38 : decode c_F_fits 38 = .ok (.goto (-36), 3) := by decide +kernel
theorem d_F_fits_41 : decode c_F_fits 41 = .ok (.iconst 1, 1) := by decide +kernel
theorem d_F_fits_42 : decode c_F_fits 42 = .ok (.ireturn, 1) := by decide +kernel

set_option maxHeartbeats 4000000 in
set_option maxRecDepth 100000 in
/-- fits(x) -/
theorem k_fits (l : Launch) (D : va_G) (ca : Nat → ClassId) (n : Nat) (ad : Nat → Nat) (ct : Nat → va_E) (j jb je np : Nat) (bf ef : Nat → Nat) (nm tl wt no : Nat) (hj : j < n) (hjb : jb < n) (hje : je < n) (hnp : np = 1 ∨ np = 2) (c0 : ct j = .inr (4, [.int 1, .ref (ad jb), .ref (ad je), .int (nI nm), .int (nI tl), .int (nI wt), .int (nI no)])) (c1 : ct jb = .inl (ca 0, np, .inl (zf bf))) (c2 : ct je = .inl (ca 0, np, .inl (zf ef))) (hbf : ∀ i, i < np → bf i < 10007) (hef : ∀ i, i < np → ef i < 10007) (x : Nat) (hx1 : x < 5003) : Met l y_F_fits (Cond.code y_F_fits c_F_fits 3 (some .boolean) :: zT) ({ frames := 2, cells := 0, slots := 0, locals := 80 }) (va_Pc [.ref (ad j), .int (nI x)] (dw D ca n ad ct)) (QcRead (zb (fitB bf ef np x))) 0 0 (fun _ => False) := by
  refine Met.ofW (cc := c_F_fits) (maxL := 3) (ret := (some .boolean)) (by decide) rfl ?_
  intro p e s m args below meth c s₁ B hml hv
  obtain ⟨rfl, hN, hK, hP⟩ := hv
  have hx := B.exec
  have hb := B.bytes
  have hr := B.returns
  have hts0 := atoms_spec (ws := Cond.code y_F_fits c_F_fits 3 (some .boolean) :: zT) B.pre
  have hts := fun w h => hts0 w (List.mem_cons_of_mem _ h)
  have hown : s.vm.findClass R_F = some m.cls := findClass_of_methodNamed B.named
  have hlocks := B.notSynchronized
  have hl := lv_entry ([.ref (ad j), .int (nI x)]) (n := 3) (Nat.le_of_ble_eq_true rfl)
  rw [lg_entry_eq]
  generalize (lg_sl ([.ref (ad j), .int (nI x)]) ++ List.replicate (3 - (lg_sl ([.ref (ad j), .int (nI x)])).length) Slot.unset).toArray = ls at hl ⊢
  have hl : lv_has ls 3 [(0, .ref (ad j)), (1, .int (nI x))] := hl
  rcases hnp with rfl | rfl
  · skip
    refine lv_iconst (v := 0) hx hb d_F_fits_0 rfl ?_
    refine lv_istore_n (lv' := [(2, .int 0), (0, .ref (ad j)), (1, .int (nI x))]) hx hb d_F_fits_1 rfl hl (by decide) rfl (fun ls hl => ?_)
    have hl : lv_has ls 3 [(2, .int 0), (0, .ref (ad j)), (1, .int (nI x))] := hl
    refine lv_iload_n hx hb d_F_fits_2 rfl (lv_at hl 0 rfl) ?_
    refine lv_aload_n hx hb d_F_fits_3 rfl (lv_at hl 1 rfl) ?_
    refine zz_get (j := j) (ci := 4) (C := R_F) (T := T_F) (N := 7) hx hb hts in_F hown hK hP hj c0 rfl 1 (by decide) (hts _ mf_F_9) (fun _ h => h) (v := .ref (ad jb)) rfl d_F_fits_4 ?_
    refine zz_alen hx hb hK hP (j := jb) hjb (t0 := 0) (by decide) c1 d_F_fits_7 ?_
    refine lv_icmp_ge (tgt := 41) hx hb d_F_fits_8 rfl (fun h8 => absurd h8 (by decide)) (fun h8 => ?_)
    refine lv_aload_n hx hb d_F_fits_11 rfl (lv_at hl 1 rfl) ?_
    refine zz_get (j := j) (ci := 4) (C := R_F) (T := T_F) (N := 7) hx hb hts in_F hown hK hP hj c0 rfl 1 (by decide) (hts _ mf_F_9) (fun _ h => h) (v := .ref (ad jb)) rfl d_F_fits_12 ?_
    refine lv_iload_n hx hb d_F_fits_15 rfl (lv_at hl 0 rfl) ?_
    refine dd_ald hx hb hK hP (j := jb) hjb c1 (0) rfl (by omega) (by decide) (bf 0) (rfl) d_F_fits_16 ?_
    refine lv_iload_n hx hb d_F_fits_17 rfl (lv_at hl 2 rfl) ?_
    refine lv_sipush (v := 10007) hx hb d_F_fits_18 rfl ?_
    refine zz_cSN (index := 18) (n := 3) (As := [.int (nI (bf 0)), .int (nI x), .int 10007]) (rest := []) ⟨hx, hb, hml, hown, hts⟩ (k_raise l (bf 0) x 10007 (hbf _ (by decide)) (by decide) (by decide) (by omega)) hN mk_F_18 ms_D_raise mi_D mc_D_raise (by decide +kernel) ⟨rfl, rfl⟩ ⟨by decide, by decide⟩ preEq rfl hl.1 rfl (Nat.le_of_ble_eq_true rfl) d_F_fits_21 ⟨Nat.zero_le _, Nat.zero_le _⟩ ?_
    refine lv_aload_n hx hb d_F_fits_24 rfl (lv_at hl 1 rfl) ?_
    refine zz_get (j := j) (ci := 4) (C := R_F) (T := T_F) (N := 7) hx hb hts in_F hown hK hP hj c0 rfl 2 (by decide) (hts _ mf_F_15) (fun _ h => h) (v := .ref (ad je)) rfl d_F_fits_25 ?_
    refine lv_iload_n hx hb d_F_fits_28 rfl (lv_at hl 0 rfl) ?_
    refine dd_ald hx hb hK hP (j := je) hje c2 (0) rfl (by omega) (by decide) (ef 0) (rfl) d_F_fits_29 ?_
    refine lv_icmp_eq (tgt := 35) hx hb d_F_fits_30 rfl (fun h30 => ?_) (fun h30 => ?_)
    · skip
      have e0 : bf 0 ^ x % 10007 = ef 0 := (zn_inj (Nat.lt_trans (Nat.mod_lt _ (by decide)) (by decide)) (Nat.lt_trans (hef _ (by decide)) (by decide))).mp h30
      refine lv_iinc (k := 0) (v := nI (0 + 1)) (lv' := [(2, .int (nI (0 + 1))), (0, .ref (ad j)), (1, .int (nI x))]) hx hb d_F_fits_35 hl rfl (nI_1 _) (by decide) rfl (fun ls hl => ?_)
      refine lv_goto (tgt := 2) hx hb d_F_fits_38 rfl ?_
      have hl : lv_has ls 3 [(2, .int 1), (0, .ref (ad j)), (1, .int (nI x))] := hl
      refine lv_iload_n hx hb d_F_fits_2 rfl (lv_at hl 0 rfl) ?_
      refine lv_aload_n hx hb d_F_fits_3 rfl (lv_at hl 1 rfl) ?_
      refine zz_get (j := j) (ci := 4) (C := R_F) (T := T_F) (N := 7) hx hb hts in_F hown hK hP hj c0 rfl 1 (by decide) (hts _ mf_F_9) (fun _ h => h) (v := .ref (ad jb)) rfl d_F_fits_4 ?_
      refine zz_alen hx hb hK hP (j := jb) hjb (t0 := 0) (by decide) c1 d_F_fits_7 ?_
      refine lv_icmp_ge (tgt := 41) hx hb d_F_fits_8 rfl (fun h8 => ?_) (fun h8 => absurd (by decide) h8)
      refine lv_iconst (v := 1) hx hb d_F_fits_41 rfl ?_
      have hq : fitB bf ef 1 x = true := by unfold fitB; rw [decide_eq_true e0]; rfl
      refine zz_as (y := zb (fitB bf ef 1 x)) (by rw [hq]; rfl) ?_
      exact W.zret hx hb hr (zb_nar _) (fun t ht hW => ⟨rfl, ht⟩) (fun q h => absurd h List.not_mem_nil) d_F_fits_42
    · skip
      have e0 : ¬ bf 0 ^ x % 10007 = ef 0 := fun q => h30 (congrArg nI q)
      refine lv_iconst (v := 0) hx hb d_F_fits_33 rfl ?_
      have hq : fitB bf ef 1 x = false := by unfold fitB; rw [decide_eq_false e0, Bool.false_and]
      refine zz_as (y := zb (fitB bf ef 1 x)) (by rw [hq]; rfl) ?_
      exact W.zret hx hb hr (zb_nar _) (fun t ht hW => ⟨rfl, ht⟩) (fun q h => absurd h List.not_mem_nil) d_F_fits_34
  · skip
    refine lv_iconst (v := 0) hx hb d_F_fits_0 rfl ?_
    refine lv_istore_n (lv' := [(2, .int 0), (0, .ref (ad j)), (1, .int (nI x))]) hx hb d_F_fits_1 rfl hl (by decide) rfl (fun ls hl => ?_)
    have hl : lv_has ls 3 [(2, .int 0), (0, .ref (ad j)), (1, .int (nI x))] := hl
    refine lv_iload_n hx hb d_F_fits_2 rfl (lv_at hl 0 rfl) ?_
    refine lv_aload_n hx hb d_F_fits_3 rfl (lv_at hl 1 rfl) ?_
    refine zz_get (j := j) (ci := 4) (C := R_F) (T := T_F) (N := 7) hx hb hts in_F hown hK hP hj c0 rfl 1 (by decide) (hts _ mf_F_9) (fun _ h => h) (v := .ref (ad jb)) rfl d_F_fits_4 ?_
    refine zz_alen hx hb hK hP (j := jb) hjb (t0 := 0) (by decide) c1 d_F_fits_7 ?_
    refine lv_icmp_ge (tgt := 41) hx hb d_F_fits_8 rfl (fun h8 => absurd h8 (by decide)) (fun h8 => ?_)
    refine lv_aload_n hx hb d_F_fits_11 rfl (lv_at hl 1 rfl) ?_
    refine zz_get (j := j) (ci := 4) (C := R_F) (T := T_F) (N := 7) hx hb hts in_F hown hK hP hj c0 rfl 1 (by decide) (hts _ mf_F_9) (fun _ h => h) (v := .ref (ad jb)) rfl d_F_fits_12 ?_
    refine lv_iload_n hx hb d_F_fits_15 rfl (lv_at hl 0 rfl) ?_
    refine dd_ald hx hb hK hP (j := jb) hjb c1 (0) rfl (by omega) (by decide) (bf 0) (rfl) d_F_fits_16 ?_
    refine lv_iload_n hx hb d_F_fits_17 rfl (lv_at hl 2 rfl) ?_
    refine lv_sipush (v := 10007) hx hb d_F_fits_18 rfl ?_
    refine zz_cSN (index := 18) (n := 3) (As := [.int (nI (bf 0)), .int (nI x), .int 10007]) (rest := []) ⟨hx, hb, hml, hown, hts⟩ (k_raise l (bf 0) x 10007 (hbf _ (by decide)) (by decide) (by decide) (by omega)) hN mk_F_18 ms_D_raise mi_D mc_D_raise (by decide +kernel) ⟨rfl, rfl⟩ ⟨by decide, by decide⟩ preEq rfl hl.1 rfl (Nat.le_of_ble_eq_true rfl) d_F_fits_21 ⟨Nat.zero_le _, Nat.zero_le _⟩ ?_
    refine lv_aload_n hx hb d_F_fits_24 rfl (lv_at hl 1 rfl) ?_
    refine zz_get (j := j) (ci := 4) (C := R_F) (T := T_F) (N := 7) hx hb hts in_F hown hK hP hj c0 rfl 2 (by decide) (hts _ mf_F_15) (fun _ h => h) (v := .ref (ad je)) rfl d_F_fits_25 ?_
    refine lv_iload_n hx hb d_F_fits_28 rfl (lv_at hl 0 rfl) ?_
    refine dd_ald hx hb hK hP (j := je) hje c2 (0) rfl (by omega) (by decide) (ef 0) (rfl) d_F_fits_29 ?_
    refine lv_icmp_eq (tgt := 35) hx hb d_F_fits_30 rfl (fun h30 => ?_) (fun h30 => ?_)
    · skip
      have e0 : bf 0 ^ x % 10007 = ef 0 := (zn_inj (Nat.lt_trans (Nat.mod_lt _ (by decide)) (by decide)) (Nat.lt_trans (hef _ (by decide)) (by decide))).mp h30
      refine lv_iinc (k := 0) (v := nI (0 + 1)) (lv' := [(2, .int (nI (0 + 1))), (0, .ref (ad j)), (1, .int (nI x))]) hx hb d_F_fits_35 hl rfl (nI_1 _) (by decide) rfl (fun ls hl => ?_)
      refine lv_goto (tgt := 2) hx hb d_F_fits_38 rfl ?_
      have hl : lv_has ls 3 [(2, .int 1), (0, .ref (ad j)), (1, .int (nI x))] := hl
      refine lv_iload_n hx hb d_F_fits_2 rfl (lv_at hl 0 rfl) ?_
      refine lv_aload_n hx hb d_F_fits_3 rfl (lv_at hl 1 rfl) ?_
      refine zz_get (j := j) (ci := 4) (C := R_F) (T := T_F) (N := 7) hx hb hts in_F hown hK hP hj c0 rfl 1 (by decide) (hts _ mf_F_9) (fun _ h => h) (v := .ref (ad jb)) rfl d_F_fits_4 ?_
      refine zz_alen hx hb hK hP (j := jb) hjb (t0 := 0) (by decide) c1 d_F_fits_7 ?_
      refine lv_icmp_ge (tgt := 41) hx hb d_F_fits_8 rfl (fun h8 => absurd h8 (by decide)) (fun h8 => ?_)
      refine lv_aload_n hx hb d_F_fits_11 rfl (lv_at hl 1 rfl) ?_
      refine zz_get (j := j) (ci := 4) (C := R_F) (T := T_F) (N := 7) hx hb hts in_F hown hK hP hj c0 rfl 1 (by decide) (hts _ mf_F_9) (fun _ h => h) (v := .ref (ad jb)) rfl d_F_fits_12 ?_
      refine lv_iload_n hx hb d_F_fits_15 rfl (lv_at hl 0 rfl) ?_
      refine dd_ald hx hb hK hP (j := jb) hjb c1 (1) rfl (by omega) (by decide) (bf 1) (rfl) d_F_fits_16 ?_
      refine lv_iload_n hx hb d_F_fits_17 rfl (lv_at hl 2 rfl) ?_
      refine lv_sipush (v := 10007) hx hb d_F_fits_18 rfl ?_
      refine zz_cSN (index := 18) (n := 3) (As := [.int (nI (bf 1)), .int (nI x), .int 10007]) (rest := []) ⟨hx, hb, hml, hown, hts⟩ (k_raise l (bf 1) x 10007 (hbf _ (by decide)) (by decide) (by decide) (by omega)) hN mk_F_18 ms_D_raise mi_D mc_D_raise (by decide +kernel) ⟨rfl, rfl⟩ ⟨by decide, by decide⟩ preEq rfl hl.1 rfl (Nat.le_of_ble_eq_true rfl) d_F_fits_21 ⟨Nat.zero_le _, Nat.zero_le _⟩ ?_
      refine lv_aload_n hx hb d_F_fits_24 rfl (lv_at hl 1 rfl) ?_
      refine zz_get (j := j) (ci := 4) (C := R_F) (T := T_F) (N := 7) hx hb hts in_F hown hK hP hj c0 rfl 2 (by decide) (hts _ mf_F_15) (fun _ h => h) (v := .ref (ad je)) rfl d_F_fits_25 ?_
      refine lv_iload_n hx hb d_F_fits_28 rfl (lv_at hl 0 rfl) ?_
      refine dd_ald hx hb hK hP (j := je) hje c2 (1) rfl (by omega) (by decide) (ef 1) (rfl) d_F_fits_29 ?_
      refine lv_icmp_eq (tgt := 35) hx hb d_F_fits_30 rfl (fun h30 => ?_) (fun h30 => ?_)
      · skip
        have e1 : bf 1 ^ x % 10007 = ef 1 := (zn_inj (Nat.lt_trans (Nat.mod_lt _ (by decide)) (by decide)) (Nat.lt_trans (hef _ (by decide)) (by decide))).mp h30
        refine lv_iinc (k := 0) (v := nI (1 + 1)) (lv' := [(2, .int (nI (1 + 1))), (0, .ref (ad j)), (1, .int (nI x))]) hx hb d_F_fits_35 hl rfl (nI_1 _) (by decide) rfl (fun ls hl => ?_)
        refine lv_goto (tgt := 2) hx hb d_F_fits_38 rfl ?_
        have hl : lv_has ls 3 [(2, .int 2), (0, .ref (ad j)), (1, .int (nI x))] := hl
        refine lv_iload_n hx hb d_F_fits_2 rfl (lv_at hl 0 rfl) ?_
        refine lv_aload_n hx hb d_F_fits_3 rfl (lv_at hl 1 rfl) ?_
        refine zz_get (j := j) (ci := 4) (C := R_F) (T := T_F) (N := 7) hx hb hts in_F hown hK hP hj c0 rfl 1 (by decide) (hts _ mf_F_9) (fun _ h => h) (v := .ref (ad jb)) rfl d_F_fits_4 ?_
        refine zz_alen hx hb hK hP (j := jb) hjb (t0 := 0) (by decide) c1 d_F_fits_7 ?_
        refine lv_icmp_ge (tgt := 41) hx hb d_F_fits_8 rfl (fun h8 => ?_) (fun h8 => absurd (by decide) h8)
        refine lv_iconst (v := 1) hx hb d_F_fits_41 rfl ?_
        have hq : fitB bf ef 2 x = true := by unfold fitB; rw [decide_eq_true e0, decide_eq_true e1]; rfl
        refine zz_as (y := zb (fitB bf ef 2 x)) (by rw [hq]; rfl) ?_
        exact W.zret hx hb hr (zb_nar _) (fun t ht hW => ⟨rfl, ht⟩) (fun q h => absurd h List.not_mem_nil) d_F_fits_42
      · skip
        have e1 : ¬ bf 1 ^ x % 10007 = ef 1 := fun q => h30 (congrArg nI q)
        refine lv_iconst (v := 0) hx hb d_F_fits_33 rfl ?_
        have hq : fitB bf ef 2 x = false := by unfold fitB; rw [decide_eq_false e1, Bool.or_false]; simp
        refine zz_as (y := zb (fitB bf ef 2 x)) (by rw [hq]; rfl) ?_
        exact W.zret hx hb hr (zb_nar _) (fun t ht hW => ⟨rfl, ht⟩) (fun q h => absurd h List.not_mem_nil) d_F_fits_34
    · skip
      have e0 : ¬ bf 0 ^ x % 10007 = ef 0 := fun q => h30 (congrArg nI q)
      refine lv_iconst (v := 0) hx hb d_F_fits_33 rfl ?_
      have hq : fitB bf ef 2 x = false := by unfold fitB; rw [decide_eq_false e0, Bool.false_and]
      refine zz_as (y := zb (fitB bf ef 2 x)) (by rw [hq]; rfl) ?_
      exact W.zret hx hb hr (zb_nar _) (fun t ht hW => ⟨rfl, ht⟩) (fun q h => absurd h List.not_mem_nil) d_F_fits_34

theorem d_F_mixInto_0 : decode c_F_mixInto 0 = .ok (.iload_n 1, 1) := by decide +kernel
theorem d_F_mixInto_1 : decode c_F_mixInto 1 = .ok (.istore_n 3, 1) := by decide +kernel
theorem d_F_mixInto_2 : decode c_F_mixInto 2 = .ok (.iconst 0, 1) := by decide +kernel
theorem d_F_mixInto_3 : decode c_F_mixInto 3 = .ok (.istore 4, 2) := by decide +kernel
theorem d_F_mixInto_5 : decode c_F_mixInto 5 = .ok (.iload 4, 2) := by decide +kernel
theorem d_F_mixInto_7 : decode c_F_mixInto 7 = .ok (.aload_n 0, 1) := by decide +kernel
theorem d_F_mixInto_8 : decode c_F_mixInto 8 = .ok (.getfield 9, 3) := by decide +kernel
theorem d_F_mixInto_11 : decode c_F_mixInto 11 = .ok (.arraylength, 1) := by decide +kernel
theorem d_F_mixInto_12 : decode c_F_mixInto 12 = .ok (.if_icmp .ge 51, 3) := by decide +kernel
theorem d_F_mixInto_15 : decode c_F_mixInto 15 = .ok (.bipush 31, 2) := by decide +kernel
theorem d_F_mixInto_17 : decode c_F_mixInto 17 = .ok (.iload_n 3, 1) := by decide +kernel
theorem d_F_mixInto_18 : decode c_F_mixInto 18 = .ok (.imul, 1) := by decide +kernel
theorem d_F_mixInto_19 : decode c_F_mixInto 19 = .ok (.aload_n 0, 1) := by decide +kernel
theorem d_F_mixInto_20 : decode c_F_mixInto 20 = .ok (.getfield 9, 3) := by decide +kernel
theorem d_F_mixInto_23 : decode c_F_mixInto 23 = .ok (.iload 4, 2) := by decide +kernel
theorem d_F_mixInto_25 : decode c_F_mixInto 25 = .ok (.iaload, 1) := by decide +kernel
theorem d_F_mixInto_26 : decode c_F_mixInto 26 = .ok (.iadd, 1) := by decide +kernel
theorem d_F_mixInto_27 : decode c_F_mixInto 27 = .ok (.istore_n 3, 1) := by decide +kernel
theorem d_F_mixInto_28 : decode c_F_mixInto 28 = .ok (.bipush 31, 2) := by decide +kernel
theorem d_F_mixInto_30 : decode c_F_mixInto 30 = .ok (.iload_n 3, 1) := by decide +kernel
theorem d_F_mixInto_31 : decode c_F_mixInto 31 = .ok (.imul, 1) := by decide +kernel
theorem d_F_mixInto_32 : decode c_F_mixInto 32 = .ok (.aload_n 0, 1) := by decide +kernel
theorem d_F_mixInto_33 : decode c_F_mixInto 33 = .ok (.getfield 15, 3) := by decide +kernel
theorem d_F_mixInto_36 : decode c_F_mixInto 36 = .ok (.iload 4, 2) := by decide +kernel
theorem d_F_mixInto_38 : decode c_F_mixInto 38 = .ok (.iaload, 1) := by decide +kernel
theorem d_F_mixInto_39 : decode c_F_mixInto 39 = .ok (.iadd, 1) := by decide +kernel
theorem d_F_mixInto_40 : decode c_F_mixInto 40 = .ok (.istore_n 3, 1) := by decide +kernel
theorem d_F_mixInto_41 : decode c_F_mixInto 41 = .ok (.bipush 31, 2) := by decide +kernel
theorem d_F_mixInto_43 : decode c_F_mixInto 43 = .ok (.iload_n 3, 1) := by decide +kernel
theorem d_F_mixInto_44 : decode c_F_mixInto 44 = .ok (.imul, 1) := by decide +kernel
theorem d_F_mixInto_45 : decode c_F_mixInto 45 = .ok (.aload_n 2, 1) := by decide +kernel
theorem d_F_mixInto_46 : decode c_F_mixInto 46 = .ok (.aload_n 0, 1) := by decide +kernel
theorem d_F_mixInto_47 : decode c_F_mixInto 47 = .ok (.getfield 30, 3) := by decide +kernel
theorem d_F_mixInto_50 : decode c_F_mixInto 50 = .ok (.iload 4, 2) := by decide +kernel
theorem d_F_mixInto_52 : decode c_F_mixInto 52 = .ok (.invokevirtual 33, 3) := by decide +kernel
theorem d_F_mixInto_55 : decode c_F_mixInto 55 = .ok (.iadd, 1) := by decide +kernel
theorem d_F_mixInto_56 : decode c_F_mixInto 56 = .ok (.istore_n 3, 1) := by decide +kernel
theorem d_F_mixInto_57 : decode c_F_mixInto 57 = .ok (.iinc 4 1, 3) := by decide +kernel
theorem d_F_mixInto_60 : decode c_F_mixInto 60 = .ok (.goto (-55), 3) := by decide +kernel
theorem d_F_mixInto_63 : decode c_F_mixInto 63 = .ok (.iload_n 3, 1) := by decide +kernel
theorem d_F_mixInto_64 : decode c_F_mixInto 64 = .ok (.ireturn, 1) := by decide +kernel

set_option maxHeartbeats 4000000 in
set_option maxRecDepth 100000 in
/-- mixInto(h, t) -/
theorem k_mixInto (l : Launch) (D : va_G) (ca : Nat → ClassId) (n : Nat) (ad : Nat → Nat) (ct : Nat → va_E) (j jb je np : Nat) (bf ef : Nat → Nat) (nm tl wt no : Nat) (hj : j < n) (hjb : jb < n) (hje : je < n) (hnp : np = 1 ∨ np = 2) (c0 : ct j = .inr (4, [.int 1, .ref (ad jb), .ref (ad je), .int (nI nm), .int (nI tl), .int (nI wt), .int (nI no)])) (c1 : ct jb = .inl (ca 0, np, .inl (zf bf))) (c2 : ct je = .inl (ca 0, np, .inl (zf ef))) (jt kt : Nat) (f : Nat → Nat) (hjt : jt < n) (hkt : kt < n) (c3 : ct jt = .inr (5, [.ref (ad kt)])) (c4 : ct kt = .inl (ca 0, 32, .inl (zf f))) (hnm : nm < 8) (h : Nat) : Met l y_F_mixInto (Cond.code y_F_mixInto c_F_mixInto 5 (some .int) :: zT) ({ frames := 2, cells := 0, slots := 0, locals := 80 }) (va_Pc [.ref (ad j), .int (nI h), .ref (ad jt)] (dw D ca n ad ct)) (QcRead (nI (mixL bf ef f nm np h))) 0 0 (fun _ => False) := by
  refine Met.ofW (cc := c_F_mixInto) (maxL := 5) (ret := (some .int)) (by decide) rfl ?_
  intro p e s m args below meth c s₁ B hml hv
  obtain ⟨rfl, hN, hK, hP⟩ := hv
  have hx := B.exec
  have hb := B.bytes
  have hr := B.returns
  have hts0 := atoms_spec (ws := Cond.code y_F_mixInto c_F_mixInto 5 (some .int) :: zT) B.pre
  have hts := fun w h => hts0 w (List.mem_cons_of_mem _ h)
  have hown : s.vm.findClass R_F = some m.cls := findClass_of_methodNamed B.named
  have hlocks := B.notSynchronized
  have hl := lv_entry ([.ref (ad j), .int (nI h), .ref (ad jt)]) (n := 5) (Nat.le_of_ble_eq_true rfl)
  rw [lg_entry_eq]
  generalize (lg_sl ([.ref (ad j), .int (nI h), .ref (ad jt)]) ++ List.replicate (5 - (lg_sl ([.ref (ad j), .int (nI h), .ref (ad jt)])).length) Slot.unset).toArray = ls at hl ⊢
  have hl : lv_has ls 5 [(0, .ref (ad j)), (1, .int (nI h)), (2, .ref (ad jt))] := hl
  rcases hnp with rfl | rfl
  · skip
    refine lv_iload_n hx hb d_F_mixInto_0 rfl (lv_at hl 1 rfl) ?_
    refine lv_istore_n (lv' := [(3, .int (nI h)), (0, .ref (ad j)), (1, .int (nI h)), (2, .ref (ad jt))]) hx hb d_F_mixInto_1 rfl hl (by decide) rfl (fun ls hl => ?_)
    refine lv_iconst (v := 0) hx hb d_F_mixInto_2 rfl ?_
    refine lv_istore (lv' := [(4, .int 0), (3, .int (nI h)), (0, .ref (ad j)), (1, .int (nI h)), (2, .ref (ad jt))]) hx hb d_F_mixInto_3 hl (by decide) rfl (fun ls hl => ?_)
    have hl : lv_has ls 5 [(4, .int 0), (3, .int (nI h)), (0, .ref (ad j)), (1, .int (nI h)), (2, .ref (ad jt))] := hl
    refine lv_iload hx hb d_F_mixInto_5 (lv_at hl 0 rfl) ?_
    refine lv_aload_n hx hb d_F_mixInto_7 rfl (lv_at hl 2 rfl) ?_
    refine zz_get (j := j) (ci := 4) (C := R_F) (T := T_F) (N := 7) hx hb hts in_F hown hK hP hj c0 rfl 1 (by decide) (hts _ mf_F_9) (fun _ h => h) (v := .ref (ad jb)) rfl d_F_mixInto_8 ?_
    refine zz_alen hx hb hK hP (j := jb) hjb (t0 := 0) (by decide) c1 d_F_mixInto_11 ?_
    refine lv_icmp_ge (tgt := 63) hx hb d_F_mixInto_12 rfl (fun h12 => absurd h12 (by decide)) (fun h12 => ?_)
    refine lv_bipush (v := 31) hx hb d_F_mixInto_15 rfl ?_
    refine lv_iload_n hx hb d_F_mixInto_17 rfl (lv_at hl 1 rfl) ?_
    refine lv_imul hx hb d_F_mixInto_18 ?_
    refine zz_as (y := nI (31 * h)) (pk_mul 31 h) ?_
    refine lv_aload_n hx hb d_F_mixInto_19 rfl (lv_at hl 2 rfl) ?_
    refine zz_get (j := j) (ci := 4) (C := R_F) (T := T_F) (N := 7) hx hb hts in_F hown hK hP hj c0 rfl 1 (by decide) (hts _ mf_F_9) (fun _ h => h) (v := .ref (ad jb)) rfl d_F_mixInto_20 ?_
    refine lv_iload hx hb d_F_mixInto_23 (lv_at hl 0 rfl) ?_
    refine dd_ald hx hb hK hP (j := jb) hjb c1 (0) rfl (by omega) (by decide) (bf 0) (rfl) d_F_mixInto_25 ?_
    refine lv_iadd hx hb d_F_mixInto_26 ?_
    refine zz_as (y := nI ((31 * h) + (bf 0))) (nI_add (31 * h) (bf 0)) ?_
    refine lv_istore_n (lv' := [(3, .int (nI ((31 * h) + (bf 0)))), (4, .int 0), (0, .ref (ad j)), (1, .int (nI h)), (2, .ref (ad jt))]) hx hb d_F_mixInto_27 rfl hl (by decide) rfl (fun ls hl => ?_)
    refine lv_bipush (v := 31) hx hb d_F_mixInto_28 rfl ?_
    refine lv_iload_n hx hb d_F_mixInto_30 rfl (lv_at hl 0 rfl) ?_
    refine lv_imul hx hb d_F_mixInto_31 ?_
    refine zz_as (y := nI (31 * ((31 * h) + (bf 0)))) (pk_mul 31 ((31 * h) + (bf 0))) ?_
    refine lv_aload_n hx hb d_F_mixInto_32 rfl (lv_at hl 2 rfl) ?_
    refine zz_get (j := j) (ci := 4) (C := R_F) (T := T_F) (N := 7) hx hb hts in_F hown hK hP hj c0 rfl 2 (by decide) (hts _ mf_F_15) (fun _ h => h) (v := .ref (ad je)) rfl d_F_mixInto_33 ?_
    refine lv_iload hx hb d_F_mixInto_36 (lv_at hl 1 rfl) ?_
    refine dd_ald hx hb hK hP (j := je) hje c2 (0) rfl (by omega) (by decide) (ef 0) (rfl) d_F_mixInto_38 ?_
    refine lv_iadd hx hb d_F_mixInto_39 ?_
    refine zz_as (y := nI ((31 * ((31 * h) + (bf 0))) + (ef 0))) (nI_add (31 * ((31 * h) + (bf 0))) (ef 0)) ?_
    refine lv_istore_n (lv' := [(3, .int (nI ((31 * ((31 * h) + (bf 0))) + (ef 0)))), (4, .int 0), (0, .ref (ad j)), (1, .int (nI h)), (2, .ref (ad jt))]) hx hb d_F_mixInto_40 rfl hl (by decide) rfl (fun ls hl => ?_)
    refine lv_bipush (v := 31) hx hb d_F_mixInto_41 rfl ?_
    refine lv_iload_n hx hb d_F_mixInto_43 rfl (lv_at hl 0 rfl) ?_
    refine lv_imul hx hb d_F_mixInto_44 ?_
    refine zz_as (y := nI (31 * ((31 * ((31 * h) + (bf 0))) + (ef 0)))) (pk_mul 31 ((31 * ((31 * h) + (bf 0))) + (ef 0))) ?_
    refine lv_aload_n hx hb d_F_mixInto_45 rfl (lv_at hl 4 rfl) ?_
    refine lv_aload_n hx hb d_F_mixInto_46 rfl (lv_at hl 2 rfl) ?_
    refine zz_get (j := j) (ci := 4) (C := R_F) (T := T_F) (N := 7) hx hb hts in_F hown hK hP hj c0 rfl 3 (by decide) (hts _ mf_F_30) (fun _ h => h) (v := .int (nI nm)) rfl d_F_mixInto_47 ?_
    refine lv_iload hx hb d_F_mixInto_50 (lv_at hl 1 rfl) ?_
    refine zz_cV (index := 33) (n := 2) (As := [.int (nI nm), .int 0]) (rest := [.int (nI (31 * ((31 * ((31 * h) + (bf 0))) + (ef 0))))]) ⟨hx, hb, hml, hown, hts⟩ (k_get l D ca n ad ct jt kt f hjt hkt c3 c4 nm 0 (by omega)) mk_F_33 mo_T_get me_T_T_get_T mi_T mc_T_get (by decide +kernel) ⟨rfl, rfl⟩ ⟨by decide, by decide⟩ (dd_pre hN hK hP (j := jt) hjt c3 (r := (R_T, T_T, 1)) rfl) rfl hl.1 rfl (Nat.le_of_ble_eq_true rfl) d_F_mixInto_52 ⟨Nat.zero_le _, Nat.zero_le _⟩ ?_
    refine lv_iadd hx hb d_F_mixInto_55 ?_
    refine zz_as (y := nI ((31 * ((31 * ((31 * h) + (bf 0))) + (ef 0))) + (f (nm * 4 + 0)))) (nI_add (31 * ((31 * ((31 * h) + (bf 0))) + (ef 0))) (f (nm * 4 + 0))) ?_
    refine lv_istore_n (lv' := [(3, .int (nI ((31 * ((31 * ((31 * h) + (bf 0))) + (ef 0))) + (f (nm * 4 + 0))))), (4, .int 0), (0, .ref (ad j)), (1, .int (nI h)), (2, .ref (ad jt))]) hx hb d_F_mixInto_56 rfl hl (by decide) rfl (fun ls hl => ?_)
    refine lv_iinc (k := 1) (v := nI (0 + 1)) (lv' := [(4, .int (nI (0 + 1))), (3, .int (nI ((31 * ((31 * ((31 * h) + (bf 0))) + (ef 0))) + (f (nm * 4 + 0))))), (0, .ref (ad j)), (1, .int (nI h)), (2, .ref (ad jt))]) hx hb d_F_mixInto_57 hl rfl (nI_1 _) (by decide) rfl (fun ls hl => ?_)
    refine lv_goto (tgt := 5) hx hb d_F_mixInto_60 rfl ?_
    have hl : lv_has ls 5 [(4, .int 1), (3, .int (nI ((31 * ((31 * ((31 * h) + (bf 0))) + (ef 0))) + (f (nm * 4 + 0))))), (0, .ref (ad j)), (1, .int (nI h)), (2, .ref (ad jt))] := hl
    refine lv_iload hx hb d_F_mixInto_5 (lv_at hl 0 rfl) ?_
    refine lv_aload_n hx hb d_F_mixInto_7 rfl (lv_at hl 2 rfl) ?_
    refine zz_get (j := j) (ci := 4) (C := R_F) (T := T_F) (N := 7) hx hb hts in_F hown hK hP hj c0 rfl 1 (by decide) (hts _ mf_F_9) (fun _ h => h) (v := .ref (ad jb)) rfl d_F_mixInto_8 ?_
    refine zz_alen hx hb hK hP (j := jb) hjb (t0 := 0) (by decide) c1 d_F_mixInto_11 ?_
    refine lv_icmp_ge (tgt := 63) hx hb d_F_mixInto_12 rfl (fun h12 => ?_) (fun h12 => absurd (by decide) h12)
    refine lv_iload_n hx hb d_F_mixInto_63 rfl (lv_at hl 1 rfl) ?_
    refine zz_as (y := nI (mixL bf ef f nm 1 h)) (by unfold mixL; rfl) ?_
    exact W.iret hx hb hr (fun t ht hW => ⟨rfl, ht⟩) (fun q h => absurd h List.not_mem_nil) d_F_mixInto_64
  · skip
    refine lv_iload_n hx hb d_F_mixInto_0 rfl (lv_at hl 1 rfl) ?_
    refine lv_istore_n (lv' := [(3, .int (nI h)), (0, .ref (ad j)), (1, .int (nI h)), (2, .ref (ad jt))]) hx hb d_F_mixInto_1 rfl hl (by decide) rfl (fun ls hl => ?_)
    refine lv_iconst (v := 0) hx hb d_F_mixInto_2 rfl ?_
    refine lv_istore (lv' := [(4, .int 0), (3, .int (nI h)), (0, .ref (ad j)), (1, .int (nI h)), (2, .ref (ad jt))]) hx hb d_F_mixInto_3 hl (by decide) rfl (fun ls hl => ?_)
    have hl : lv_has ls 5 [(4, .int 0), (3, .int (nI h)), (0, .ref (ad j)), (1, .int (nI h)), (2, .ref (ad jt))] := hl
    refine lv_iload hx hb d_F_mixInto_5 (lv_at hl 0 rfl) ?_
    refine lv_aload_n hx hb d_F_mixInto_7 rfl (lv_at hl 2 rfl) ?_
    refine zz_get (j := j) (ci := 4) (C := R_F) (T := T_F) (N := 7) hx hb hts in_F hown hK hP hj c0 rfl 1 (by decide) (hts _ mf_F_9) (fun _ h => h) (v := .ref (ad jb)) rfl d_F_mixInto_8 ?_
    refine zz_alen hx hb hK hP (j := jb) hjb (t0 := 0) (by decide) c1 d_F_mixInto_11 ?_
    refine lv_icmp_ge (tgt := 63) hx hb d_F_mixInto_12 rfl (fun h12 => absurd h12 (by decide)) (fun h12 => ?_)
    refine lv_bipush (v := 31) hx hb d_F_mixInto_15 rfl ?_
    refine lv_iload_n hx hb d_F_mixInto_17 rfl (lv_at hl 1 rfl) ?_
    refine lv_imul hx hb d_F_mixInto_18 ?_
    refine zz_as (y := nI (31 * h)) (pk_mul 31 h) ?_
    refine lv_aload_n hx hb d_F_mixInto_19 rfl (lv_at hl 2 rfl) ?_
    refine zz_get (j := j) (ci := 4) (C := R_F) (T := T_F) (N := 7) hx hb hts in_F hown hK hP hj c0 rfl 1 (by decide) (hts _ mf_F_9) (fun _ h => h) (v := .ref (ad jb)) rfl d_F_mixInto_20 ?_
    refine lv_iload hx hb d_F_mixInto_23 (lv_at hl 0 rfl) ?_
    refine dd_ald hx hb hK hP (j := jb) hjb c1 (0) rfl (by omega) (by decide) (bf 0) (rfl) d_F_mixInto_25 ?_
    refine lv_iadd hx hb d_F_mixInto_26 ?_
    refine zz_as (y := nI ((31 * h) + (bf 0))) (nI_add (31 * h) (bf 0)) ?_
    refine lv_istore_n (lv' := [(3, .int (nI ((31 * h) + (bf 0)))), (4, .int 0), (0, .ref (ad j)), (1, .int (nI h)), (2, .ref (ad jt))]) hx hb d_F_mixInto_27 rfl hl (by decide) rfl (fun ls hl => ?_)
    refine lv_bipush (v := 31) hx hb d_F_mixInto_28 rfl ?_
    refine lv_iload_n hx hb d_F_mixInto_30 rfl (lv_at hl 0 rfl) ?_
    refine lv_imul hx hb d_F_mixInto_31 ?_
    refine zz_as (y := nI (31 * ((31 * h) + (bf 0)))) (pk_mul 31 ((31 * h) + (bf 0))) ?_
    refine lv_aload_n hx hb d_F_mixInto_32 rfl (lv_at hl 2 rfl) ?_
    refine zz_get (j := j) (ci := 4) (C := R_F) (T := T_F) (N := 7) hx hb hts in_F hown hK hP hj c0 rfl 2 (by decide) (hts _ mf_F_15) (fun _ h => h) (v := .ref (ad je)) rfl d_F_mixInto_33 ?_
    refine lv_iload hx hb d_F_mixInto_36 (lv_at hl 1 rfl) ?_
    refine dd_ald hx hb hK hP (j := je) hje c2 (0) rfl (by omega) (by decide) (ef 0) (rfl) d_F_mixInto_38 ?_
    refine lv_iadd hx hb d_F_mixInto_39 ?_
    refine zz_as (y := nI ((31 * ((31 * h) + (bf 0))) + (ef 0))) (nI_add (31 * ((31 * h) + (bf 0))) (ef 0)) ?_
    refine lv_istore_n (lv' := [(3, .int (nI ((31 * ((31 * h) + (bf 0))) + (ef 0)))), (4, .int 0), (0, .ref (ad j)), (1, .int (nI h)), (2, .ref (ad jt))]) hx hb d_F_mixInto_40 rfl hl (by decide) rfl (fun ls hl => ?_)
    refine lv_bipush (v := 31) hx hb d_F_mixInto_41 rfl ?_
    refine lv_iload_n hx hb d_F_mixInto_43 rfl (lv_at hl 0 rfl) ?_
    refine lv_imul hx hb d_F_mixInto_44 ?_
    refine zz_as (y := nI (31 * ((31 * ((31 * h) + (bf 0))) + (ef 0)))) (pk_mul 31 ((31 * ((31 * h) + (bf 0))) + (ef 0))) ?_
    refine lv_aload_n hx hb d_F_mixInto_45 rfl (lv_at hl 4 rfl) ?_
    refine lv_aload_n hx hb d_F_mixInto_46 rfl (lv_at hl 2 rfl) ?_
    refine zz_get (j := j) (ci := 4) (C := R_F) (T := T_F) (N := 7) hx hb hts in_F hown hK hP hj c0 rfl 3 (by decide) (hts _ mf_F_30) (fun _ h => h) (v := .int (nI nm)) rfl d_F_mixInto_47 ?_
    refine lv_iload hx hb d_F_mixInto_50 (lv_at hl 1 rfl) ?_
    refine zz_cV (index := 33) (n := 2) (As := [.int (nI nm), .int 0]) (rest := [.int (nI (31 * ((31 * ((31 * h) + (bf 0))) + (ef 0))))]) ⟨hx, hb, hml, hown, hts⟩ (k_get l D ca n ad ct jt kt f hjt hkt c3 c4 nm 0 (by omega)) mk_F_33 mo_T_get me_T_T_get_T mi_T mc_T_get (by decide +kernel) ⟨rfl, rfl⟩ ⟨by decide, by decide⟩ (dd_pre hN hK hP (j := jt) hjt c3 (r := (R_T, T_T, 1)) rfl) rfl hl.1 rfl (Nat.le_of_ble_eq_true rfl) d_F_mixInto_52 ⟨Nat.zero_le _, Nat.zero_le _⟩ ?_
    refine lv_iadd hx hb d_F_mixInto_55 ?_
    refine zz_as (y := nI ((31 * ((31 * ((31 * h) + (bf 0))) + (ef 0))) + (f (nm * 4 + 0)))) (nI_add (31 * ((31 * ((31 * h) + (bf 0))) + (ef 0))) (f (nm * 4 + 0))) ?_
    refine lv_istore_n (lv' := [(3, .int (nI ((31 * ((31 * ((31 * h) + (bf 0))) + (ef 0))) + (f (nm * 4 + 0))))), (4, .int 0), (0, .ref (ad j)), (1, .int (nI h)), (2, .ref (ad jt))]) hx hb d_F_mixInto_56 rfl hl (by decide) rfl (fun ls hl => ?_)
    refine lv_iinc (k := 1) (v := nI (0 + 1)) (lv' := [(4, .int (nI (0 + 1))), (3, .int (nI ((31 * ((31 * ((31 * h) + (bf 0))) + (ef 0))) + (f (nm * 4 + 0))))), (0, .ref (ad j)), (1, .int (nI h)), (2, .ref (ad jt))]) hx hb d_F_mixInto_57 hl rfl (nI_1 _) (by decide) rfl (fun ls hl => ?_)
    refine lv_goto (tgt := 5) hx hb d_F_mixInto_60 rfl ?_
    have hl : lv_has ls 5 [(4, .int 1), (3, .int (nI ((31 * ((31 * ((31 * h) + (bf 0))) + (ef 0))) + (f (nm * 4 + 0))))), (0, .ref (ad j)), (1, .int (nI h)), (2, .ref (ad jt))] := hl
    refine lv_iload hx hb d_F_mixInto_5 (lv_at hl 0 rfl) ?_
    refine lv_aload_n hx hb d_F_mixInto_7 rfl (lv_at hl 2 rfl) ?_
    refine zz_get (j := j) (ci := 4) (C := R_F) (T := T_F) (N := 7) hx hb hts in_F hown hK hP hj c0 rfl 1 (by decide) (hts _ mf_F_9) (fun _ h => h) (v := .ref (ad jb)) rfl d_F_mixInto_8 ?_
    refine zz_alen hx hb hK hP (j := jb) hjb (t0 := 0) (by decide) c1 d_F_mixInto_11 ?_
    refine lv_icmp_ge (tgt := 63) hx hb d_F_mixInto_12 rfl (fun h12 => absurd h12 (by decide)) (fun h12 => ?_)
    refine lv_bipush (v := 31) hx hb d_F_mixInto_15 rfl ?_
    refine lv_iload_n hx hb d_F_mixInto_17 rfl (lv_at hl 1 rfl) ?_
    refine lv_imul hx hb d_F_mixInto_18 ?_
    refine zz_as (y := nI (31 * ((31 * ((31 * ((31 * h) + (bf 0))) + (ef 0))) + (f (nm * 4 + 0))))) (pk_mul 31 ((31 * ((31 * ((31 * h) + (bf 0))) + (ef 0))) + (f (nm * 4 + 0)))) ?_
    refine lv_aload_n hx hb d_F_mixInto_19 rfl (lv_at hl 2 rfl) ?_
    refine zz_get (j := j) (ci := 4) (C := R_F) (T := T_F) (N := 7) hx hb hts in_F hown hK hP hj c0 rfl 1 (by decide) (hts _ mf_F_9) (fun _ h => h) (v := .ref (ad jb)) rfl d_F_mixInto_20 ?_
    refine lv_iload hx hb d_F_mixInto_23 (lv_at hl 0 rfl) ?_
    refine dd_ald hx hb hK hP (j := jb) hjb c1 (1) rfl (by omega) (by decide) (bf 1) (rfl) d_F_mixInto_25 ?_
    refine lv_iadd hx hb d_F_mixInto_26 ?_
    refine zz_as (y := nI ((31 * ((31 * ((31 * ((31 * h) + (bf 0))) + (ef 0))) + (f (nm * 4 + 0)))) + (bf 1))) (nI_add (31 * ((31 * ((31 * ((31 * h) + (bf 0))) + (ef 0))) + (f (nm * 4 + 0)))) (bf 1)) ?_
    refine lv_istore_n (lv' := [(3, .int (nI ((31 * ((31 * ((31 * ((31 * h) + (bf 0))) + (ef 0))) + (f (nm * 4 + 0)))) + (bf 1)))), (4, .int 1), (0, .ref (ad j)), (1, .int (nI h)), (2, .ref (ad jt))]) hx hb d_F_mixInto_27 rfl hl (by decide) rfl (fun ls hl => ?_)
    refine lv_bipush (v := 31) hx hb d_F_mixInto_28 rfl ?_
    refine lv_iload_n hx hb d_F_mixInto_30 rfl (lv_at hl 0 rfl) ?_
    refine lv_imul hx hb d_F_mixInto_31 ?_
    refine zz_as (y := nI (31 * ((31 * ((31 * ((31 * ((31 * h) + (bf 0))) + (ef 0))) + (f (nm * 4 + 0)))) + (bf 1)))) (pk_mul 31 ((31 * ((31 * ((31 * ((31 * h) + (bf 0))) + (ef 0))) + (f (nm * 4 + 0)))) + (bf 1))) ?_
    refine lv_aload_n hx hb d_F_mixInto_32 rfl (lv_at hl 2 rfl) ?_
    refine zz_get (j := j) (ci := 4) (C := R_F) (T := T_F) (N := 7) hx hb hts in_F hown hK hP hj c0 rfl 2 (by decide) (hts _ mf_F_15) (fun _ h => h) (v := .ref (ad je)) rfl d_F_mixInto_33 ?_
    refine lv_iload hx hb d_F_mixInto_36 (lv_at hl 1 rfl) ?_
    refine dd_ald hx hb hK hP (j := je) hje c2 (1) rfl (by omega) (by decide) (ef 1) (rfl) d_F_mixInto_38 ?_
    refine lv_iadd hx hb d_F_mixInto_39 ?_
    refine zz_as (y := nI ((31 * ((31 * ((31 * ((31 * ((31 * h) + (bf 0))) + (ef 0))) + (f (nm * 4 + 0)))) + (bf 1))) + (ef 1))) (nI_add (31 * ((31 * ((31 * ((31 * ((31 * h) + (bf 0))) + (ef 0))) + (f (nm * 4 + 0)))) + (bf 1))) (ef 1)) ?_
    refine lv_istore_n (lv' := [(3, .int (nI ((31 * ((31 * ((31 * ((31 * ((31 * h) + (bf 0))) + (ef 0))) + (f (nm * 4 + 0)))) + (bf 1))) + (ef 1)))), (4, .int 1), (0, .ref (ad j)), (1, .int (nI h)), (2, .ref (ad jt))]) hx hb d_F_mixInto_40 rfl hl (by decide) rfl (fun ls hl => ?_)
    refine lv_bipush (v := 31) hx hb d_F_mixInto_41 rfl ?_
    refine lv_iload_n hx hb d_F_mixInto_43 rfl (lv_at hl 0 rfl) ?_
    refine lv_imul hx hb d_F_mixInto_44 ?_
    refine zz_as (y := nI (31 * ((31 * ((31 * ((31 * ((31 * ((31 * h) + (bf 0))) + (ef 0))) + (f (nm * 4 + 0)))) + (bf 1))) + (ef 1)))) (pk_mul 31 ((31 * ((31 * ((31 * ((31 * ((31 * h) + (bf 0))) + (ef 0))) + (f (nm * 4 + 0)))) + (bf 1))) + (ef 1))) ?_
    refine lv_aload_n hx hb d_F_mixInto_45 rfl (lv_at hl 4 rfl) ?_
    refine lv_aload_n hx hb d_F_mixInto_46 rfl (lv_at hl 2 rfl) ?_
    refine zz_get (j := j) (ci := 4) (C := R_F) (T := T_F) (N := 7) hx hb hts in_F hown hK hP hj c0 rfl 3 (by decide) (hts _ mf_F_30) (fun _ h => h) (v := .int (nI nm)) rfl d_F_mixInto_47 ?_
    refine lv_iload hx hb d_F_mixInto_50 (lv_at hl 1 rfl) ?_
    refine zz_cV (index := 33) (n := 2) (As := [.int (nI nm), .int 1]) (rest := [.int (nI (31 * ((31 * ((31 * ((31 * ((31 * ((31 * h) + (bf 0))) + (ef 0))) + (f (nm * 4 + 0)))) + (bf 1))) + (ef 1))))]) ⟨hx, hb, hml, hown, hts⟩ (k_get l D ca n ad ct jt kt f hjt hkt c3 c4 nm 1 (by omega)) mk_F_33 mo_T_get me_T_T_get_T mi_T mc_T_get (by decide +kernel) ⟨rfl, rfl⟩ ⟨by decide, by decide⟩ (dd_pre hN hK hP (j := jt) hjt c3 (r := (R_T, T_T, 1)) rfl) rfl hl.1 rfl (Nat.le_of_ble_eq_true rfl) d_F_mixInto_52 ⟨Nat.zero_le _, Nat.zero_le _⟩ ?_
    refine lv_iadd hx hb d_F_mixInto_55 ?_
    refine zz_as (y := nI ((31 * ((31 * ((31 * ((31 * ((31 * ((31 * h) + (bf 0))) + (ef 0))) + (f (nm * 4 + 0)))) + (bf 1))) + (ef 1))) + (f (nm * 4 + 1)))) (nI_add (31 * ((31 * ((31 * ((31 * ((31 * ((31 * h) + (bf 0))) + (ef 0))) + (f (nm * 4 + 0)))) + (bf 1))) + (ef 1))) (f (nm * 4 + 1))) ?_
    refine lv_istore_n (lv' := [(3, .int (nI ((31 * ((31 * ((31 * ((31 * ((31 * ((31 * h) + (bf 0))) + (ef 0))) + (f (nm * 4 + 0)))) + (bf 1))) + (ef 1))) + (f (nm * 4 + 1))))), (4, .int 1), (0, .ref (ad j)), (1, .int (nI h)), (2, .ref (ad jt))]) hx hb d_F_mixInto_56 rfl hl (by decide) rfl (fun ls hl => ?_)
    refine lv_iinc (k := 1) (v := nI (1 + 1)) (lv' := [(4, .int (nI (1 + 1))), (3, .int (nI ((31 * ((31 * ((31 * ((31 * ((31 * ((31 * h) + (bf 0))) + (ef 0))) + (f (nm * 4 + 0)))) + (bf 1))) + (ef 1))) + (f (nm * 4 + 1))))), (0, .ref (ad j)), (1, .int (nI h)), (2, .ref (ad jt))]) hx hb d_F_mixInto_57 hl rfl (nI_1 _) (by decide) rfl (fun ls hl => ?_)
    refine lv_goto (tgt := 5) hx hb d_F_mixInto_60 rfl ?_
    have hl : lv_has ls 5 [(4, .int 2), (3, .int (nI ((31 * ((31 * ((31 * ((31 * ((31 * ((31 * h) + (bf 0))) + (ef 0))) + (f (nm * 4 + 0)))) + (bf 1))) + (ef 1))) + (f (nm * 4 + 1))))), (0, .ref (ad j)), (1, .int (nI h)), (2, .ref (ad jt))] := hl
    refine lv_iload hx hb d_F_mixInto_5 (lv_at hl 0 rfl) ?_
    refine lv_aload_n hx hb d_F_mixInto_7 rfl (lv_at hl 2 rfl) ?_
    refine zz_get (j := j) (ci := 4) (C := R_F) (T := T_F) (N := 7) hx hb hts in_F hown hK hP hj c0 rfl 1 (by decide) (hts _ mf_F_9) (fun _ h => h) (v := .ref (ad jb)) rfl d_F_mixInto_8 ?_
    refine zz_alen hx hb hK hP (j := jb) hjb (t0 := 0) (by decide) c1 d_F_mixInto_11 ?_
    refine lv_icmp_ge (tgt := 63) hx hb d_F_mixInto_12 rfl (fun h12 => ?_) (fun h12 => absurd (by decide) h12)
    refine lv_iload_n hx hb d_F_mixInto_63 rfl (lv_at hl 1 rfl) ?_
    refine zz_as (y := nI (mixL bf ef f nm 2 h)) (by unfold mixL; rfl) ?_
    exact W.iret hx hb hr (fun t ht hW => ⟨rfl, ht⟩) (fun q h => absurd h List.not_mem_nil) d_F_mixInto_64

theorem d_F_holdsIn_0 : decode c_F_holdsIn 0 = .ok (.aload_n 1, 1) := by decide +kernel
theorem d_F_holdsIn_1 : decode c_F_holdsIn 1 = .ok (.aload_n 0, 1) := by decide +kernel
theorem d_F_holdsIn_2 : decode c_F_holdsIn 2 = .ok (.getfield 30, 3) := by decide +kernel
theorem d_F_holdsIn_5 : decode c_F_holdsIn 5 = .ok (.iconst 2, 1) := by decide +kernel
theorem d_F_holdsIn_6 : decode c_F_holdsIn 6 = .ok (.invokevirtual 33, 3) := by decide +kernel
theorem d_F_holdsIn_9 : decode c_F_holdsIn 9 = .ok (.istore_n 2, 1) := by decide +kernel
theorem d_F_holdsIn_10 : decode c_F_holdsIn 10 = .ok (.aload_n 1, 1) := by decide +kernel
theorem d_F_holdsIn_11 : decode c_F_holdsIn 11 = .ok (.aload_n 0, 1) := by decide +kernel
theorem d_F_holdsIn_12 : decode c_F_holdsIn 12 = .ok (.getfield 30, 3) := by decide +kernel
theorem d_F_holdsIn_15 : decode c_F_holdsIn 15 = .ok (.iconst 3, 1) := by decide +kernel
theorem d_F_holdsIn_16 : decode c_F_holdsIn 16 = .ok (.invokevirtual 33, 3) := by decide +kernel
theorem d_F_holdsIn_19 : decode c_F_holdsIn 19 = .ok (.istore_n 3, 1) := by decide +kernel
theorem d_F_holdsIn_20 : decode c_F_holdsIn 20 = .ok (.iconst 0, 1) := by decide +kernel
theorem d_F_holdsIn_21 : decode c_F_holdsIn 21 = .ok (.istore 4, 2) := by decide +kernel
theorem d_F_holdsIn_23 : decode c_F_holdsIn 23 = .ok (.iload 4, 2) := by decide +kernel
theorem d_F_holdsIn_25 : decode c_F_holdsIn 25 = .ok (.aload_n 0, 1) := by decide +kernel
theorem d_F_holdsIn_26 : decode c_F_holdsIn 26 = .ok (.getfield 9, 3) := by decide +kernel
theorem d_F_holdsIn_29 : decode c_F_holdsIn 29 = .ok (.arraylength, 1) := by decide +kernel
theorem d_F_holdsIn_30 : decode c_F_holdsIn 30 = .ok (.if_icmp .ge 61, 3) := by decide +kernel
theorem d_F_holdsIn_33 : decode c_F_holdsIn 33 = .ok (.aload_n 1, 1) := by decide +kernel
theorem d_F_holdsIn_34 : decode c_F_holdsIn 34 = .ok (.aload_n 0, 1) := by decide +kernel
theorem d_F_holdsIn_35 : decode c_F_holdsIn 35 = .ok (.getfield 30, 3) := by decide +kernel
theorem d_F_holdsIn_38 : decode c_F_holdsIn 38 = .ok (.iload 4, 2) := by decide +kernel
theorem d_F_holdsIn_40 : decode c_F_holdsIn 40 = .ok (.invokevirtual 33, 3) := by decide +kernel
theorem d_F_holdsIn_43 : decode c_F_holdsIn 43 = .ok (.aload_n 0, 1) := by decide +kernel
theorem d_F_holdsIn_44 : decode c_F_holdsIn 44 = .ok (.getfield 15, 3) := by decide +kernel
theorem d_F_holdsIn_47 : decode c_F_holdsIn 47 = .ok (.iload 4, 2) := by decide +kernel
theorem d_F_holdsIn_49 : decode c_F_holdsIn 49 = .ok (.iaload, 1) := by decide +kernel
theorem d_F_holdsIn_50 : decode c_F_holdsIn 50 = .ok (.iload_n 2, 1) := by decide +kernel
theorem d_F_holdsIn_51 : decode c_F_holdsIn 51 = .ok (.sipush 10007, 3) := by decide +kernel
theorem d_F_holdsIn_54 : decode c_F_holdsIn 54 = .ok (.invokestatic 18, 3) := by decide +kernel
theorem d_F_holdsIn_57 : decode c_F_holdsIn 57 = .ok (.imul, 1) := by decide +kernel
theorem d_F_holdsIn_58 : decode c_F_holdsIn 58 = .ok (.sipush 10007, 3) := by decide +kernel
theorem d_F_holdsIn_61 : decode c_F_holdsIn 61 = .ok (.irem, 1) := by decide +kernel
theorem d_F_holdsIn_62 : decode c_F_holdsIn 62 = .ok (.istore 5, 2) := by decide +kernel
theorem d_F_holdsIn_64 : decode c_F_holdsIn 64 = .ok (.aload_n 0, 1) := by decide +kernel
theorem d_F_holdsIn_65 : decode c_F_holdsIn 65 = .ok (.getfield 9, 3) := by decide +kernel
theorem d_F_holdsIn_68 : decode c_F_holdsIn 68 = .ok (.iload 4, 2) := by decide +kernel
theorem d_F_holdsIn_70 : decode c_F_holdsIn 70 = .ok (.iaload, 1) := by decide +kernel
theorem d_F_holdsIn_71 : decode c_F_holdsIn 71 = .ok (.iload_n 3, 1) := by decide +kernel
theorem d_F_holdsIn_72 : decode c_F_holdsIn 72 = .ok (.sipush 10007, 3) := by decide +kernel
theorem d_F_holdsIn_75 : decode c_F_holdsIn 75 = .ok (.invokestatic 18, 3) := by decide +kernel
theorem d_F_holdsIn_78 : decode c_F_holdsIn 78 = .ok (.iload 5, 2) := by decide +kernel
theorem d_F_holdsIn_80 : decode c_F_holdsIn 80 = .ok (.if_icmp .eq 5, 3) := by decide +kernel
theorem d_F_holdsIn_83 : decode c_F_holdsIn 83 = .ok (.iconst 0, 1) := by decide +kernel
theorem d_F_holdsIn_84 : decode c_F_holdsIn 84 = .ok (.ireturn, 1) := by decide +kernel
theorem d_F_holdsIn_85 : decode c_F_holdsIn 85 = .ok (.iinc 4 1, 3) := by decide +kernel
theorem d_F_holdsIn_88 : decode c_F_holdsIn 88 = .ok (.goto (-65), 3) := by decide +kernel
theorem d_F_holdsIn_91 : decode c_F_holdsIn 91 = .ok (.iconst 1, 1) := by decide +kernel
theorem d_F_holdsIn_92 : decode c_F_holdsIn 92 = .ok (.ireturn, 1) := by decide +kernel

set_option maxHeartbeats 4000000 in
set_option maxRecDepth 100000 in
/-- holdsIn(t) -/
theorem k_holdsIn (l : Launch) (D : va_G) (ca : Nat → ClassId) (n : Nat) (ad : Nat → Nat) (ct : Nat → va_E) (j jb je np : Nat) (bf ef : Nat → Nat) (nm tl wt no : Nat) (hj : j < n) (hjb : jb < n) (hje : je < n) (hnp : np = 1 ∨ np = 2) (c0 : ct j = .inr (4, [.int 1, .ref (ad jb), .ref (ad je), .int (nI nm), .int (nI tl), .int (nI wt), .int (nI no)])) (c1 : ct jb = .inl (ca 0, np, .inl (zf bf))) (c2 : ct je = .inl (ca 0, np, .inl (zf ef))) (hbf : ∀ i, i < np → bf i < 10007) (hef : ∀ i, i < np → ef i < 10007) (jt kt : Nat) (f : Nat → Nat) (hjt : jt < n) (hkt : kt < n) (c3 : ct jt = .inr (5, [.ref (ad kt)])) (c4 : ct kt = .inl (ca 0, 32, .inl (zf f))) (hnm : nm < 8) (hft : ∀ q, q < 32 → f q < 10007 ∧ (q % 4 = 2 ∨ q % 4 = 3 → f q < 5003)) : Met l y_F_holdsIn (Cond.code y_F_holdsIn c_F_holdsIn 6 (some .boolean) :: zT) ({ frames := 2, cells := 0, slots := 0, locals := 80 }) (va_Pc [.ref (ad j), .ref (ad jt)] (dw D ca n ad ct)) (QcRead (zb (holdB bf ef f nm np))) 0 0 (fun _ => False) := by
  refine Met.ofW (cc := c_F_holdsIn) (maxL := 6) (ret := (some .boolean)) (by decide) rfl ?_
  intro p e s m args below meth c s₁ B hml hv
  obtain ⟨rfl, hN, hK, hP⟩ := hv
  have hx := B.exec
  have hb := B.bytes
  have hr := B.returns
  have hts0 := atoms_spec (ws := Cond.code y_F_holdsIn c_F_holdsIn 6 (some .boolean) :: zT) B.pre
  have hts := fun w h => hts0 w (List.mem_cons_of_mem _ h)
  have hown : s.vm.findClass R_F = some m.cls := findClass_of_methodNamed B.named
  have hlocks := B.notSynchronized
  have hl := lv_entry ([.ref (ad j), .ref (ad jt)]) (n := 6) (Nat.le_of_ble_eq_true rfl)
  rw [lg_entry_eq]
  generalize (lg_sl ([.ref (ad j), .ref (ad jt)]) ++ List.replicate (6 - (lg_sl ([.ref (ad j), .ref (ad jt)])).length) Slot.unset).toArray = ls at hl ⊢
  have hl : lv_has ls 6 [(0, .ref (ad j)), (1, .ref (ad jt))] := hl
  rcases hnp with rfl | rfl
  · skip
    have hc2 : f (nm * 4 + 2) < 5003 := (hft _ (by omega)).2 (Or.inl (by omega))
    have hc3 : f (nm * 4 + 3) < 5003 := (hft _ (by omega)).2 (Or.inr (by omega))
    have hm0 : f (nm * 4 + 0) < 10007 := (hft _ (by omega)).1
    have hm1 : f (nm * 4 + 1) < 10007 := (hft _ (by omega)).1
    refine lv_aload_n hx hb d_F_holdsIn_0 rfl (lv_at hl 1 rfl) ?_
    refine lv_aload_n hx hb d_F_holdsIn_1 rfl (lv_at hl 0 rfl) ?_
    refine zz_get (j := j) (ci := 4) (C := R_F) (T := T_F) (N := 7) hx hb hts in_F hown hK hP hj c0 rfl 3 (by decide) (hts _ mf_F_30) (fun _ h => h) (v := .int (nI nm)) rfl d_F_holdsIn_2 ?_
    refine lv_iconst (v := 2) hx hb d_F_holdsIn_5 rfl ?_
    refine zz_cV (index := 33) (n := 2) (As := [.int (nI nm), .int 2]) (rest := []) ⟨hx, hb, hml, hown, hts⟩ (k_get l D ca n ad ct jt kt f hjt hkt c3 c4 nm 2 (by omega)) mk_F_33 mo_T_get me_T_T_get_T mi_T mc_T_get (by decide +kernel) ⟨rfl, rfl⟩ ⟨by decide, by decide⟩ (dd_pre hN hK hP (j := jt) hjt c3 (r := (R_T, T_T, 1)) rfl) rfl hl.1 rfl (Nat.le_of_ble_eq_true rfl) d_F_holdsIn_6 ⟨Nat.zero_le _, Nat.zero_le _⟩ ?_
    refine lv_istore_n (lv' := [(2, .int (nI (f (nm * 4 + 2)))), (0, .ref (ad j)), (1, .ref (ad jt))]) hx hb d_F_holdsIn_9 rfl hl (by decide) rfl (fun ls hl => ?_)
    refine lv_aload_n hx hb d_F_holdsIn_10 rfl (lv_at hl 2 rfl) ?_
    refine lv_aload_n hx hb d_F_holdsIn_11 rfl (lv_at hl 1 rfl) ?_
    refine zz_get (j := j) (ci := 4) (C := R_F) (T := T_F) (N := 7) hx hb hts in_F hown hK hP hj c0 rfl 3 (by decide) (hts _ mf_F_30) (fun _ h => h) (v := .int (nI nm)) rfl d_F_holdsIn_12 ?_
    refine lv_iconst (v := 3) hx hb d_F_holdsIn_15 rfl ?_
    refine zz_cV (index := 33) (n := 2) (As := [.int (nI nm), .int 3]) (rest := []) ⟨hx, hb, hml, hown, hts⟩ (k_get l D ca n ad ct jt kt f hjt hkt c3 c4 nm 3 (by omega)) mk_F_33 mo_T_get me_T_T_get_T mi_T mc_T_get (by decide +kernel) ⟨rfl, rfl⟩ ⟨by decide, by decide⟩ (dd_pre hN hK hP (j := jt) hjt c3 (r := (R_T, T_T, 1)) rfl) rfl hl.1 rfl (Nat.le_of_ble_eq_true rfl) d_F_holdsIn_16 ⟨Nat.zero_le _, Nat.zero_le _⟩ ?_
    refine lv_istore_n (lv' := [(3, .int (nI (f (nm * 4 + 3)))), (2, .int (nI (f (nm * 4 + 2)))), (0, .ref (ad j)), (1, .ref (ad jt))]) hx hb d_F_holdsIn_19 rfl hl (by decide) rfl (fun ls hl => ?_)
    refine lv_iconst (v := 0) hx hb d_F_holdsIn_20 rfl ?_
    refine lv_istore (lv' := [(4, .int 0), (3, .int (nI (f (nm * 4 + 3)))), (2, .int (nI (f (nm * 4 + 2)))), (0, .ref (ad j)), (1, .ref (ad jt))]) hx hb d_F_holdsIn_21 hl (by decide) rfl (fun ls hl => ?_)
    have hl : lv_has ls 6 [(4, .int 0), (3, .int (nI (f (nm * 4 + 3)))), (2, .int (nI (f (nm * 4 + 2)))), (0, .ref (ad j)), (1, .ref (ad jt))] := hl
    refine lv_iload hx hb d_F_holdsIn_23 (lv_at hl 0 rfl) ?_
    refine lv_aload_n hx hb d_F_holdsIn_25 rfl (lv_at hl 3 rfl) ?_
    refine zz_get (j := j) (ci := 4) (C := R_F) (T := T_F) (N := 7) hx hb hts in_F hown hK hP hj c0 rfl 1 (by decide) (hts _ mf_F_9) (fun _ h => h) (v := .ref (ad jb)) rfl d_F_holdsIn_26 ?_
    refine zz_alen hx hb hK hP (j := jb) hjb (t0 := 0) (by decide) c1 d_F_holdsIn_29 ?_
    refine lv_icmp_ge (tgt := 91) hx hb d_F_holdsIn_30 rfl (fun h30 => absurd h30 (by decide)) (fun h30 => ?_)
    refine lv_aload_n hx hb d_F_holdsIn_33 rfl (lv_at hl 4 rfl) ?_
    refine lv_aload_n hx hb d_F_holdsIn_34 rfl (lv_at hl 3 rfl) ?_
    refine zz_get (j := j) (ci := 4) (C := R_F) (T := T_F) (N := 7) hx hb hts in_F hown hK hP hj c0 rfl 3 (by decide) (hts _ mf_F_30) (fun _ h => h) (v := .int (nI nm)) rfl d_F_holdsIn_35 ?_
    refine lv_iload hx hb d_F_holdsIn_38 (lv_at hl 0 rfl) ?_
    refine zz_cV (index := 33) (n := 2) (As := [.int (nI nm), .int 0]) (rest := []) ⟨hx, hb, hml, hown, hts⟩ (k_get l D ca n ad ct jt kt f hjt hkt c3 c4 nm 0 (by omega)) mk_F_33 mo_T_get me_T_T_get_T mi_T mc_T_get (by decide +kernel) ⟨rfl, rfl⟩ ⟨by decide, by decide⟩ (dd_pre hN hK hP (j := jt) hjt c3 (r := (R_T, T_T, 1)) rfl) rfl hl.1 rfl (Nat.le_of_ble_eq_true rfl) d_F_holdsIn_40 ⟨Nat.zero_le _, Nat.zero_le _⟩ ?_
    refine lv_aload_n hx hb d_F_holdsIn_43 rfl (lv_at hl 3 rfl) ?_
    refine zz_get (j := j) (ci := 4) (C := R_F) (T := T_F) (N := 7) hx hb hts in_F hown hK hP hj c0 rfl 2 (by decide) (hts _ mf_F_15) (fun _ h => h) (v := .ref (ad je)) rfl d_F_holdsIn_44 ?_
    refine lv_iload hx hb d_F_holdsIn_47 (lv_at hl 0 rfl) ?_
    refine dd_ald hx hb hK hP (j := je) hje c2 (0) rfl (by omega) (by decide) (ef 0) (rfl) d_F_holdsIn_49 ?_
    refine lv_iload_n hx hb d_F_holdsIn_50 rfl (lv_at hl 2 rfl) ?_
    refine lv_sipush (v := 10007) hx hb d_F_holdsIn_51 rfl ?_
    refine zz_cSN (index := 18) (n := 3) (As := [.int (nI (ef 0)), .int (nI (f (nm * 4 + 2))), .int 10007]) (rest := [.int (nI (f (nm * 4 + 0)))]) ⟨hx, hb, hml, hown, hts⟩ (k_raise l (ef 0) (f (nm * 4 + 2)) 10007 (hef _ (by decide)) (by decide) (by decide) (by omega)) hN mk_F_18 ms_D_raise mi_D mc_D_raise (by decide +kernel) ⟨rfl, rfl⟩ ⟨by decide, by decide⟩ preEq rfl hl.1 rfl (Nat.le_of_ble_eq_true rfl) d_F_holdsIn_54 ⟨Nat.zero_le _, Nat.zero_le _⟩ ?_
    refine lv_imul hx hb d_F_holdsIn_57 ?_
    refine zz_as (y := nI ((f (nm * 4 + 0)) * (ef 0 ^ f (nm * 4 + 2) % 10007))) (pk_mul (f (nm * 4 + 0)) (ef 0 ^ f (nm * 4 + 2) % 10007)) ?_
    refine lv_sipush (v := 10007) hx hb d_F_holdsIn_58 rfl ?_
    refine lv_irem hx hb d_F_holdsIn_61 (by decide) ?_
    refine zz_as (y := nI ((f (nm * 4 + 0)) * (ef 0 ^ f (nm * 4 + 2) % 10007) % 10007)) (pk_rem (d := 10007) (zn_prod hm0 (Nat.mod_lt _ (by decide)) (by decide)) (by decide) (by decide)) ?_
    refine lv_istore (lv' := [(5, .int (nI ((f (nm * 4 + 0)) * (ef 0 ^ f (nm * 4 + 2) % 10007) % 10007))), (4, .int 0), (3, .int (nI (f (nm * 4 + 3)))), (2, .int (nI (f (nm * 4 + 2)))), (0, .ref (ad j)), (1, .ref (ad jt))]) hx hb d_F_holdsIn_62 hl (by decide) rfl (fun ls hl => ?_)
    refine lv_aload_n hx hb d_F_holdsIn_64 rfl (lv_at hl 4 rfl) ?_
    refine zz_get (j := j) (ci := 4) (C := R_F) (T := T_F) (N := 7) hx hb hts in_F hown hK hP hj c0 rfl 1 (by decide) (hts _ mf_F_9) (fun _ h => h) (v := .ref (ad jb)) rfl d_F_holdsIn_65 ?_
    refine lv_iload hx hb d_F_holdsIn_68 (lv_at hl 1 rfl) ?_
    refine dd_ald hx hb hK hP (j := jb) hjb c1 (0) rfl (by omega) (by decide) (bf 0) (rfl) d_F_holdsIn_70 ?_
    refine lv_iload_n hx hb d_F_holdsIn_71 rfl (lv_at hl 2 rfl) ?_
    refine lv_sipush (v := 10007) hx hb d_F_holdsIn_72 rfl ?_
    refine zz_cSN (index := 18) (n := 3) (As := [.int (nI (bf 0)), .int (nI (f (nm * 4 + 3))), .int 10007]) (rest := []) ⟨hx, hb, hml, hown, hts⟩ (k_raise l (bf 0) (f (nm * 4 + 3)) 10007 (hbf _ (by decide)) (by decide) (by decide) (by omega)) hN mk_F_18 ms_D_raise mi_D mc_D_raise (by decide +kernel) ⟨rfl, rfl⟩ ⟨by decide, by decide⟩ preEq rfl hl.1 rfl (Nat.le_of_ble_eq_true rfl) d_F_holdsIn_75 ⟨Nat.zero_le _, Nat.zero_le _⟩ ?_
    refine lv_iload hx hb d_F_holdsIn_78 (lv_at hl 0 rfl) ?_
    refine lv_icmp_eq (tgt := 85) hx hb d_F_holdsIn_80 rfl (fun h80 => ?_) (fun h80 => ?_)
    · skip
      have e0 : holdP bf ef f nm 0 = true := decide_eq_true (zn_eqm.mp h80)
      refine lv_iinc (k := 1) (v := nI (0 + 1)) (lv' := [(4, .int (nI (0 + 1))), (5, .int (nI ((f (nm * 4 + 0)) * (ef 0 ^ f (nm * 4 + 2) % 10007) % 10007))), (3, .int (nI (f (nm * 4 + 3)))), (2, .int (nI (f (nm * 4 + 2)))), (0, .ref (ad j)), (1, .ref (ad jt))]) hx hb d_F_holdsIn_85 hl rfl (nI_1 _) (by decide) rfl (fun ls hl => ?_)
      refine lv_goto (tgt := 23) hx hb d_F_holdsIn_88 rfl ?_
      have hl : lv_has ls 6 [(4, .int 1), (5, .int (nI ((f (nm * 4 + 0)) * (ef 0 ^ f (nm * 4 + 2) % 10007) % 10007))), (3, .int (nI (f (nm * 4 + 3)))), (2, .int (nI (f (nm * 4 + 2)))), (0, .ref (ad j)), (1, .ref (ad jt))] := hl
      refine lv_iload hx hb d_F_holdsIn_23 (lv_at hl 0 rfl) ?_
      refine lv_aload_n hx hb d_F_holdsIn_25 rfl (lv_at hl 4 rfl) ?_
      refine zz_get (j := j) (ci := 4) (C := R_F) (T := T_F) (N := 7) hx hb hts in_F hown hK hP hj c0 rfl 1 (by decide) (hts _ mf_F_9) (fun _ h => h) (v := .ref (ad jb)) rfl d_F_holdsIn_26 ?_
      refine zz_alen hx hb hK hP (j := jb) hjb (t0 := 0) (by decide) c1 d_F_holdsIn_29 ?_
      refine lv_icmp_ge (tgt := 91) hx hb d_F_holdsIn_30 rfl (fun h30 => ?_) (fun h30 => absurd (by decide) h30)
      refine lv_iconst (v := 1) hx hb d_F_holdsIn_91 rfl ?_
      have hq : holdB bf ef f nm 1 = true := by unfold holdB; rw [e0]; rfl
      refine zz_as (y := zb (holdB bf ef f nm 1)) (by rw [hq]; rfl) ?_
      exact W.zret hx hb hr (zb_nar _) (fun t ht hW => ⟨rfl, ht⟩) (fun q h => absurd h List.not_mem_nil) d_F_holdsIn_92
    · skip
      have e0 : holdP bf ef f nm 0 = false := decide_eq_false (fun q => h80 (congrArg nI q))
      refine lv_iconst (v := 0) hx hb d_F_holdsIn_83 rfl ?_
      have hq : holdB bf ef f nm 1 = false := by unfold holdB; rw [e0]; rfl
      refine zz_as (y := zb (holdB bf ef f nm 1)) (by rw [hq]; rfl) ?_
      exact W.zret hx hb hr (zb_nar _) (fun t ht hW => ⟨rfl, ht⟩) (fun q h => absurd h List.not_mem_nil) d_F_holdsIn_84
  · skip
    have hc2 : f (nm * 4 + 2) < 5003 := (hft _ (by omega)).2 (Or.inl (by omega))
    have hc3 : f (nm * 4 + 3) < 5003 := (hft _ (by omega)).2 (Or.inr (by omega))
    have hm0 : f (nm * 4 + 0) < 10007 := (hft _ (by omega)).1
    have hm1 : f (nm * 4 + 1) < 10007 := (hft _ (by omega)).1
    refine lv_aload_n hx hb d_F_holdsIn_0 rfl (lv_at hl 1 rfl) ?_
    refine lv_aload_n hx hb d_F_holdsIn_1 rfl (lv_at hl 0 rfl) ?_
    refine zz_get (j := j) (ci := 4) (C := R_F) (T := T_F) (N := 7) hx hb hts in_F hown hK hP hj c0 rfl 3 (by decide) (hts _ mf_F_30) (fun _ h => h) (v := .int (nI nm)) rfl d_F_holdsIn_2 ?_
    refine lv_iconst (v := 2) hx hb d_F_holdsIn_5 rfl ?_
    refine zz_cV (index := 33) (n := 2) (As := [.int (nI nm), .int 2]) (rest := []) ⟨hx, hb, hml, hown, hts⟩ (k_get l D ca n ad ct jt kt f hjt hkt c3 c4 nm 2 (by omega)) mk_F_33 mo_T_get me_T_T_get_T mi_T mc_T_get (by decide +kernel) ⟨rfl, rfl⟩ ⟨by decide, by decide⟩ (dd_pre hN hK hP (j := jt) hjt c3 (r := (R_T, T_T, 1)) rfl) rfl hl.1 rfl (Nat.le_of_ble_eq_true rfl) d_F_holdsIn_6 ⟨Nat.zero_le _, Nat.zero_le _⟩ ?_
    refine lv_istore_n (lv' := [(2, .int (nI (f (nm * 4 + 2)))), (0, .ref (ad j)), (1, .ref (ad jt))]) hx hb d_F_holdsIn_9 rfl hl (by decide) rfl (fun ls hl => ?_)
    refine lv_aload_n hx hb d_F_holdsIn_10 rfl (lv_at hl 2 rfl) ?_
    refine lv_aload_n hx hb d_F_holdsIn_11 rfl (lv_at hl 1 rfl) ?_
    refine zz_get (j := j) (ci := 4) (C := R_F) (T := T_F) (N := 7) hx hb hts in_F hown hK hP hj c0 rfl 3 (by decide) (hts _ mf_F_30) (fun _ h => h) (v := .int (nI nm)) rfl d_F_holdsIn_12 ?_
    refine lv_iconst (v := 3) hx hb d_F_holdsIn_15 rfl ?_
    refine zz_cV (index := 33) (n := 2) (As := [.int (nI nm), .int 3]) (rest := []) ⟨hx, hb, hml, hown, hts⟩ (k_get l D ca n ad ct jt kt f hjt hkt c3 c4 nm 3 (by omega)) mk_F_33 mo_T_get me_T_T_get_T mi_T mc_T_get (by decide +kernel) ⟨rfl, rfl⟩ ⟨by decide, by decide⟩ (dd_pre hN hK hP (j := jt) hjt c3 (r := (R_T, T_T, 1)) rfl) rfl hl.1 rfl (Nat.le_of_ble_eq_true rfl) d_F_holdsIn_16 ⟨Nat.zero_le _, Nat.zero_le _⟩ ?_
    refine lv_istore_n (lv' := [(3, .int (nI (f (nm * 4 + 3)))), (2, .int (nI (f (nm * 4 + 2)))), (0, .ref (ad j)), (1, .ref (ad jt))]) hx hb d_F_holdsIn_19 rfl hl (by decide) rfl (fun ls hl => ?_)
    refine lv_iconst (v := 0) hx hb d_F_holdsIn_20 rfl ?_
    refine lv_istore (lv' := [(4, .int 0), (3, .int (nI (f (nm * 4 + 3)))), (2, .int (nI (f (nm * 4 + 2)))), (0, .ref (ad j)), (1, .ref (ad jt))]) hx hb d_F_holdsIn_21 hl (by decide) rfl (fun ls hl => ?_)
    have hl : lv_has ls 6 [(4, .int 0), (3, .int (nI (f (nm * 4 + 3)))), (2, .int (nI (f (nm * 4 + 2)))), (0, .ref (ad j)), (1, .ref (ad jt))] := hl
    refine lv_iload hx hb d_F_holdsIn_23 (lv_at hl 0 rfl) ?_
    refine lv_aload_n hx hb d_F_holdsIn_25 rfl (lv_at hl 3 rfl) ?_
    refine zz_get (j := j) (ci := 4) (C := R_F) (T := T_F) (N := 7) hx hb hts in_F hown hK hP hj c0 rfl 1 (by decide) (hts _ mf_F_9) (fun _ h => h) (v := .ref (ad jb)) rfl d_F_holdsIn_26 ?_
    refine zz_alen hx hb hK hP (j := jb) hjb (t0 := 0) (by decide) c1 d_F_holdsIn_29 ?_
    refine lv_icmp_ge (tgt := 91) hx hb d_F_holdsIn_30 rfl (fun h30 => absurd h30 (by decide)) (fun h30 => ?_)
    refine lv_aload_n hx hb d_F_holdsIn_33 rfl (lv_at hl 4 rfl) ?_
    refine lv_aload_n hx hb d_F_holdsIn_34 rfl (lv_at hl 3 rfl) ?_
    refine zz_get (j := j) (ci := 4) (C := R_F) (T := T_F) (N := 7) hx hb hts in_F hown hK hP hj c0 rfl 3 (by decide) (hts _ mf_F_30) (fun _ h => h) (v := .int (nI nm)) rfl d_F_holdsIn_35 ?_
    refine lv_iload hx hb d_F_holdsIn_38 (lv_at hl 0 rfl) ?_
    refine zz_cV (index := 33) (n := 2) (As := [.int (nI nm), .int 0]) (rest := []) ⟨hx, hb, hml, hown, hts⟩ (k_get l D ca n ad ct jt kt f hjt hkt c3 c4 nm 0 (by omega)) mk_F_33 mo_T_get me_T_T_get_T mi_T mc_T_get (by decide +kernel) ⟨rfl, rfl⟩ ⟨by decide, by decide⟩ (dd_pre hN hK hP (j := jt) hjt c3 (r := (R_T, T_T, 1)) rfl) rfl hl.1 rfl (Nat.le_of_ble_eq_true rfl) d_F_holdsIn_40 ⟨Nat.zero_le _, Nat.zero_le _⟩ ?_
    refine lv_aload_n hx hb d_F_holdsIn_43 rfl (lv_at hl 3 rfl) ?_
    refine zz_get (j := j) (ci := 4) (C := R_F) (T := T_F) (N := 7) hx hb hts in_F hown hK hP hj c0 rfl 2 (by decide) (hts _ mf_F_15) (fun _ h => h) (v := .ref (ad je)) rfl d_F_holdsIn_44 ?_
    refine lv_iload hx hb d_F_holdsIn_47 (lv_at hl 0 rfl) ?_
    refine dd_ald hx hb hK hP (j := je) hje c2 (0) rfl (by omega) (by decide) (ef 0) (rfl) d_F_holdsIn_49 ?_
    refine lv_iload_n hx hb d_F_holdsIn_50 rfl (lv_at hl 2 rfl) ?_
    refine lv_sipush (v := 10007) hx hb d_F_holdsIn_51 rfl ?_
    refine zz_cSN (index := 18) (n := 3) (As := [.int (nI (ef 0)), .int (nI (f (nm * 4 + 2))), .int 10007]) (rest := [.int (nI (f (nm * 4 + 0)))]) ⟨hx, hb, hml, hown, hts⟩ (k_raise l (ef 0) (f (nm * 4 + 2)) 10007 (hef _ (by decide)) (by decide) (by decide) (by omega)) hN mk_F_18 ms_D_raise mi_D mc_D_raise (by decide +kernel) ⟨rfl, rfl⟩ ⟨by decide, by decide⟩ preEq rfl hl.1 rfl (Nat.le_of_ble_eq_true rfl) d_F_holdsIn_54 ⟨Nat.zero_le _, Nat.zero_le _⟩ ?_
    refine lv_imul hx hb d_F_holdsIn_57 ?_
    refine zz_as (y := nI ((f (nm * 4 + 0)) * (ef 0 ^ f (nm * 4 + 2) % 10007))) (pk_mul (f (nm * 4 + 0)) (ef 0 ^ f (nm * 4 + 2) % 10007)) ?_
    refine lv_sipush (v := 10007) hx hb d_F_holdsIn_58 rfl ?_
    refine lv_irem hx hb d_F_holdsIn_61 (by decide) ?_
    refine zz_as (y := nI ((f (nm * 4 + 0)) * (ef 0 ^ f (nm * 4 + 2) % 10007) % 10007)) (pk_rem (d := 10007) (zn_prod hm0 (Nat.mod_lt _ (by decide)) (by decide)) (by decide) (by decide)) ?_
    refine lv_istore (lv' := [(5, .int (nI ((f (nm * 4 + 0)) * (ef 0 ^ f (nm * 4 + 2) % 10007) % 10007))), (4, .int 0), (3, .int (nI (f (nm * 4 + 3)))), (2, .int (nI (f (nm * 4 + 2)))), (0, .ref (ad j)), (1, .ref (ad jt))]) hx hb d_F_holdsIn_62 hl (by decide) rfl (fun ls hl => ?_)
    refine lv_aload_n hx hb d_F_holdsIn_64 rfl (lv_at hl 4 rfl) ?_
    refine zz_get (j := j) (ci := 4) (C := R_F) (T := T_F) (N := 7) hx hb hts in_F hown hK hP hj c0 rfl 1 (by decide) (hts _ mf_F_9) (fun _ h => h) (v := .ref (ad jb)) rfl d_F_holdsIn_65 ?_
    refine lv_iload hx hb d_F_holdsIn_68 (lv_at hl 1 rfl) ?_
    refine dd_ald hx hb hK hP (j := jb) hjb c1 (0) rfl (by omega) (by decide) (bf 0) (rfl) d_F_holdsIn_70 ?_
    refine lv_iload_n hx hb d_F_holdsIn_71 rfl (lv_at hl 2 rfl) ?_
    refine lv_sipush (v := 10007) hx hb d_F_holdsIn_72 rfl ?_
    refine zz_cSN (index := 18) (n := 3) (As := [.int (nI (bf 0)), .int (nI (f (nm * 4 + 3))), .int 10007]) (rest := []) ⟨hx, hb, hml, hown, hts⟩ (k_raise l (bf 0) (f (nm * 4 + 3)) 10007 (hbf _ (by decide)) (by decide) (by decide) (by omega)) hN mk_F_18 ms_D_raise mi_D mc_D_raise (by decide +kernel) ⟨rfl, rfl⟩ ⟨by decide, by decide⟩ preEq rfl hl.1 rfl (Nat.le_of_ble_eq_true rfl) d_F_holdsIn_75 ⟨Nat.zero_le _, Nat.zero_le _⟩ ?_
    refine lv_iload hx hb d_F_holdsIn_78 (lv_at hl 0 rfl) ?_
    refine lv_icmp_eq (tgt := 85) hx hb d_F_holdsIn_80 rfl (fun h80 => ?_) (fun h80 => ?_)
    · skip
      have e0 : holdP bf ef f nm 0 = true := decide_eq_true (zn_eqm.mp h80)
      refine lv_iinc (k := 1) (v := nI (0 + 1)) (lv' := [(4, .int (nI (0 + 1))), (5, .int (nI ((f (nm * 4 + 0)) * (ef 0 ^ f (nm * 4 + 2) % 10007) % 10007))), (3, .int (nI (f (nm * 4 + 3)))), (2, .int (nI (f (nm * 4 + 2)))), (0, .ref (ad j)), (1, .ref (ad jt))]) hx hb d_F_holdsIn_85 hl rfl (nI_1 _) (by decide) rfl (fun ls hl => ?_)
      refine lv_goto (tgt := 23) hx hb d_F_holdsIn_88 rfl ?_
      have hl : lv_has ls 6 [(4, .int 1), (5, .int (nI ((f (nm * 4 + 0)) * (ef 0 ^ f (nm * 4 + 2) % 10007) % 10007))), (3, .int (nI (f (nm * 4 + 3)))), (2, .int (nI (f (nm * 4 + 2)))), (0, .ref (ad j)), (1, .ref (ad jt))] := hl
      refine lv_iload hx hb d_F_holdsIn_23 (lv_at hl 0 rfl) ?_
      refine lv_aload_n hx hb d_F_holdsIn_25 rfl (lv_at hl 4 rfl) ?_
      refine zz_get (j := j) (ci := 4) (C := R_F) (T := T_F) (N := 7) hx hb hts in_F hown hK hP hj c0 rfl 1 (by decide) (hts _ mf_F_9) (fun _ h => h) (v := .ref (ad jb)) rfl d_F_holdsIn_26 ?_
      refine zz_alen hx hb hK hP (j := jb) hjb (t0 := 0) (by decide) c1 d_F_holdsIn_29 ?_
      refine lv_icmp_ge (tgt := 91) hx hb d_F_holdsIn_30 rfl (fun h30 => absurd h30 (by decide)) (fun h30 => ?_)
      refine lv_aload_n hx hb d_F_holdsIn_33 rfl (lv_at hl 5 rfl) ?_
      refine lv_aload_n hx hb d_F_holdsIn_34 rfl (lv_at hl 4 rfl) ?_
      refine zz_get (j := j) (ci := 4) (C := R_F) (T := T_F) (N := 7) hx hb hts in_F hown hK hP hj c0 rfl 3 (by decide) (hts _ mf_F_30) (fun _ h => h) (v := .int (nI nm)) rfl d_F_holdsIn_35 ?_
      refine lv_iload hx hb d_F_holdsIn_38 (lv_at hl 0 rfl) ?_
      refine zz_cV (index := 33) (n := 2) (As := [.int (nI nm), .int 1]) (rest := []) ⟨hx, hb, hml, hown, hts⟩ (k_get l D ca n ad ct jt kt f hjt hkt c3 c4 nm 1 (by omega)) mk_F_33 mo_T_get me_T_T_get_T mi_T mc_T_get (by decide +kernel) ⟨rfl, rfl⟩ ⟨by decide, by decide⟩ (dd_pre hN hK hP (j := jt) hjt c3 (r := (R_T, T_T, 1)) rfl) rfl hl.1 rfl (Nat.le_of_ble_eq_true rfl) d_F_holdsIn_40 ⟨Nat.zero_le _, Nat.zero_le _⟩ ?_
      refine lv_aload_n hx hb d_F_holdsIn_43 rfl (lv_at hl 4 rfl) ?_
      refine zz_get (j := j) (ci := 4) (C := R_F) (T := T_F) (N := 7) hx hb hts in_F hown hK hP hj c0 rfl 2 (by decide) (hts _ mf_F_15) (fun _ h => h) (v := .ref (ad je)) rfl d_F_holdsIn_44 ?_
      refine lv_iload hx hb d_F_holdsIn_47 (lv_at hl 0 rfl) ?_
      refine dd_ald hx hb hK hP (j := je) hje c2 (1) rfl (by omega) (by decide) (ef 1) (rfl) d_F_holdsIn_49 ?_
      refine lv_iload_n hx hb d_F_holdsIn_50 rfl (lv_at hl 3 rfl) ?_
      refine lv_sipush (v := 10007) hx hb d_F_holdsIn_51 rfl ?_
      refine zz_cSN (index := 18) (n := 3) (As := [.int (nI (ef 1)), .int (nI (f (nm * 4 + 2))), .int 10007]) (rest := [.int (nI (f (nm * 4 + 1)))]) ⟨hx, hb, hml, hown, hts⟩ (k_raise l (ef 1) (f (nm * 4 + 2)) 10007 (hef _ (by decide)) (by decide) (by decide) (by omega)) hN mk_F_18 ms_D_raise mi_D mc_D_raise (by decide +kernel) ⟨rfl, rfl⟩ ⟨by decide, by decide⟩ preEq rfl hl.1 rfl (Nat.le_of_ble_eq_true rfl) d_F_holdsIn_54 ⟨Nat.zero_le _, Nat.zero_le _⟩ ?_
      refine lv_imul hx hb d_F_holdsIn_57 ?_
      refine zz_as (y := nI ((f (nm * 4 + 1)) * (ef 1 ^ f (nm * 4 + 2) % 10007))) (pk_mul (f (nm * 4 + 1)) (ef 1 ^ f (nm * 4 + 2) % 10007)) ?_
      refine lv_sipush (v := 10007) hx hb d_F_holdsIn_58 rfl ?_
      refine lv_irem hx hb d_F_holdsIn_61 (by decide) ?_
      refine zz_as (y := nI ((f (nm * 4 + 1)) * (ef 1 ^ f (nm * 4 + 2) % 10007) % 10007)) (pk_rem (d := 10007) (zn_prod hm1 (Nat.mod_lt _ (by decide)) (by decide)) (by decide) (by decide)) ?_
      refine lv_istore (lv' := [(5, .int (nI ((f (nm * 4 + 1)) * (ef 1 ^ f (nm * 4 + 2) % 10007) % 10007))), (4, .int 1), (3, .int (nI (f (nm * 4 + 3)))), (2, .int (nI (f (nm * 4 + 2)))), (0, .ref (ad j)), (1, .ref (ad jt))]) hx hb d_F_holdsIn_62 hl (by decide) rfl (fun ls hl => ?_)
      refine lv_aload_n hx hb d_F_holdsIn_64 rfl (lv_at hl 4 rfl) ?_
      refine zz_get (j := j) (ci := 4) (C := R_F) (T := T_F) (N := 7) hx hb hts in_F hown hK hP hj c0 rfl 1 (by decide) (hts _ mf_F_9) (fun _ h => h) (v := .ref (ad jb)) rfl d_F_holdsIn_65 ?_
      refine lv_iload hx hb d_F_holdsIn_68 (lv_at hl 1 rfl) ?_
      refine dd_ald hx hb hK hP (j := jb) hjb c1 (1) rfl (by omega) (by decide) (bf 1) (rfl) d_F_holdsIn_70 ?_
      refine lv_iload_n hx hb d_F_holdsIn_71 rfl (lv_at hl 2 rfl) ?_
      refine lv_sipush (v := 10007) hx hb d_F_holdsIn_72 rfl ?_
      refine zz_cSN (index := 18) (n := 3) (As := [.int (nI (bf 1)), .int (nI (f (nm * 4 + 3))), .int 10007]) (rest := []) ⟨hx, hb, hml, hown, hts⟩ (k_raise l (bf 1) (f (nm * 4 + 3)) 10007 (hbf _ (by decide)) (by decide) (by decide) (by omega)) hN mk_F_18 ms_D_raise mi_D mc_D_raise (by decide +kernel) ⟨rfl, rfl⟩ ⟨by decide, by decide⟩ preEq rfl hl.1 rfl (Nat.le_of_ble_eq_true rfl) d_F_holdsIn_75 ⟨Nat.zero_le _, Nat.zero_le _⟩ ?_
      refine lv_iload hx hb d_F_holdsIn_78 (lv_at hl 0 rfl) ?_
      refine lv_icmp_eq (tgt := 85) hx hb d_F_holdsIn_80 rfl (fun h80 => ?_) (fun h80 => ?_)
      · skip
        have e1 : holdP bf ef f nm 1 = true := decide_eq_true (zn_eqm.mp h80)
        refine lv_iinc (k := 1) (v := nI (1 + 1)) (lv' := [(4, .int (nI (1 + 1))), (5, .int (nI ((f (nm * 4 + 1)) * (ef 1 ^ f (nm * 4 + 2) % 10007) % 10007))), (3, .int (nI (f (nm * 4 + 3)))), (2, .int (nI (f (nm * 4 + 2)))), (0, .ref (ad j)), (1, .ref (ad jt))]) hx hb d_F_holdsIn_85 hl rfl (nI_1 _) (by decide) rfl (fun ls hl => ?_)
        refine lv_goto (tgt := 23) hx hb d_F_holdsIn_88 rfl ?_
        have hl : lv_has ls 6 [(4, .int 2), (5, .int (nI ((f (nm * 4 + 1)) * (ef 1 ^ f (nm * 4 + 2) % 10007) % 10007))), (3, .int (nI (f (nm * 4 + 3)))), (2, .int (nI (f (nm * 4 + 2)))), (0, .ref (ad j)), (1, .ref (ad jt))] := hl
        refine lv_iload hx hb d_F_holdsIn_23 (lv_at hl 0 rfl) ?_
        refine lv_aload_n hx hb d_F_holdsIn_25 rfl (lv_at hl 4 rfl) ?_
        refine zz_get (j := j) (ci := 4) (C := R_F) (T := T_F) (N := 7) hx hb hts in_F hown hK hP hj c0 rfl 1 (by decide) (hts _ mf_F_9) (fun _ h => h) (v := .ref (ad jb)) rfl d_F_holdsIn_26 ?_
        refine zz_alen hx hb hK hP (j := jb) hjb (t0 := 0) (by decide) c1 d_F_holdsIn_29 ?_
        refine lv_icmp_ge (tgt := 91) hx hb d_F_holdsIn_30 rfl (fun h30 => ?_) (fun h30 => absurd (by decide) h30)
        refine lv_iconst (v := 1) hx hb d_F_holdsIn_91 rfl ?_
        have hq : holdB bf ef f nm 2 = true := by unfold holdB; rw [e0, e1]; rfl
        refine zz_as (y := zb (holdB bf ef f nm 2)) (by rw [hq]; rfl) ?_
        exact W.zret hx hb hr (zb_nar _) (fun t ht hW => ⟨rfl, ht⟩) (fun q h => absurd h List.not_mem_nil) d_F_holdsIn_92
      · skip
        have e1 : holdP bf ef f nm 1 = false := decide_eq_false (fun q => h80 (congrArg nI q))
        refine lv_iconst (v := 0) hx hb d_F_holdsIn_83 rfl ?_
        have hq : holdB bf ef f nm 2 = false := by unfold holdB; rw [e1, e0]; rfl
        refine zz_as (y := zb (holdB bf ef f nm 2)) (by rw [hq]; rfl) ?_
        exact W.zret hx hb hr (zb_nar _) (fun t ht hW => ⟨rfl, ht⟩) (fun q h => absurd h List.not_mem_nil) d_F_holdsIn_84
    · skip
      have e0 : holdP bf ef f nm 0 = false := decide_eq_false (fun q => h80 (congrArg nI q))
      refine lv_iconst (v := 0) hx hb d_F_holdsIn_83 rfl ?_
      have hq : holdB bf ef f nm 2 = false := by unfold holdB; rw [e0]; rfl
      refine zz_as (y := zb (holdB bf ef f nm 2)) (by rw [hq]; rfl) ?_
      exact W.zret hx hb hr (zb_nar _) (fun t ht hW => ⟨rfl, ht⟩) (fun q h => absurd h List.not_mem_nil) d_F_holdsIn_84

theorem d_F_respondTo_0 : decode c_F_respondTo 0 = .ok (.aload_n 2, 1) := by decide +kernel
theorem d_F_respondTo_1 : decode c_F_respondTo 1 = .ok (.aload_n 0, 1) := by decide +kernel
theorem d_F_respondTo_2 : decode c_F_respondTo 2 = .ok (.getfield 30, 3) := by decide +kernel
theorem d_F_respondTo_5 : decode c_F_respondTo 5 = .ok (.iconst 2, 1) := by decide +kernel
theorem d_F_respondTo_6 : decode c_F_respondTo 6 = .ok (.iload_n 1, 1) := by decide +kernel
theorem d_F_respondTo_7 : decode c_F_respondTo 7 = .ok (.invokevirtual 48, 3) := by decide +kernel
theorem d_F_respondTo_10 : decode c_F_respondTo 10 = .ok (.aload_n 2, 1) := by decide +kernel
theorem d_F_respondTo_11 : decode c_F_respondTo 11 = .ok (.aload_n 0, 1) := by decide +kernel
theorem d_F_respondTo_12 : decode c_F_respondTo 12 = .ok (.getfield 30, 3) := by decide +kernel
theorem d_F_respondTo_15 : decode c_F_respondTo 15 = .ok (.iconst 3, 1) := by decide +kernel
theorem d_F_respondTo_16 : decode c_F_respondTo 16 = .ok (.aload_n 0, 1) := by decide +kernel
theorem d_F_respondTo_17 : decode c_F_respondTo 17 = .ok (.getfield 45, 3) := by decide +kernel
theorem d_F_respondTo_20 : decode c_F_respondTo 20 = .ok (.iload_n 1, 1) := by decide +kernel
theorem d_F_respondTo_21 : decode c_F_respondTo 21 = .ok (.aload_n 0, 1) := by decide +kernel
theorem d_F_respondTo_22 : decode c_F_respondTo 22 = .ok (.getfield 26, 3) := by decide +kernel
theorem d_F_respondTo_25 : decode c_F_respondTo 25 = .ok (.imul, 1) := by decide +kernel
theorem d_F_respondTo_26 : decode c_F_respondTo 26 = .ok (.iadd, 1) := by decide +kernel
theorem d_F_respondTo_27 : decode c_F_respondTo 27 = .ok (.sipush 5003, 3) := by decide +kernel
theorem d_F_respondTo_30 : decode c_F_respondTo 30 = .ok (.irem, 1) := by decide +kernel
theorem d_F_respondTo_31 : decode c_F_respondTo 31 = .ok (.invokevirtual 48, 3) := by decide +kernel
theorem d_F_respondTo_34 : decode c_F_respondTo 34 = .ok (.return_, 1) := by decide +kernel

set_option maxHeartbeats 4000000 in
set_option maxRecDepth 100000 in
/-- respondTo(c, t) -/
theorem k_respondToF (l : Launch) (D : va_G) (ca : Nat → ClassId) (n : Nat) (ad : Nat → Nat) (ct : Nat → va_E) (hI : dI n ad) (j jb je np : Nat) (bf ef : Nat → Nat) (nm tl wt no : Nat) (hj : j < n) (hjb : jb < n) (hje : je < n) (hnp : np = 1 ∨ np = 2) (c0 : ct j = .inr (4, [.int 1, .ref (ad jb), .ref (ad je), .int (nI nm), .int (nI tl), .int (nI wt), .int (nI no)])) (c1 : ct jb = .inl (ca 0, np, .inl (zf bf))) (c2 : ct je = .inl (ca 0, np, .inl (zf ef))) (jt kt : Nat) (f : Nat → Nat) (hjt : jt < n) (hkt : kt < n) (c3 : ct jt = .inr (5, [.ref (ad kt)])) (c4 : ct kt = .inl (ca 0, 32, .inl (zf f))) (hnm : nm < 8) (c9 : Nat) (hc9 : c9 < 5003) (hwt : wt < 5003) (hno : no < 5003) : Met l y_F_respondTo (Cond.code y_F_respondTo c_F_respondTo 3 none :: zT) ({ frames := 2, cells := 0, slots := 0, locals := 80 }) (va_Pc [.ref (ad j), .int (nI c9), .ref (ad jt)] (dw D ca n ad ct)) (va_Qv (fun ct1 => ct1 = va_up ct kt (.inl (ca 0, 32, .inl (zf (va_up (va_up f (nm * 4 + 2) c9) (nm * 4 + 3) ((no + c9 * wt) % 5003)))))) (dw D ca n ad) (dA n ad)) 0 0 (dA n ad) := by
  refine Met.ofW (cc := c_F_respondTo) (maxL := 3) (ret := none) (by decide) rfl ?_
  intro p e s m args below meth c s₁ B hml hv
  obtain ⟨rfl, hN, hK, hP⟩ := hv
  have hx := B.exec
  have hb := B.bytes
  have hr := B.returns
  have hts0 := atoms_spec (ws := Cond.code y_F_respondTo c_F_respondTo 3 none :: zT) B.pre
  have hts := fun w h => hts0 w (List.mem_cons_of_mem _ h)
  have hown : s.vm.findClass R_F = some m.cls := findClass_of_methodNamed B.named
  have hlocks := B.notSynchronized
  have hD := dI_D hI
  have hS : va_S (dA n ad) s.heap s.heap [] := va_S.rf
  have hAA : ∀ q, dA n ad q → dA n ad q := fun _ h => h
  have hl := lv_entry ([.ref (ad j), .int (nI c9), .ref (ad jt)]) (n := 3) (Nat.le_of_ble_eq_true rfl)
  rw [lg_entry_eq]
  generalize (lg_sl ([.ref (ad j), .int (nI c9), .ref (ad jt)]) ++ List.replicate (3 - (lg_sl ([.ref (ad j), .int (nI c9), .ref (ad jt)])).length) Slot.unset).toArray = ls at hl ⊢
  have hl : lv_has ls 3 [(0, .ref (ad j)), (1, .int (nI c9)), (2, .ref (ad jt))] := hl
  refine lv_aload_n hx hb d_F_respondTo_0 rfl (lv_at hl 2 rfl) ?_
  refine lv_aload_n hx hb d_F_respondTo_1 rfl (lv_at hl 0 rfl) ?_
  refine zz_get (j := j) (ci := 4) (C := R_F) (T := T_F) (N := 7) hx hb hts in_F hown hK hP hj c0 rfl 3 (by decide) (hts _ mf_F_30) (fun _ h => h) (v := .int (nI nm)) rfl d_F_respondTo_2 ?_
  refine lv_iconst (v := 2) hx hb d_F_respondTo_5 rfl ?_
  refine lv_iload_n hx hb d_F_respondTo_6 rfl (lv_at hl 1 rfl) ?_
  refine dd_cv (index := 48) (k := 3) (As := [.int (nI nm), .int 2, .int (nI c9)]) (rest := []) ⟨hx, hb, hml, hown, hts⟩ (k_set l D ca n ad ct hI jt kt (f) hjt hkt c3 c4 nm 2 (c9) (by omega)) mk_F_48 mo_T_set me_T_T_set_T mi_T mc_T_set (by decide +kernel) ⟨rfl, rfl⟩ ⟨by decide, by decide⟩ (dd_pre hN hK hP (j := jt) hjt c3 (r := (R_T, T_T, 1)) rfl) hS hAA rfl hl.1 rfl (Nat.le_of_ble_eq_true rfl) d_F_respondTo_7 ⟨Nat.zero_le _, Nat.zero_le _⟩ (fun ct1 H locs hct1 hP hS => ?_)
  have c0 : ct1 j = .inr (4, [.int 1, .ref (ad jb), .ref (ad je), .int (nI nm), .int (nI tl), .int (nI wt), .int (nI no)]) := by rw [hct1]; exact (va_up_ne _ _ (fun q => absurd ((c0.symm.trans (congrArg ct q)).trans c4) (by simp))).trans c0
  have c3 : ct1 jt = .inr (5, [.ref (ad kt)]) := by rw [hct1]; exact (va_up_ne _ _ (fun q => absurd ((c3.symm.trans (congrArg ct q)).trans c4) (by simp))).trans c3
  have c4 : ct1 kt = .inl (ca 0, 32, .inl (zf (va_up f (nm * 4 + 2) c9))) := by rw [hct1]; exact va_up_self _ _ _
  refine lv_aload_n hx hb d_F_respondTo_10 rfl (lv_at hl 2 rfl) ?_
  refine lv_aload_n hx hb d_F_respondTo_11 rfl (lv_at hl 0 rfl) ?_
  refine zz_get (j := j) (ci := 4) (C := R_F) (T := T_F) (N := 7) hx hb hts in_F hown hK hP hj c0 rfl 3 (by decide) (hts _ mf_F_30) (fun _ h => h) (v := .int (nI nm)) rfl d_F_respondTo_12 ?_
  refine lv_iconst (v := 3) hx hb d_F_respondTo_15 rfl ?_
  refine lv_aload_n hx hb d_F_respondTo_16 rfl (lv_at hl 0 rfl) ?_
  refine zz_get (j := j) (ci := 4) (C := R_F) (T := T_F) (N := 7) hx hb hts in_F hown hK hP hj c0 rfl 6 (by decide) (hts _ mf_F_45) (fun _ h => h) (v := .int (nI no)) rfl d_F_respondTo_17 ?_
  refine lv_iload_n hx hb d_F_respondTo_20 rfl (lv_at hl 1 rfl) ?_
  refine lv_aload_n hx hb d_F_respondTo_21 rfl (lv_at hl 0 rfl) ?_
  refine zz_get (j := j) (ci := 4) (C := R_F) (T := T_F) (N := 7) hx hb hts in_F hown hK hP hj c0 rfl 5 (by decide) (hts _ mf_F_26) (fun _ h => h) (v := .int (nI wt)) rfl d_F_respondTo_22 ?_
  refine lv_imul hx hb d_F_respondTo_25 ?_
  refine zz_as (y := nI (c9 * wt)) (pk_mul c9 wt) ?_
  refine lv_iadd hx hb d_F_respondTo_26 ?_
  refine zz_as (y := nI (no + (c9 * wt))) (nI_add no (c9 * wt)) ?_
  refine lv_sipush (v := 5003) hx hb d_F_respondTo_27 rfl ?_
  refine lv_irem hx hb d_F_respondTo_30 (by decide) ?_
  refine zz_as (y := nI ((no + (c9 * wt)) % 5003)) (pk_rem (d := 5003) (by have := Nat.mul_le_mul (show c9 ≤ 5002 by omega) (show wt ≤ 5002 by omega); omega) (by decide) (by decide)) ?_
  refine dd_cv (index := 48) (k := 3) (As := [.int (nI nm), .int 3, .int (nI ((no + c9 * wt) % 5003))]) (rest := []) ⟨hx, hb, hml, hown, hts⟩ (k_set l D ca n ad ct1 hI jt kt (va_up f (nm * 4 + 2) c9) hjt hkt c3 c4 nm 3 ((no + c9 * wt) % 5003) (by omega)) mk_F_48 mo_T_set me_T_T_set_T mi_T mc_T_set (by decide +kernel) ⟨rfl, rfl⟩ ⟨by decide, by decide⟩ (dd_pre hN hK hP (j := jt) hjt c3 (r := (R_T, T_T, 1)) rfl) hS hAA rfl hl.1 rfl (Nat.le_of_ble_eq_true rfl) d_F_respondTo_31 ⟨Nat.zero_le _, Nat.zero_le _⟩ (fun ct2 H locs hct2 hP hS => ?_)
  have c0 : ct2 j = .inr (4, [.int 1, .ref (ad jb), .ref (ad je), .int (nI nm), .int (nI tl), .int (nI wt), .int (nI no)]) := by rw [hct2]; exact (va_up_ne _ _ (fun q => absurd ((c0.symm.trans (congrArg ct1 q)).trans c4) (by simp))).trans c0
  have c3 : ct2 jt = .inr (5, [.ref (ad kt)]) := by rw [hct2]; exact (va_up_ne _ _ (fun q => absurd ((c3.symm.trans (congrArg ct1 q)).trans c4) (by simp))).trans c3
  have c4 : ct2 kt = .inl (ca 0, 32, .inl (zf (va_up (va_up f (nm * 4 + 2) c9) (nm * 4 + 3) ((no + c9 * wt) % 5003)))) := by rw [hct2]; exact va_up_self _ _ _
  exact W.vret hx hb hr (fun t ht hW => ⟨⟨ct2, rfl, by rw [hct2, hct1, bx_uu], zN_warm hW hN, va_K.moved hW.alike hK, by rw [ht]; exact hP⟩, hS.F ht⟩) hS.2.2 d_F_respondTo_34

theorem d_F_commitReal_0 : decode c_F_commitReal 0 = .ok (.aload_n 0, 1) := by decide +kernel
theorem d_F_commitReal_1 : decode c_F_commitReal 1 = .ok (.aload_n 2, 1) := by decide +kernel
theorem d_F_commitReal_2 : decode c_F_commitReal 2 = .ok (.invokevirtual 39, 3) := by decide +kernel
theorem d_F_commitReal_5 : decode c_F_commitReal 5 = .ok (.putfield 45, 3) := by decide +kernel
theorem d_F_commitReal_8 : decode c_F_commitReal 8 = .ok (.iconst 0, 1) := by decide +kernel
theorem d_F_commitReal_9 : decode c_F_commitReal 9 = .ok (.istore_n 3, 1) := by decide +kernel
theorem d_F_commitReal_10 : decode c_F_commitReal 10 = .ok (.iload_n 3, 1) := by decide +kernel
theorem d_F_commitReal_11 : decode c_F_commitReal 11 = .ok (.aload_n 0, 1) := by decide +kernel
theorem d_F_commitReal_12 : decode c_F_commitReal 12 = .ok (.getfield 9, 3) := by decide +kernel
theorem d_F_commitReal_15 : decode c_F_commitReal 15 = .ok (.arraylength, 1) := by decide +kernel
theorem d_F_commitReal_16 : decode c_F_commitReal 16 = .ok (.if_icmp .ge 34, 3) := by decide +kernel
theorem d_F_commitReal_19 : decode c_F_commitReal 19 = .ok (.aload_n 1, 1) := by decide +kernel
theorem d_F_commitReal_20 : decode c_F_commitReal 20 = .ok (.aload_n 0, 1) := by decide +kernel
theorem d_F_commitReal_21 : decode c_F_commitReal 21 = .ok (.getfield 30, 3) := by decide +kernel
theorem d_F_commitReal_24 : decode c_F_commitReal 24 = .ok (.iload_n 3, 1) := by decide +kernel
theorem d_F_commitReal_25 : decode c_F_commitReal 25 = .ok (.aload_n 0, 1) := by decide +kernel
theorem d_F_commitReal_26 : decode c_F_commitReal 26 = .ok (.getfield 9, 3) := by decide +kernel
theorem d_F_commitReal_29 : decode c_F_commitReal 29 = .ok (.iload_n 3, 1) := by decide +kernel
theorem d_F_commitReal_30 : decode c_F_commitReal 30 = .ok (.iaload, 1) := by decide +kernel
theorem d_F_commitReal_31 : decode c_F_commitReal 31 = .ok (.aload_n 0, 1) := by decide +kernel
theorem d_F_commitReal_32 : decode c_F_commitReal 32 = .ok (.getfield 45, 3) := by decide +kernel
theorem d_F_commitReal_35 : decode c_F_commitReal 35 = .ok (.sipush 10007, 3) := by decide +kernel
theorem d_F_commitReal_38 : decode c_F_commitReal 38 = .ok (.invokestatic 18, 3) := by decide +kernel
theorem d_F_commitReal_41 : decode c_F_commitReal 41 = .ok (.invokevirtual 48, 3) := by decide +kernel
theorem d_F_commitReal_44 : decode c_F_commitReal 44 = .ok (.iinc 3 1, 3) := by decide +kernel
theorem d_F_commitReal_47 : decode c_F_commitReal 47 = .ok (.goto (-37), 3) := by decide +kernel
theorem d_F_commitReal_50 : decode c_F_commitReal 50 = .ok (.aload_n 1, 1) := by decide +kernel
theorem d_F_commitReal_51 : decode c_F_commitReal 51 = .ok (.aload_n 0, 1) := by decide +kernel
theorem d_F_commitReal_52 : decode c_F_commitReal 52 = .ok (.getfield 30, 3) := by decide +kernel
theorem d_F_commitReal_55 : decode c_F_commitReal 55 = .ok (.iconst 2, 1) := by decide +kernel
theorem d_F_commitReal_56 : decode c_F_commitReal 56 = .ok (.iconst 0, 1) := by decide +kernel
theorem d_F_commitReal_57 : decode c_F_commitReal 57 = .ok (.invokevirtual 48, 3) := by decide +kernel
theorem d_F_commitReal_60 : decode c_F_commitReal 60 = .ok (.aload_n 1, 1) := by decide +kernel
theorem d_F_commitReal_61 : decode c_F_commitReal 61 = .ok (.aload_n 0, 1) := by decide +kernel
theorem d_F_commitReal_62 : decode c_F_commitReal 62 = .ok (.getfield 30, 3) := by decide +kernel
theorem d_F_commitReal_65 : decode c_F_commitReal 65 = .ok (.iconst 3, 1) := by decide +kernel
theorem d_F_commitReal_66 : decode c_F_commitReal 66 = .ok (.iconst 0, 1) := by decide +kernel
theorem d_F_commitReal_67 : decode c_F_commitReal 67 = .ok (.invokevirtual 48, 3) := by decide +kernel
theorem d_F_commitReal_70 : decode c_F_commitReal 70 = .ok (.return_, 1) := by decide +kernel

set_option maxHeartbeats 4000000 in
set_option maxRecDepth 100000 in
/-- commitReal(t, d) -/
theorem k_commitRealF (l : Launch) (D : va_G) (ca : Nat → ClassId) (n : Nat) (ad : Nat → Nat) (ct : Nat → va_E) (hI : dI n ad) (j jb je np : Nat) (bf ef : Nat → Nat) (nm tl wt no : Nat) (hj : j < n) (hjb : jb < n) (hje : je < n) (hnp : np = 1 ∨ np = 2) (c0 : ct j = .inr (4, [.int 1, .ref (ad jb), .ref (ad je), .int (nI nm), .int (nI tl), .int (nI wt), .int (nI no)])) (c1 : ct jb = .inl (ca 0, np, .inl (zf bf))) (c2 : ct je = .inl (ca 0, np, .inl (zf ef))) (hbf : ∀ i, i < np → bf i < 10007) (hef : ∀ i, i < np → ef i < 10007) (jt kt : Nat) (f : Nat → Nat) (hjt : jt < n) (hkt : kt < n) (c3 : ct jt = .inr (5, [.ref (ad kt)])) (c4 : ct kt = .inl (ca 0, 32, .inl (zf f))) (jd st : Nat) (hjd : jd < n) (c5 : ct jd = .inr (6, [.int (nI st)])) (hnm : nm < 8) : Met l y_F_commitReal (Cond.code y_F_commitReal c_F_commitReal 4 none :: zT) ({ frames := 2, cells := 0, slots := 0, locals := 80 }) (va_Pc [.ref (ad j), .ref (ad jt), .ref (ad jd)] (dw D ca n ad ct)) (va_Qv (fun ct1 => ct1 = va_up (va_up (va_up ct jd (.inr (6, [.int (nI (dr st))]))) j (.inr (4, [.int 1, .ref (ad jb), .ref (ad je), .int (nI nm), .int (nI tl), .int (nI wt), .int (nI (dv (dr st)))]))) kt (.inl (ca 0, 32, .inl (zf (ftR bf f nm np (dv (dr st))))))) (dw D ca n ad) (dA n ad)) 0 0 (dA n ad) := by
  refine Met.ofW (cc := c_F_commitReal) (maxL := 4) (ret := none) (by decide) rfl ?_
  intro p e s m args below meth c s₁ B hml hv
  obtain ⟨rfl, hN, hK, hP⟩ := hv
  have hx := B.exec
  have hb := B.bytes
  have hr := B.returns
  have hts0 := atoms_spec (ws := Cond.code y_F_commitReal c_F_commitReal 4 none :: zT) B.pre
  have hts := fun w h => hts0 w (List.mem_cons_of_mem _ h)
  have hown : s.vm.findClass R_F = some m.cls := findClass_of_methodNamed B.named
  have hlocks := B.notSynchronized
  have hD := dI_D hI
  have hS : va_S (dA n ad) s.heap s.heap [] := va_S.rf
  have hAA : ∀ q, dA n ad q → dA n ad q := fun _ h => h
  have hl := lv_entry ([.ref (ad j), .ref (ad jt), .ref (ad jd)]) (n := 4) (Nat.le_of_ble_eq_true rfl)
  rw [lg_entry_eq]
  generalize (lg_sl ([.ref (ad j), .ref (ad jt), .ref (ad jd)]) ++ List.replicate (4 - (lg_sl ([.ref (ad j), .ref (ad jt), .ref (ad jd)])).length) Slot.unset).toArray = ls at hl ⊢
  have hl : lv_has ls 4 [(0, .ref (ad j)), (1, .ref (ad jt)), (2, .ref (ad jd))] := hl
  rcases hnp with rfl | rfl
  · skip
    refine lv_aload_n hx hb d_F_commitReal_0 rfl (lv_at hl 0 rfl) ?_
    refine lv_aload_n hx hb d_F_commitReal_1 rfl (lv_at hl 2 rfl) ?_
    refine dd_ci (index := 39) (k := 0) (As := []) (rest := [.ref (ad j)]) ⟨hx, hb, hml, hown, hts⟩ (k_draw l D ca n ad ct hI jd st hjd c5) mk_F_39 mo_G_draw me_G_G_draw_G mi_G mc_G_draw (by decide +kernel) ⟨rfl, rfl⟩ ⟨by decide, by decide⟩ (dd_pre hN hK hP (j := jd) hjd c5 (r := (R_G, T_G, 1)) rfl) hS hAA rfl hl.1 rfl (Nat.le_of_ble_eq_true rfl) d_F_commitReal_2 ⟨Nat.zero_le _, Nat.zero_le _⟩ (fun r ct1 H locs hct1 hP hS => ?_)
    obtain ⟨hr1, hctx⟩ := hct1
    obtain ⟨d0, hd0⟩ : ∃ d, dr st = d := ⟨_, rfl⟩
    rw [hd0] at hr1 hctx
    obtain ⟨x0, hx0⟩ : ∃ x, dv d0 = x := ⟨_, rfl⟩
    have hx1 : x0 < 5003 := by rw [← hx0]; exact dv_lt _
    rw [hx0] at hr1
    subst hr1
    have hct1 := hctx
    have c0 : ct1 j = .inr (4, [.int 1, .ref (ad jb), .ref (ad je), .int (nI nm), .int (nI tl), .int (nI wt), .int (nI no)]) := by rw [hct1]; exact (va_up_ne _ _ (fun q => absurd ((c0.symm.trans (congrArg ct q)).trans c5) (by simp))).trans c0
    have c1 : ct1 jb = .inl (ca 0, 1, .inl (zf bf)) := by rw [hct1]; exact (va_up_ne _ _ (fun q => absurd ((c1.symm.trans (congrArg ct q)).trans c5) (by simp))).trans c1
    have c2 : ct1 je = .inl (ca 0, 1, .inl (zf ef)) := by rw [hct1]; exact (va_up_ne _ _ (fun q => absurd ((c2.symm.trans (congrArg ct q)).trans c5) (by simp))).trans c2
    have c3 : ct1 jt = .inr (5, [.ref (ad kt)]) := by rw [hct1]; exact (va_up_ne _ _ (fun q => absurd ((c3.symm.trans (congrArg ct q)).trans c5) (by simp))).trans c3
    have c4 : ct1 kt = .inl (ca 0, 32, .inl (zf f)) := by rw [hct1]; exact (va_up_ne _ _ (fun q => absurd ((c4.symm.trans (congrArg ct q)).trans c5) (by simp))).trans c4
    have c5 : ct1 jd = .inr (6, [.int (nI d0)]) := by rw [hct1]; exact va_up_self _ _ _
    refine zz_put (j := j) (ci := 4) (C := R_F) (T := T_F) (N := 7) (v := .int (nI x0)) (ty := ft_F 6) hx hb hts in_F ft_F ft_F_ok fn_F hown hK hP hD hS hj c0 rfl 6 (by decide) (hts _ mf_F_45) (fun _ h => h) rfl (ft_F_ok 6 (by decide)) rfl rfl (Nat.le_of_ble_eq_true rfl) d_F_commitReal_5 (fun H locs hP hS => ?_)
    have hP : va_P D zC (zl n ad (va_up ct1 j (.inr (4, [.int 1, .ref (ad jb), .ref (ad je), .int (nI nm), .int (nI tl), .int (nI wt), .int (nI x0)])))) H := hP
    obtain ⟨ct2, hct2⟩ : ∃ c, c = va_up ct1 j (.inr (4, [.int 1, .ref (ad jb), .ref (ad je), .int (nI nm), .int (nI tl), .int (nI wt), .int (nI x0)])) := ⟨_, rfl⟩
    rw [← hct2] at hP
    have c1 : ct2 jb = .inl (ca 0, 1, .inl (zf bf)) := by rw [hct2]; exact (va_up_ne _ _ (fun q => absurd ((c1.symm.trans (congrArg ct1 q)).trans c0) (by simp))).trans c1
    have c2 : ct2 je = .inl (ca 0, 1, .inl (zf ef)) := by rw [hct2]; exact (va_up_ne _ _ (fun q => absurd ((c2.symm.trans (congrArg ct1 q)).trans c0) (by simp))).trans c2
    have c3 : ct2 jt = .inr (5, [.ref (ad kt)]) := by rw [hct2]; exact (va_up_ne _ _ (fun q => absurd ((c3.symm.trans (congrArg ct1 q)).trans c0) (by simp))).trans c3
    have c4 : ct2 kt = .inl (ca 0, 32, .inl (zf f)) := by rw [hct2]; exact (va_up_ne _ _ (fun q => absurd ((c4.symm.trans (congrArg ct1 q)).trans c0) (by simp))).trans c4
    have c5 : ct2 jd = .inr (6, [.int (nI d0)]) := by rw [hct2]; exact (va_up_ne _ _ (fun q => absurd ((c5.symm.trans (congrArg ct1 q)).trans c0) (by simp))).trans c5
    have c0 : ct2 j = .inr (4, [.int 1, .ref (ad jb), .ref (ad je), .int (nI nm), .int (nI tl), .int (nI wt), .int (nI x0)]) := by rw [hct2]; exact va_up_self _ _ _
    refine lv_iconst (v := 0) hx hb d_F_commitReal_8 rfl ?_
    refine lv_istore_n (lv' := [(3, .int 0), (0, .ref (ad j)), (1, .ref (ad jt)), (2, .ref (ad jd))]) hx hb d_F_commitReal_9 rfl hl (by decide) rfl (fun ls hl => ?_)
    have hl : lv_has ls 4 [(3, .int 0), (0, .ref (ad j)), (1, .ref (ad jt)), (2, .ref (ad jd))] := hl
    refine lv_iload_n hx hb d_F_commitReal_10 rfl (lv_at hl 0 rfl) ?_
    refine lv_aload_n hx hb d_F_commitReal_11 rfl (lv_at hl 1 rfl) ?_
    refine zz_get (j := j) (ci := 4) (C := R_F) (T := T_F) (N := 7) hx hb hts in_F hown hK hP hj c0 rfl 1 (by decide) (hts _ mf_F_9) (fun _ h => h) (v := .ref (ad jb)) rfl d_F_commitReal_12 ?_
    refine zz_alen hx hb hK hP (j := jb) hjb (t0 := 0) (by decide) c1 d_F_commitReal_15 ?_
    refine lv_icmp_ge (tgt := 50) hx hb d_F_commitReal_16 rfl (fun h16 => absurd h16 (by decide)) (fun h16 => ?_)
    refine lv_aload_n hx hb d_F_commitReal_19 rfl (lv_at hl 2 rfl) ?_
    refine lv_aload_n hx hb d_F_commitReal_20 rfl (lv_at hl 1 rfl) ?_
    refine zz_get (j := j) (ci := 4) (C := R_F) (T := T_F) (N := 7) hx hb hts in_F hown hK hP hj c0 rfl 3 (by decide) (hts _ mf_F_30) (fun _ h => h) (v := .int (nI nm)) rfl d_F_commitReal_21 ?_
    refine lv_iload_n hx hb d_F_commitReal_24 rfl (lv_at hl 0 rfl) ?_
    refine lv_aload_n hx hb d_F_commitReal_25 rfl (lv_at hl 1 rfl) ?_
    refine zz_get (j := j) (ci := 4) (C := R_F) (T := T_F) (N := 7) hx hb hts in_F hown hK hP hj c0 rfl 1 (by decide) (hts _ mf_F_9) (fun _ h => h) (v := .ref (ad jb)) rfl d_F_commitReal_26 ?_
    refine lv_iload_n hx hb d_F_commitReal_29 rfl (lv_at hl 0 rfl) ?_
    refine dd_ald hx hb hK hP (j := jb) hjb c1 (0) rfl (by omega) (by decide) (bf 0) (rfl) d_F_commitReal_30 ?_
    refine lv_aload_n hx hb d_F_commitReal_31 rfl (lv_at hl 1 rfl) ?_
    refine zz_get (j := j) (ci := 4) (C := R_F) (T := T_F) (N := 7) hx hb hts in_F hown hK hP hj c0 rfl 6 (by decide) (hts _ mf_F_45) (fun _ h => h) (v := .int (nI x0)) rfl d_F_commitReal_32 ?_
    refine lv_sipush (v := 10007) hx hb d_F_commitReal_35 rfl ?_
    refine zz_cSN (index := 18) (n := 3) (As := [.int (nI (bf 0)), .int (nI x0), .int 10007]) (rest := [.int 0, .int (nI nm), .ref (ad jt)]) ⟨hx, hb, hml, hown, hts⟩ (k_raise l (bf 0) x0 10007 (hbf _ (by decide)) (by decide) (by decide) (by omega)) hN mk_F_18 ms_D_raise mi_D mc_D_raise (by decide +kernel) ⟨rfl, rfl⟩ ⟨by decide, by decide⟩ preEq rfl hl.1 rfl (Nat.le_of_ble_eq_true rfl) d_F_commitReal_38 ⟨Nat.zero_le _, Nat.zero_le _⟩ ?_
    refine dd_cv (index := 48) (k := 3) (As := [.int (nI nm), .int 0, .int (nI (bf 0 ^ x0 % 10007))]) (rest := []) ⟨hx, hb, hml, hown, hts⟩ (k_set l D ca n ad ct2 hI jt kt (f) hjt hkt c3 c4 nm 0 (bf 0 ^ x0 % 10007) (by omega)) mk_F_48 mo_T_set me_T_T_set_T mi_T mc_T_set (by decide +kernel) ⟨rfl, rfl⟩ ⟨by decide, by decide⟩ (dd_pre hN hK hP (j := jt) hjt c3 (r := (R_T, T_T, 1)) rfl) hS hAA rfl hl.1 rfl (Nat.le_of_ble_eq_true rfl) d_F_commitReal_41 ⟨Nat.zero_le _, Nat.zero_le _⟩ (fun ct3 H locs hct3 hP hS => ?_)
    have c0 : ct3 j = .inr (4, [.int 1, .ref (ad jb), .ref (ad je), .int (nI nm), .int (nI tl), .int (nI wt), .int (nI x0)]) := by rw [hct3]; exact (va_up_ne _ _ (fun q => absurd ((c0.symm.trans (congrArg ct2 q)).trans c4) (by simp))).trans c0
    have c1 : ct3 jb = .inl (ca 0, 1, .inl (zf bf)) := by rw [hct3]; exact (va_up_ne _ _ (fun q => absurd ((c1.symm.trans (congrArg ct2 q)).trans c4) (by simp))).trans c1
    have c2 : ct3 je = .inl (ca 0, 1, .inl (zf ef)) := by rw [hct3]; exact (va_up_ne _ _ (fun q => absurd ((c2.symm.trans (congrArg ct2 q)).trans c4) (by simp))).trans c2
    have c3 : ct3 jt = .inr (5, [.ref (ad kt)]) := by rw [hct3]; exact (va_up_ne _ _ (fun q => absurd ((c3.symm.trans (congrArg ct2 q)).trans c4) (by simp))).trans c3
    have c5 : ct3 jd = .inr (6, [.int (nI d0)]) := by rw [hct3]; exact (va_up_ne _ _ (fun q => absurd ((c5.symm.trans (congrArg ct2 q)).trans c4) (by simp))).trans c5
    have c4 : ct3 kt = .inl (ca 0, 32, .inl (zf (va_up f (nm * 4 + 0) (bf 0 ^ x0 % 10007)))) := by rw [hct3]; exact va_up_self _ _ _
    refine lv_iinc (k := 0) (v := nI (0 + 1)) (lv' := [(3, .int (nI (0 + 1))), (0, .ref (ad j)), (1, .ref (ad jt)), (2, .ref (ad jd))]) hx hb d_F_commitReal_44 hl rfl (nI_1 _) (by decide) rfl (fun ls hl => ?_)
    refine lv_goto (tgt := 10) hx hb d_F_commitReal_47 rfl ?_
    have hl : lv_has ls 4 [(3, .int 1), (0, .ref (ad j)), (1, .ref (ad jt)), (2, .ref (ad jd))] := hl
    refine lv_iload_n hx hb d_F_commitReal_10 rfl (lv_at hl 0 rfl) ?_
    refine lv_aload_n hx hb d_F_commitReal_11 rfl (lv_at hl 1 rfl) ?_
    refine zz_get (j := j) (ci := 4) (C := R_F) (T := T_F) (N := 7) hx hb hts in_F hown hK hP hj c0 rfl 1 (by decide) (hts _ mf_F_9) (fun _ h => h) (v := .ref (ad jb)) rfl d_F_commitReal_12 ?_
    refine zz_alen hx hb hK hP (j := jb) hjb (t0 := 0) (by decide) c1 d_F_commitReal_15 ?_
    refine lv_icmp_ge (tgt := 50) hx hb d_F_commitReal_16 rfl (fun h16 => ?_) (fun h16 => absurd (by decide) h16)
    refine lv_aload_n hx hb d_F_commitReal_50 rfl (lv_at hl 2 rfl) ?_
    refine lv_aload_n hx hb d_F_commitReal_51 rfl (lv_at hl 1 rfl) ?_
    refine zz_get (j := j) (ci := 4) (C := R_F) (T := T_F) (N := 7) hx hb hts in_F hown hK hP hj c0 rfl 3 (by decide) (hts _ mf_F_30) (fun _ h => h) (v := .int (nI nm)) rfl d_F_commitReal_52 ?_
    refine lv_iconst (v := 2) hx hb d_F_commitReal_55 rfl ?_
    refine lv_iconst (v := 0) hx hb d_F_commitReal_56 rfl ?_
    refine dd_cv (index := 48) (k := 3) (As := [.int (nI nm), .int 2, .int (nI 0)]) (rest := []) ⟨hx, hb, hml, hown, hts⟩ (k_set l D ca n ad ct3 hI jt kt (va_up f (nm * 4 + 0) (bf 0 ^ x0 % 10007)) hjt hkt c3 c4 nm 2 (0) (by omega)) mk_F_48 mo_T_set me_T_T_set_T mi_T mc_T_set (by decide +kernel) ⟨rfl, rfl⟩ ⟨by decide, by decide⟩ (dd_pre hN hK hP (j := jt) hjt c3 (r := (R_T, T_T, 1)) rfl) hS hAA rfl hl.1 rfl (Nat.le_of_ble_eq_true rfl) d_F_commitReal_57 ⟨Nat.zero_le _, Nat.zero_le _⟩ (fun ct4 H locs hct4 hP hS => ?_)
    have c0 : ct4 j = .inr (4, [.int 1, .ref (ad jb), .ref (ad je), .int (nI nm), .int (nI tl), .int (nI wt), .int (nI x0)]) := by rw [hct4]; exact (va_up_ne _ _ (fun q => absurd ((c0.symm.trans (congrArg ct3 q)).trans c4) (by simp))).trans c0
    have c1 : ct4 jb = .inl (ca 0, 1, .inl (zf bf)) := by rw [hct4]; exact (va_up_ne _ _ (fun q => absurd ((c1.symm.trans (congrArg ct3 q)).trans c4) (by simp))).trans c1
    have c2 : ct4 je = .inl (ca 0, 1, .inl (zf ef)) := by rw [hct4]; exact (va_up_ne _ _ (fun q => absurd ((c2.symm.trans (congrArg ct3 q)).trans c4) (by simp))).trans c2
    have c3 : ct4 jt = .inr (5, [.ref (ad kt)]) := by rw [hct4]; exact (va_up_ne _ _ (fun q => absurd ((c3.symm.trans (congrArg ct3 q)).trans c4) (by simp))).trans c3
    have c5 : ct4 jd = .inr (6, [.int (nI d0)]) := by rw [hct4]; exact (va_up_ne _ _ (fun q => absurd ((c5.symm.trans (congrArg ct3 q)).trans c4) (by simp))).trans c5
    have c4 : ct4 kt = .inl (ca 0, 32, .inl (zf (va_up (va_up f (nm * 4 + 0) (bf 0 ^ x0 % 10007)) (nm * 4 + 2) 0))) := by rw [hct4]; exact va_up_self _ _ _
    refine lv_aload_n hx hb d_F_commitReal_60 rfl (lv_at hl 2 rfl) ?_
    refine lv_aload_n hx hb d_F_commitReal_61 rfl (lv_at hl 1 rfl) ?_
    refine zz_get (j := j) (ci := 4) (C := R_F) (T := T_F) (N := 7) hx hb hts in_F hown hK hP hj c0 rfl 3 (by decide) (hts _ mf_F_30) (fun _ h => h) (v := .int (nI nm)) rfl d_F_commitReal_62 ?_
    refine lv_iconst (v := 3) hx hb d_F_commitReal_65 rfl ?_
    refine lv_iconst (v := 0) hx hb d_F_commitReal_66 rfl ?_
    refine dd_cv (index := 48) (k := 3) (As := [.int (nI nm), .int 3, .int (nI 0)]) (rest := []) ⟨hx, hb, hml, hown, hts⟩ (k_set l D ca n ad ct4 hI jt kt (va_up (va_up f (nm * 4 + 0) (bf 0 ^ x0 % 10007)) (nm * 4 + 2) 0) hjt hkt c3 c4 nm 3 (0) (by omega)) mk_F_48 mo_T_set me_T_T_set_T mi_T mc_T_set (by decide +kernel) ⟨rfl, rfl⟩ ⟨by decide, by decide⟩ (dd_pre hN hK hP (j := jt) hjt c3 (r := (R_T, T_T, 1)) rfl) hS hAA rfl hl.1 rfl (Nat.le_of_ble_eq_true rfl) d_F_commitReal_67 ⟨Nat.zero_le _, Nat.zero_le _⟩ (fun ct5 H locs hct5 hP hS => ?_)
    have c0 : ct5 j = .inr (4, [.int 1, .ref (ad jb), .ref (ad je), .int (nI nm), .int (nI tl), .int (nI wt), .int (nI x0)]) := by rw [hct5]; exact (va_up_ne _ _ (fun q => absurd ((c0.symm.trans (congrArg ct4 q)).trans c4) (by simp))).trans c0
    have c1 : ct5 jb = .inl (ca 0, 1, .inl (zf bf)) := by rw [hct5]; exact (va_up_ne _ _ (fun q => absurd ((c1.symm.trans (congrArg ct4 q)).trans c4) (by simp))).trans c1
    have c2 : ct5 je = .inl (ca 0, 1, .inl (zf ef)) := by rw [hct5]; exact (va_up_ne _ _ (fun q => absurd ((c2.symm.trans (congrArg ct4 q)).trans c4) (by simp))).trans c2
    have c3 : ct5 jt = .inr (5, [.ref (ad kt)]) := by rw [hct5]; exact (va_up_ne _ _ (fun q => absurd ((c3.symm.trans (congrArg ct4 q)).trans c4) (by simp))).trans c3
    have c5 : ct5 jd = .inr (6, [.int (nI d0)]) := by rw [hct5]; exact (va_up_ne _ _ (fun q => absurd ((c5.symm.trans (congrArg ct4 q)).trans c4) (by simp))).trans c5
    have c4 : ct5 kt = .inl (ca 0, 32, .inl (zf (va_up (va_up (va_up f (nm * 4 + 0) (bf 0 ^ x0 % 10007)) (nm * 4 + 2) 0) (nm * 4 + 3) 0))) := by rw [hct5]; exact va_up_self _ _ _
    exact W.vret hx hb hr (fun t ht hW => ⟨⟨ct5, rfl, by rw [hct5, hct4, hct3, bx_uu, bx_uu, hct2, hct1, hd0, hx0]; rfl, zN_warm hW hN, va_K.moved hW.alike hK, by rw [ht]; exact hP⟩, hS.F ht⟩) hS.2.2 d_F_commitReal_70
  · skip
    refine lv_aload_n hx hb d_F_commitReal_0 rfl (lv_at hl 0 rfl) ?_
    refine lv_aload_n hx hb d_F_commitReal_1 rfl (lv_at hl 2 rfl) ?_
    refine dd_ci (index := 39) (k := 0) (As := []) (rest := [.ref (ad j)]) ⟨hx, hb, hml, hown, hts⟩ (k_draw l D ca n ad ct hI jd st hjd c5) mk_F_39 mo_G_draw me_G_G_draw_G mi_G mc_G_draw (by decide +kernel) ⟨rfl, rfl⟩ ⟨by decide, by decide⟩ (dd_pre hN hK hP (j := jd) hjd c5 (r := (R_G, T_G, 1)) rfl) hS hAA rfl hl.1 rfl (Nat.le_of_ble_eq_true rfl) d_F_commitReal_2 ⟨Nat.zero_le _, Nat.zero_le _⟩ (fun r ct1 H locs hct1 hP hS => ?_)
    obtain ⟨hr1, hctx⟩ := hct1
    obtain ⟨d0, hd0⟩ : ∃ d, dr st = d := ⟨_, rfl⟩
    rw [hd0] at hr1 hctx
    obtain ⟨x0, hx0⟩ : ∃ x, dv d0 = x := ⟨_, rfl⟩
    have hx1 : x0 < 5003 := by rw [← hx0]; exact dv_lt _
    rw [hx0] at hr1
    subst hr1
    have hct1 := hctx
    have c0 : ct1 j = .inr (4, [.int 1, .ref (ad jb), .ref (ad je), .int (nI nm), .int (nI tl), .int (nI wt), .int (nI no)]) := by rw [hct1]; exact (va_up_ne _ _ (fun q => absurd ((c0.symm.trans (congrArg ct q)).trans c5) (by simp))).trans c0
    have c1 : ct1 jb = .inl (ca 0, 2, .inl (zf bf)) := by rw [hct1]; exact (va_up_ne _ _ (fun q => absurd ((c1.symm.trans (congrArg ct q)).trans c5) (by simp))).trans c1
    have c2 : ct1 je = .inl (ca 0, 2, .inl (zf ef)) := by rw [hct1]; exact (va_up_ne _ _ (fun q => absurd ((c2.symm.trans (congrArg ct q)).trans c5) (by simp))).trans c2
    have c3 : ct1 jt = .inr (5, [.ref (ad kt)]) := by rw [hct1]; exact (va_up_ne _ _ (fun q => absurd ((c3.symm.trans (congrArg ct q)).trans c5) (by simp))).trans c3
    have c4 : ct1 kt = .inl (ca 0, 32, .inl (zf f)) := by rw [hct1]; exact (va_up_ne _ _ (fun q => absurd ((c4.symm.trans (congrArg ct q)).trans c5) (by simp))).trans c4
    have c5 : ct1 jd = .inr (6, [.int (nI d0)]) := by rw [hct1]; exact va_up_self _ _ _
    refine zz_put (j := j) (ci := 4) (C := R_F) (T := T_F) (N := 7) (v := .int (nI x0)) (ty := ft_F 6) hx hb hts in_F ft_F ft_F_ok fn_F hown hK hP hD hS hj c0 rfl 6 (by decide) (hts _ mf_F_45) (fun _ h => h) rfl (ft_F_ok 6 (by decide)) rfl rfl (Nat.le_of_ble_eq_true rfl) d_F_commitReal_5 (fun H locs hP hS => ?_)
    have hP : va_P D zC (zl n ad (va_up ct1 j (.inr (4, [.int 1, .ref (ad jb), .ref (ad je), .int (nI nm), .int (nI tl), .int (nI wt), .int (nI x0)])))) H := hP
    obtain ⟨ct2, hct2⟩ : ∃ c, c = va_up ct1 j (.inr (4, [.int 1, .ref (ad jb), .ref (ad je), .int (nI nm), .int (nI tl), .int (nI wt), .int (nI x0)])) := ⟨_, rfl⟩
    rw [← hct2] at hP
    have c1 : ct2 jb = .inl (ca 0, 2, .inl (zf bf)) := by rw [hct2]; exact (va_up_ne _ _ (fun q => absurd ((c1.symm.trans (congrArg ct1 q)).trans c0) (by simp))).trans c1
    have c2 : ct2 je = .inl (ca 0, 2, .inl (zf ef)) := by rw [hct2]; exact (va_up_ne _ _ (fun q => absurd ((c2.symm.trans (congrArg ct1 q)).trans c0) (by simp))).trans c2
    have c3 : ct2 jt = .inr (5, [.ref (ad kt)]) := by rw [hct2]; exact (va_up_ne _ _ (fun q => absurd ((c3.symm.trans (congrArg ct1 q)).trans c0) (by simp))).trans c3
    have c4 : ct2 kt = .inl (ca 0, 32, .inl (zf f)) := by rw [hct2]; exact (va_up_ne _ _ (fun q => absurd ((c4.symm.trans (congrArg ct1 q)).trans c0) (by simp))).trans c4
    have c5 : ct2 jd = .inr (6, [.int (nI d0)]) := by rw [hct2]; exact (va_up_ne _ _ (fun q => absurd ((c5.symm.trans (congrArg ct1 q)).trans c0) (by simp))).trans c5
    have c0 : ct2 j = .inr (4, [.int 1, .ref (ad jb), .ref (ad je), .int (nI nm), .int (nI tl), .int (nI wt), .int (nI x0)]) := by rw [hct2]; exact va_up_self _ _ _
    refine lv_iconst (v := 0) hx hb d_F_commitReal_8 rfl ?_
    refine lv_istore_n (lv' := [(3, .int 0), (0, .ref (ad j)), (1, .ref (ad jt)), (2, .ref (ad jd))]) hx hb d_F_commitReal_9 rfl hl (by decide) rfl (fun ls hl => ?_)
    have hl : lv_has ls 4 [(3, .int 0), (0, .ref (ad j)), (1, .ref (ad jt)), (2, .ref (ad jd))] := hl
    refine lv_iload_n hx hb d_F_commitReal_10 rfl (lv_at hl 0 rfl) ?_
    refine lv_aload_n hx hb d_F_commitReal_11 rfl (lv_at hl 1 rfl) ?_
    refine zz_get (j := j) (ci := 4) (C := R_F) (T := T_F) (N := 7) hx hb hts in_F hown hK hP hj c0 rfl 1 (by decide) (hts _ mf_F_9) (fun _ h => h) (v := .ref (ad jb)) rfl d_F_commitReal_12 ?_
    refine zz_alen hx hb hK hP (j := jb) hjb (t0 := 0) (by decide) c1 d_F_commitReal_15 ?_
    refine lv_icmp_ge (tgt := 50) hx hb d_F_commitReal_16 rfl (fun h16 => absurd h16 (by decide)) (fun h16 => ?_)
    refine lv_aload_n hx hb d_F_commitReal_19 rfl (lv_at hl 2 rfl) ?_
    refine lv_aload_n hx hb d_F_commitReal_20 rfl (lv_at hl 1 rfl) ?_
    refine zz_get (j := j) (ci := 4) (C := R_F) (T := T_F) (N := 7) hx hb hts in_F hown hK hP hj c0 rfl 3 (by decide) (hts _ mf_F_30) (fun _ h => h) (v := .int (nI nm)) rfl d_F_commitReal_21 ?_
    refine lv_iload_n hx hb d_F_commitReal_24 rfl (lv_at hl 0 rfl) ?_
    refine lv_aload_n hx hb d_F_commitReal_25 rfl (lv_at hl 1 rfl) ?_
    refine zz_get (j := j) (ci := 4) (C := R_F) (T := T_F) (N := 7) hx hb hts in_F hown hK hP hj c0 rfl 1 (by decide) (hts _ mf_F_9) (fun _ h => h) (v := .ref (ad jb)) rfl d_F_commitReal_26 ?_
    refine lv_iload_n hx hb d_F_commitReal_29 rfl (lv_at hl 0 rfl) ?_
    refine dd_ald hx hb hK hP (j := jb) hjb c1 (0) rfl (by omega) (by decide) (bf 0) (rfl) d_F_commitReal_30 ?_
    refine lv_aload_n hx hb d_F_commitReal_31 rfl (lv_at hl 1 rfl) ?_
    refine zz_get (j := j) (ci := 4) (C := R_F) (T := T_F) (N := 7) hx hb hts in_F hown hK hP hj c0 rfl 6 (by decide) (hts _ mf_F_45) (fun _ h => h) (v := .int (nI x0)) rfl d_F_commitReal_32 ?_
    refine lv_sipush (v := 10007) hx hb d_F_commitReal_35 rfl ?_
    refine zz_cSN (index := 18) (n := 3) (As := [.int (nI (bf 0)), .int (nI x0), .int 10007]) (rest := [.int 0, .int (nI nm), .ref (ad jt)]) ⟨hx, hb, hml, hown, hts⟩ (k_raise l (bf 0) x0 10007 (hbf _ (by decide)) (by decide) (by decide) (by omega)) hN mk_F_18 ms_D_raise mi_D mc_D_raise (by decide +kernel) ⟨rfl, rfl⟩ ⟨by decide, by decide⟩ preEq rfl hl.1 rfl (Nat.le_of_ble_eq_true rfl) d_F_commitReal_38 ⟨Nat.zero_le _, Nat.zero_le _⟩ ?_
    refine dd_cv (index := 48) (k := 3) (As := [.int (nI nm), .int 0, .int (nI (bf 0 ^ x0 % 10007))]) (rest := []) ⟨hx, hb, hml, hown, hts⟩ (k_set l D ca n ad ct2 hI jt kt (f) hjt hkt c3 c4 nm 0 (bf 0 ^ x0 % 10007) (by omega)) mk_F_48 mo_T_set me_T_T_set_T mi_T mc_T_set (by decide +kernel) ⟨rfl, rfl⟩ ⟨by decide, by decide⟩ (dd_pre hN hK hP (j := jt) hjt c3 (r := (R_T, T_T, 1)) rfl) hS hAA rfl hl.1 rfl (Nat.le_of_ble_eq_true rfl) d_F_commitReal_41 ⟨Nat.zero_le _, Nat.zero_le _⟩ (fun ct3 H locs hct3 hP hS => ?_)
    have c0 : ct3 j = .inr (4, [.int 1, .ref (ad jb), .ref (ad je), .int (nI nm), .int (nI tl), .int (nI wt), .int (nI x0)]) := by rw [hct3]; exact (va_up_ne _ _ (fun q => absurd ((c0.symm.trans (congrArg ct2 q)).trans c4) (by simp))).trans c0
    have c1 : ct3 jb = .inl (ca 0, 2, .inl (zf bf)) := by rw [hct3]; exact (va_up_ne _ _ (fun q => absurd ((c1.symm.trans (congrArg ct2 q)).trans c4) (by simp))).trans c1
    have c2 : ct3 je = .inl (ca 0, 2, .inl (zf ef)) := by rw [hct3]; exact (va_up_ne _ _ (fun q => absurd ((c2.symm.trans (congrArg ct2 q)).trans c4) (by simp))).trans c2
    have c3 : ct3 jt = .inr (5, [.ref (ad kt)]) := by rw [hct3]; exact (va_up_ne _ _ (fun q => absurd ((c3.symm.trans (congrArg ct2 q)).trans c4) (by simp))).trans c3
    have c5 : ct3 jd = .inr (6, [.int (nI d0)]) := by rw [hct3]; exact (va_up_ne _ _ (fun q => absurd ((c5.symm.trans (congrArg ct2 q)).trans c4) (by simp))).trans c5
    have c4 : ct3 kt = .inl (ca 0, 32, .inl (zf (va_up f (nm * 4 + 0) (bf 0 ^ x0 % 10007)))) := by rw [hct3]; exact va_up_self _ _ _
    refine lv_iinc (k := 0) (v := nI (0 + 1)) (lv' := [(3, .int (nI (0 + 1))), (0, .ref (ad j)), (1, .ref (ad jt)), (2, .ref (ad jd))]) hx hb d_F_commitReal_44 hl rfl (nI_1 _) (by decide) rfl (fun ls hl => ?_)
    refine lv_goto (tgt := 10) hx hb d_F_commitReal_47 rfl ?_
    have hl : lv_has ls 4 [(3, .int 1), (0, .ref (ad j)), (1, .ref (ad jt)), (2, .ref (ad jd))] := hl
    refine lv_iload_n hx hb d_F_commitReal_10 rfl (lv_at hl 0 rfl) ?_
    refine lv_aload_n hx hb d_F_commitReal_11 rfl (lv_at hl 1 rfl) ?_
    refine zz_get (j := j) (ci := 4) (C := R_F) (T := T_F) (N := 7) hx hb hts in_F hown hK hP hj c0 rfl 1 (by decide) (hts _ mf_F_9) (fun _ h => h) (v := .ref (ad jb)) rfl d_F_commitReal_12 ?_
    refine zz_alen hx hb hK hP (j := jb) hjb (t0 := 0) (by decide) c1 d_F_commitReal_15 ?_
    refine lv_icmp_ge (tgt := 50) hx hb d_F_commitReal_16 rfl (fun h16 => absurd h16 (by decide)) (fun h16 => ?_)
    refine lv_aload_n hx hb d_F_commitReal_19 rfl (lv_at hl 2 rfl) ?_
    refine lv_aload_n hx hb d_F_commitReal_20 rfl (lv_at hl 1 rfl) ?_
    refine zz_get (j := j) (ci := 4) (C := R_F) (T := T_F) (N := 7) hx hb hts in_F hown hK hP hj c0 rfl 3 (by decide) (hts _ mf_F_30) (fun _ h => h) (v := .int (nI nm)) rfl d_F_commitReal_21 ?_
    refine lv_iload_n hx hb d_F_commitReal_24 rfl (lv_at hl 0 rfl) ?_
    refine lv_aload_n hx hb d_F_commitReal_25 rfl (lv_at hl 1 rfl) ?_
    refine zz_get (j := j) (ci := 4) (C := R_F) (T := T_F) (N := 7) hx hb hts in_F hown hK hP hj c0 rfl 1 (by decide) (hts _ mf_F_9) (fun _ h => h) (v := .ref (ad jb)) rfl d_F_commitReal_26 ?_
    refine lv_iload_n hx hb d_F_commitReal_29 rfl (lv_at hl 0 rfl) ?_
    refine dd_ald hx hb hK hP (j := jb) hjb c1 (1) rfl (by omega) (by decide) (bf 1) (rfl) d_F_commitReal_30 ?_
    refine lv_aload_n hx hb d_F_commitReal_31 rfl (lv_at hl 1 rfl) ?_
    refine zz_get (j := j) (ci := 4) (C := R_F) (T := T_F) (N := 7) hx hb hts in_F hown hK hP hj c0 rfl 6 (by decide) (hts _ mf_F_45) (fun _ h => h) (v := .int (nI x0)) rfl d_F_commitReal_32 ?_
    refine lv_sipush (v := 10007) hx hb d_F_commitReal_35 rfl ?_
    refine zz_cSN (index := 18) (n := 3) (As := [.int (nI (bf 1)), .int (nI x0), .int 10007]) (rest := [.int 1, .int (nI nm), .ref (ad jt)]) ⟨hx, hb, hml, hown, hts⟩ (k_raise l (bf 1) x0 10007 (hbf _ (by decide)) (by decide) (by decide) (by omega)) hN mk_F_18 ms_D_raise mi_D mc_D_raise (by decide +kernel) ⟨rfl, rfl⟩ ⟨by decide, by decide⟩ preEq rfl hl.1 rfl (Nat.le_of_ble_eq_true rfl) d_F_commitReal_38 ⟨Nat.zero_le _, Nat.zero_le _⟩ ?_
    refine dd_cv (index := 48) (k := 3) (As := [.int (nI nm), .int 1, .int (nI (bf 1 ^ x0 % 10007))]) (rest := []) ⟨hx, hb, hml, hown, hts⟩ (k_set l D ca n ad ct3 hI jt kt (va_up f (nm * 4 + 0) (bf 0 ^ x0 % 10007)) hjt hkt c3 c4 nm 1 (bf 1 ^ x0 % 10007) (by omega)) mk_F_48 mo_T_set me_T_T_set_T mi_T mc_T_set (by decide +kernel) ⟨rfl, rfl⟩ ⟨by decide, by decide⟩ (dd_pre hN hK hP (j := jt) hjt c3 (r := (R_T, T_T, 1)) rfl) hS hAA rfl hl.1 rfl (Nat.le_of_ble_eq_true rfl) d_F_commitReal_41 ⟨Nat.zero_le _, Nat.zero_le _⟩ (fun ct4 H locs hct4 hP hS => ?_)
    have c0 : ct4 j = .inr (4, [.int 1, .ref (ad jb), .ref (ad je), .int (nI nm), .int (nI tl), .int (nI wt), .int (nI x0)]) := by rw [hct4]; exact (va_up_ne _ _ (fun q => absurd ((c0.symm.trans (congrArg ct3 q)).trans c4) (by simp))).trans c0
    have c1 : ct4 jb = .inl (ca 0, 2, .inl (zf bf)) := by rw [hct4]; exact (va_up_ne _ _ (fun q => absurd ((c1.symm.trans (congrArg ct3 q)).trans c4) (by simp))).trans c1
    have c2 : ct4 je = .inl (ca 0, 2, .inl (zf ef)) := by rw [hct4]; exact (va_up_ne _ _ (fun q => absurd ((c2.symm.trans (congrArg ct3 q)).trans c4) (by simp))).trans c2
    have c3 : ct4 jt = .inr (5, [.ref (ad kt)]) := by rw [hct4]; exact (va_up_ne _ _ (fun q => absurd ((c3.symm.trans (congrArg ct3 q)).trans c4) (by simp))).trans c3
    have c5 : ct4 jd = .inr (6, [.int (nI d0)]) := by rw [hct4]; exact (va_up_ne _ _ (fun q => absurd ((c5.symm.trans (congrArg ct3 q)).trans c4) (by simp))).trans c5
    have c4 : ct4 kt = .inl (ca 0, 32, .inl (zf (va_up (va_up f (nm * 4 + 0) (bf 0 ^ x0 % 10007)) (nm * 4 + 1) (bf 1 ^ x0 % 10007)))) := by rw [hct4]; exact va_up_self _ _ _
    refine lv_iinc (k := 0) (v := nI (1 + 1)) (lv' := [(3, .int (nI (1 + 1))), (0, .ref (ad j)), (1, .ref (ad jt)), (2, .ref (ad jd))]) hx hb d_F_commitReal_44 hl rfl (nI_1 _) (by decide) rfl (fun ls hl => ?_)
    refine lv_goto (tgt := 10) hx hb d_F_commitReal_47 rfl ?_
    have hl : lv_has ls 4 [(3, .int 2), (0, .ref (ad j)), (1, .ref (ad jt)), (2, .ref (ad jd))] := hl
    refine lv_iload_n hx hb d_F_commitReal_10 rfl (lv_at hl 0 rfl) ?_
    refine lv_aload_n hx hb d_F_commitReal_11 rfl (lv_at hl 1 rfl) ?_
    refine zz_get (j := j) (ci := 4) (C := R_F) (T := T_F) (N := 7) hx hb hts in_F hown hK hP hj c0 rfl 1 (by decide) (hts _ mf_F_9) (fun _ h => h) (v := .ref (ad jb)) rfl d_F_commitReal_12 ?_
    refine zz_alen hx hb hK hP (j := jb) hjb (t0 := 0) (by decide) c1 d_F_commitReal_15 ?_
    refine lv_icmp_ge (tgt := 50) hx hb d_F_commitReal_16 rfl (fun h16 => ?_) (fun h16 => absurd (by decide) h16)
    refine lv_aload_n hx hb d_F_commitReal_50 rfl (lv_at hl 2 rfl) ?_
    refine lv_aload_n hx hb d_F_commitReal_51 rfl (lv_at hl 1 rfl) ?_
    refine zz_get (j := j) (ci := 4) (C := R_F) (T := T_F) (N := 7) hx hb hts in_F hown hK hP hj c0 rfl 3 (by decide) (hts _ mf_F_30) (fun _ h => h) (v := .int (nI nm)) rfl d_F_commitReal_52 ?_
    refine lv_iconst (v := 2) hx hb d_F_commitReal_55 rfl ?_
    refine lv_iconst (v := 0) hx hb d_F_commitReal_56 rfl ?_
    refine dd_cv (index := 48) (k := 3) (As := [.int (nI nm), .int 2, .int (nI 0)]) (rest := []) ⟨hx, hb, hml, hown, hts⟩ (k_set l D ca n ad ct4 hI jt kt (va_up (va_up f (nm * 4 + 0) (bf 0 ^ x0 % 10007)) (nm * 4 + 1) (bf 1 ^ x0 % 10007)) hjt hkt c3 c4 nm 2 (0) (by omega)) mk_F_48 mo_T_set me_T_T_set_T mi_T mc_T_set (by decide +kernel) ⟨rfl, rfl⟩ ⟨by decide, by decide⟩ (dd_pre hN hK hP (j := jt) hjt c3 (r := (R_T, T_T, 1)) rfl) hS hAA rfl hl.1 rfl (Nat.le_of_ble_eq_true rfl) d_F_commitReal_57 ⟨Nat.zero_le _, Nat.zero_le _⟩ (fun ct5 H locs hct5 hP hS => ?_)
    have c0 : ct5 j = .inr (4, [.int 1, .ref (ad jb), .ref (ad je), .int (nI nm), .int (nI tl), .int (nI wt), .int (nI x0)]) := by rw [hct5]; exact (va_up_ne _ _ (fun q => absurd ((c0.symm.trans (congrArg ct4 q)).trans c4) (by simp))).trans c0
    have c1 : ct5 jb = .inl (ca 0, 2, .inl (zf bf)) := by rw [hct5]; exact (va_up_ne _ _ (fun q => absurd ((c1.symm.trans (congrArg ct4 q)).trans c4) (by simp))).trans c1
    have c2 : ct5 je = .inl (ca 0, 2, .inl (zf ef)) := by rw [hct5]; exact (va_up_ne _ _ (fun q => absurd ((c2.symm.trans (congrArg ct4 q)).trans c4) (by simp))).trans c2
    have c3 : ct5 jt = .inr (5, [.ref (ad kt)]) := by rw [hct5]; exact (va_up_ne _ _ (fun q => absurd ((c3.symm.trans (congrArg ct4 q)).trans c4) (by simp))).trans c3
    have c5 : ct5 jd = .inr (6, [.int (nI d0)]) := by rw [hct5]; exact (va_up_ne _ _ (fun q => absurd ((c5.symm.trans (congrArg ct4 q)).trans c4) (by simp))).trans c5
    have c4 : ct5 kt = .inl (ca 0, 32, .inl (zf (va_up (va_up (va_up f (nm * 4 + 0) (bf 0 ^ x0 % 10007)) (nm * 4 + 1) (bf 1 ^ x0 % 10007)) (nm * 4 + 2) 0))) := by rw [hct5]; exact va_up_self _ _ _
    refine lv_aload_n hx hb d_F_commitReal_60 rfl (lv_at hl 2 rfl) ?_
    refine lv_aload_n hx hb d_F_commitReal_61 rfl (lv_at hl 1 rfl) ?_
    refine zz_get (j := j) (ci := 4) (C := R_F) (T := T_F) (N := 7) hx hb hts in_F hown hK hP hj c0 rfl 3 (by decide) (hts _ mf_F_30) (fun _ h => h) (v := .int (nI nm)) rfl d_F_commitReal_62 ?_
    refine lv_iconst (v := 3) hx hb d_F_commitReal_65 rfl ?_
    refine lv_iconst (v := 0) hx hb d_F_commitReal_66 rfl ?_
    refine dd_cv (index := 48) (k := 3) (As := [.int (nI nm), .int 3, .int (nI 0)]) (rest := []) ⟨hx, hb, hml, hown, hts⟩ (k_set l D ca n ad ct5 hI jt kt (va_up (va_up (va_up f (nm * 4 + 0) (bf 0 ^ x0 % 10007)) (nm * 4 + 1) (bf 1 ^ x0 % 10007)) (nm * 4 + 2) 0) hjt hkt c3 c4 nm 3 (0) (by omega)) mk_F_48 mo_T_set me_T_T_set_T mi_T mc_T_set (by decide +kernel) ⟨rfl, rfl⟩ ⟨by decide, by decide⟩ (dd_pre hN hK hP (j := jt) hjt c3 (r := (R_T, T_T, 1)) rfl) hS hAA rfl hl.1 rfl (Nat.le_of_ble_eq_true rfl) d_F_commitReal_67 ⟨Nat.zero_le _, Nat.zero_le _⟩ (fun ct6 H locs hct6 hP hS => ?_)
    have c0 : ct6 j = .inr (4, [.int 1, .ref (ad jb), .ref (ad je), .int (nI nm), .int (nI tl), .int (nI wt), .int (nI x0)]) := by rw [hct6]; exact (va_up_ne _ _ (fun q => absurd ((c0.symm.trans (congrArg ct5 q)).trans c4) (by simp))).trans c0
    have c1 : ct6 jb = .inl (ca 0, 2, .inl (zf bf)) := by rw [hct6]; exact (va_up_ne _ _ (fun q => absurd ((c1.symm.trans (congrArg ct5 q)).trans c4) (by simp))).trans c1
    have c2 : ct6 je = .inl (ca 0, 2, .inl (zf ef)) := by rw [hct6]; exact (va_up_ne _ _ (fun q => absurd ((c2.symm.trans (congrArg ct5 q)).trans c4) (by simp))).trans c2
    have c3 : ct6 jt = .inr (5, [.ref (ad kt)]) := by rw [hct6]; exact (va_up_ne _ _ (fun q => absurd ((c3.symm.trans (congrArg ct5 q)).trans c4) (by simp))).trans c3
    have c5 : ct6 jd = .inr (6, [.int (nI d0)]) := by rw [hct6]; exact (va_up_ne _ _ (fun q => absurd ((c5.symm.trans (congrArg ct5 q)).trans c4) (by simp))).trans c5
    have c4 : ct6 kt = .inl (ca 0, 32, .inl (zf (va_up (va_up (va_up (va_up f (nm * 4 + 0) (bf 0 ^ x0 % 10007)) (nm * 4 + 1) (bf 1 ^ x0 % 10007)) (nm * 4 + 2) 0) (nm * 4 + 3) 0))) := by rw [hct6]; exact va_up_self _ _ _
    exact W.vret hx hb hr (fun t ht hW => ⟨⟨ct6, rfl, by rw [hct6, hct5, hct4, hct3, bx_uu, bx_uu, bx_uu, hct2, hct1, hd0, hx0]; rfl, zN_warm hW hN, va_K.moved hW.alike hK, by rw [ht]; exact hP⟩, hS.F ht⟩) hS.2.2 d_F_commitReal_70

theorem d_F_commitSimulated_0 : decode c_F_commitSimulated 0 = .ok (.aload_n 3, 1) := by decide +kernel
theorem d_F_commitSimulated_1 : decode c_F_commitSimulated 1 = .ok (.invokevirtual 39, 3) := by decide +kernel
theorem d_F_commitSimulated_4 : decode c_F_commitSimulated 4 = .ok (.istore 4, 2) := by decide +kernel
theorem d_F_commitSimulated_6 : decode c_F_commitSimulated 6 = .ok (.iconst 0, 1) := by decide +kernel
theorem d_F_commitSimulated_7 : decode c_F_commitSimulated 7 = .ok (.istore 5, 2) := by decide +kernel
theorem d_F_commitSimulated_9 : decode c_F_commitSimulated 9 = .ok (.iload 5, 2) := by decide +kernel
theorem d_F_commitSimulated_11 : decode c_F_commitSimulated 11 = .ok (.aload_n 0, 1) := by decide +kernel
theorem d_F_commitSimulated_12 : decode c_F_commitSimulated 12 = .ok (.getfield 9, 3) := by decide +kernel
theorem d_F_commitSimulated_15 : decode c_F_commitSimulated 15 = .ok (.arraylength, 1) := by decide +kernel
theorem d_F_commitSimulated_16 : decode c_F_commitSimulated 16 = .ok (.if_icmp .ge 61, 3) := by decide +kernel
theorem d_F_commitSimulated_19 : decode c_F_commitSimulated 19 = .ok (.aload_n 0, 1) := by decide +kernel
theorem d_F_commitSimulated_20 : decode c_F_commitSimulated 20 = .ok (.getfield 9, 3) := by decide +kernel
theorem d_F_commitSimulated_23 : decode c_F_commitSimulated 23 = .ok (.iload 5, 2) := by decide +kernel
theorem d_F_commitSimulated_25 : decode c_F_commitSimulated 25 = .ok (.iaload, 1) := by decide +kernel
theorem d_F_commitSimulated_26 : decode c_F_commitSimulated 26 = .ok (.iload 4, 2) := by decide +kernel
theorem d_F_commitSimulated_28 : decode c_F_commitSimulated 28 = .ok (.sipush 10007, 3) := by decide +kernel
theorem d_F_commitSimulated_31 : decode c_F_commitSimulated 31 = .ok (.invokestatic 18, 3) := by decide +kernel
theorem d_F_commitSimulated_34 : decode c_F_commitSimulated 34 = .ok (.aload_n 0, 1) := by decide +kernel
theorem d_F_commitSimulated_35 : decode c_F_commitSimulated 35 = .ok (.getfield 15, 3) := by decide +kernel
theorem d_F_commitSimulated_38 : decode c_F_commitSimulated 38 = .ok (.iload 5, 2) := by decide +kernel
theorem d_F_commitSimulated_40 : decode c_F_commitSimulated 40 = .ok (.iaload, 1) := by decide +kernel
theorem d_F_commitSimulated_41 : decode c_F_commitSimulated 41 = .ok (.sipush 5003, 3) := by decide +kernel
theorem d_F_commitSimulated_44 : decode c_F_commitSimulated 44 = .ok (.iload_n 1, 1) := by decide +kernel
theorem d_F_commitSimulated_45 : decode c_F_commitSimulated 45 = .ok (.isub, 1) := by decide +kernel
theorem d_F_commitSimulated_46 : decode c_F_commitSimulated 46 = .ok (.sipush 10007, 3) := by decide +kernel
theorem d_F_commitSimulated_49 : decode c_F_commitSimulated 49 = .ok (.invokestatic 18, 3) := by decide +kernel
theorem d_F_commitSimulated_52 : decode c_F_commitSimulated 52 = .ok (.imul, 1) := by decide +kernel
theorem d_F_commitSimulated_53 : decode c_F_commitSimulated 53 = .ok (.sipush 10007, 3) := by decide +kernel
theorem d_F_commitSimulated_56 : decode c_F_commitSimulated 56 = .ok (.irem, 1) := by decide +kernel
theorem d_F_commitSimulated_57 : decode c_F_commitSimulated 57 = .ok (.istore 6, 2) := by decide +kernel
theorem d_F_commitSimulated_59 : decode c_F_commitSimulated 59 = .ok (.aload_n 2, 1) := by decide +kernel
theorem d_F_commitSimulated_60 : decode c_F_commitSimulated 60 = .ok (.aload_n 0, 1) := by decide +kernel
theorem d_F_commitSimulated_61 : decode c_F_commitSimulated 61 = .ok (.getfield 30, 3) := by decide +kernel
theorem d_F_commitSimulated_64 : decode c_F_commitSimulated 64 = .ok (.iload 5, 2) := by decide +kernel
theorem d_F_commitSimulated_66 : decode c_F_commitSimulated 66 = .ok (.iload 6, 2) := by decide +kernel
theorem d_F_commitSimulated_68 : decode c_F_commitSimulated 68 = .ok (.invokevirtual 48, 3) := by decide +kernel
theorem d_F_commitSimulated_71 : decode c_F_commitSimulated 71 = .ok (.iinc 5 1, 3) := by decide +kernel
theorem d_F_commitSimulated_74 : decode c_F_commitSimulated 74 = .ok (.goto (-65), 3) := by decide +kernel
theorem d_F_commitSimulated_77 : decode c_F_commitSimulated 77 = .ok (.aload_n 2, 1) := by decide +kernel
theorem d_F_commitSimulated_78 : decode c_F_commitSimulated 78 = .ok (.aload_n 0, 1) := by decide +kernel
theorem d_F_commitSimulated_79 : decode c_F_commitSimulated 79 = .ok (.getfield 30, 3) := by decide +kernel
theorem d_F_commitSimulated_82 : decode c_F_commitSimulated 82 = .ok (.iconst 2, 1) := by decide +kernel
theorem d_F_commitSimulated_83 : decode c_F_commitSimulated 83 = .ok (.iload_n 1, 1) := by decide +kernel
theorem d_F_commitSimulated_84 : decode c_F_commitSimulated 84 = .ok (.invokevirtual 48, 3) := by decide +kernel
theorem d_F_commitSimulated_87 : decode c_F_commitSimulated 87 = .ok (.aload_n 2, 1) := by decide +kernel
theorem d_F_commitSimulated_88 : decode c_F_commitSimulated 88 = .ok (.aload_n 0, 1) := by decide +kernel
theorem d_F_commitSimulated_89 : decode c_F_commitSimulated 89 = .ok (.getfield 30, 3) := by decide +kernel
theorem d_F_commitSimulated_92 : decode c_F_commitSimulated 92 = .ok (.iconst 3, 1) := by decide +kernel
theorem d_F_commitSimulated_93 : decode c_F_commitSimulated 93 = .ok (.iload 4, 2) := by decide +kernel
theorem d_F_commitSimulated_95 : decode c_F_commitSimulated 95 = .ok (.invokevirtual 48, 3) := by decide +kernel
theorem d_F_commitSimulated_98 : decode c_F_commitSimulated 98 = .ok (.return_, 1) := by decide +kernel

set_option maxHeartbeats 4000000 in
set_option maxRecDepth 100000 in
/-- commitSimulated(c, t, d) -/
theorem k_commitSimF (l : Launch) (D : va_G) (ca : Nat → ClassId) (n : Nat) (ad : Nat → Nat) (ct : Nat → va_E) (hI : dI n ad) (j jb je np : Nat) (bf ef : Nat → Nat) (nm tl wt no : Nat) (hj : j < n) (hjb : jb < n) (hje : je < n) (hnp : np = 1 ∨ np = 2) (c0 : ct j = .inr (4, [.int 1, .ref (ad jb), .ref (ad je), .int (nI nm), .int (nI tl), .int (nI wt), .int (nI no)])) (c1 : ct jb = .inl (ca 0, np, .inl (zf bf))) (c2 : ct je = .inl (ca 0, np, .inl (zf ef))) (hbf : ∀ i, i < np → bf i < 10007) (hef : ∀ i, i < np → ef i < 10007) (jt kt : Nat) (f : Nat → Nat) (hjt : jt < n) (hkt : kt < n) (c3 : ct jt = .inr (5, [.ref (ad kt)])) (c4 : ct kt = .inl (ca 0, 32, .inl (zf f))) (jd st : Nat) (hjd : jd < n) (c5 : ct jd = .inr (6, [.int (nI st)])) (hnm : nm < 8) (c9 : Nat) (hc9 : c9 < 5003) : Met l y_F_commitSimulated (Cond.code y_F_commitSimulated c_F_commitSimulated 7 none :: zT) ({ frames := 2, cells := 0, slots := 0, locals := 80 }) (va_Pc [.ref (ad j), .int (nI c9), .ref (ad jt), .ref (ad jd)] (dw D ca n ad ct)) (va_Qv (fun ct1 => ct1 = va_up (va_up ct jd (.inr (6, [.int (nI (dr st))]))) kt (.inl (ca 0, 32, .inl (zf (ftS bf ef f nm np c9 (dv (dr st))))))) (dw D ca n ad) (dA n ad)) 0 0 (dA n ad) := by
  refine Met.ofW (cc := c_F_commitSimulated) (maxL := 7) (ret := none) (by decide) rfl ?_
  intro p e s m args below meth c s₁ B hml hv
  obtain ⟨rfl, hN, hK, hP⟩ := hv
  have hx := B.exec
  have hb := B.bytes
  have hr := B.returns
  have hts0 := atoms_spec (ws := Cond.code y_F_commitSimulated c_F_commitSimulated 7 none :: zT) B.pre
  have hts := fun w h => hts0 w (List.mem_cons_of_mem _ h)
  have hown : s.vm.findClass R_F = some m.cls := findClass_of_methodNamed B.named
  have hlocks := B.notSynchronized
  have hD := dI_D hI
  have hS : va_S (dA n ad) s.heap s.heap [] := va_S.rf
  have hAA : ∀ q, dA n ad q → dA n ad q := fun _ h => h
  have hl := lv_entry ([.ref (ad j), .int (nI c9), .ref (ad jt), .ref (ad jd)]) (n := 7) (Nat.le_of_ble_eq_true rfl)
  rw [lg_entry_eq]
  generalize (lg_sl ([.ref (ad j), .int (nI c9), .ref (ad jt), .ref (ad jd)]) ++ List.replicate (7 - (lg_sl ([.ref (ad j), .int (nI c9), .ref (ad jt), .ref (ad jd)])).length) Slot.unset).toArray = ls at hl ⊢
  have hl : lv_has ls 7 [(0, .ref (ad j)), (1, .int (nI c9)), (2, .ref (ad jt)), (3, .ref (ad jd))] := hl
  rcases hnp with rfl | rfl
  · skip
    refine lv_aload_n hx hb d_F_commitSimulated_0 rfl (lv_at hl 3 rfl) ?_
    refine dd_ci (index := 39) (k := 0) (As := []) (rest := []) ⟨hx, hb, hml, hown, hts⟩ (k_draw l D ca n ad ct hI jd st hjd c5) mk_F_39 mo_G_draw me_G_G_draw_G mi_G mc_G_draw (by decide +kernel) ⟨rfl, rfl⟩ ⟨by decide, by decide⟩ (dd_pre hN hK hP (j := jd) hjd c5 (r := (R_G, T_G, 1)) rfl) hS hAA rfl hl.1 rfl (Nat.le_of_ble_eq_true rfl) d_F_commitSimulated_1 ⟨Nat.zero_le _, Nat.zero_le _⟩ (fun r ct1 H locs hct1 hP hS => ?_)
    obtain ⟨hr1, hctx⟩ := hct1
    obtain ⟨d0, hd0⟩ : ∃ d, dr st = d := ⟨_, rfl⟩
    rw [hd0] at hr1 hctx
    obtain ⟨x0, hx0⟩ : ∃ x, dv d0 = x := ⟨_, rfl⟩
    have hx1 : x0 < 5003 := by rw [← hx0]; exact dv_lt _
    rw [hx0] at hr1
    subst hr1
    have hct1 := hctx
    have c0 : ct1 j = .inr (4, [.int 1, .ref (ad jb), .ref (ad je), .int (nI nm), .int (nI tl), .int (nI wt), .int (nI no)]) := by rw [hct1]; exact (va_up_ne _ _ (fun q => absurd ((c0.symm.trans (congrArg ct q)).trans c5) (by simp))).trans c0
    have c1 : ct1 jb = .inl (ca 0, 1, .inl (zf bf)) := by rw [hct1]; exact (va_up_ne _ _ (fun q => absurd ((c1.symm.trans (congrArg ct q)).trans c5) (by simp))).trans c1
    have c2 : ct1 je = .inl (ca 0, 1, .inl (zf ef)) := by rw [hct1]; exact (va_up_ne _ _ (fun q => absurd ((c2.symm.trans (congrArg ct q)).trans c5) (by simp))).trans c2
    have c3 : ct1 jt = .inr (5, [.ref (ad kt)]) := by rw [hct1]; exact (va_up_ne _ _ (fun q => absurd ((c3.symm.trans (congrArg ct q)).trans c5) (by simp))).trans c3
    have c4 : ct1 kt = .inl (ca 0, 32, .inl (zf f)) := by rw [hct1]; exact (va_up_ne _ _ (fun q => absurd ((c4.symm.trans (congrArg ct q)).trans c5) (by simp))).trans c4
    have c5 : ct1 jd = .inr (6, [.int (nI d0)]) := by rw [hct1]; exact va_up_self _ _ _
    refine lv_istore (lv' := [(4, .int (nI x0)), (0, .ref (ad j)), (1, .int (nI c9)), (2, .ref (ad jt)), (3, .ref (ad jd))]) hx hb d_F_commitSimulated_4 hl (by decide) rfl (fun ls hl => ?_)
    refine lv_iconst (v := 0) hx hb d_F_commitSimulated_6 rfl ?_
    refine lv_istore (lv' := [(5, .int 0), (4, .int (nI x0)), (0, .ref (ad j)), (1, .int (nI c9)), (2, .ref (ad jt)), (3, .ref (ad jd))]) hx hb d_F_commitSimulated_7 hl (by decide) rfl (fun ls hl => ?_)
    have hl : lv_has ls 7 [(5, .int 0), (4, .int (nI x0)), (0, .ref (ad j)), (1, .int (nI c9)), (2, .ref (ad jt)), (3, .ref (ad jd))] := hl
    refine lv_iload hx hb d_F_commitSimulated_9 (lv_at hl 0 rfl) ?_
    refine lv_aload_n hx hb d_F_commitSimulated_11 rfl (lv_at hl 2 rfl) ?_
    refine zz_get (j := j) (ci := 4) (C := R_F) (T := T_F) (N := 7) hx hb hts in_F hown hK hP hj c0 rfl 1 (by decide) (hts _ mf_F_9) (fun _ h => h) (v := .ref (ad jb)) rfl d_F_commitSimulated_12 ?_
    refine zz_alen hx hb hK hP (j := jb) hjb (t0 := 0) (by decide) c1 d_F_commitSimulated_15 ?_
    refine lv_icmp_ge (tgt := 77) hx hb d_F_commitSimulated_16 rfl (fun h16 => absurd h16 (by decide)) (fun h16 => ?_)
    refine lv_aload_n hx hb d_F_commitSimulated_19 rfl (lv_at hl 2 rfl) ?_
    refine zz_get (j := j) (ci := 4) (C := R_F) (T := T_F) (N := 7) hx hb hts in_F hown hK hP hj c0 rfl 1 (by decide) (hts _ mf_F_9) (fun _ h => h) (v := .ref (ad jb)) rfl d_F_commitSimulated_20 ?_
    refine lv_iload hx hb d_F_commitSimulated_23 (lv_at hl 0 rfl) ?_
    refine dd_ald hx hb hK hP (j := jb) hjb c1 (0) rfl (by omega) (by decide) (bf 0) (rfl) d_F_commitSimulated_25 ?_
    refine lv_iload hx hb d_F_commitSimulated_26 (lv_at hl 1 rfl) ?_
    refine lv_sipush (v := 10007) hx hb d_F_commitSimulated_28 rfl ?_
    refine zz_cSN (index := 18) (n := 3) (As := [.int (nI (bf 0)), .int (nI x0), .int 10007]) (rest := []) ⟨hx, hb, hml, hown, hts⟩ (k_raise l (bf 0) x0 10007 (hbf _ (by decide)) (by decide) (by decide) (by omega)) hN mk_F_18 ms_D_raise mi_D mc_D_raise (by decide +kernel) ⟨rfl, rfl⟩ ⟨by decide, by decide⟩ preEq rfl hl.1 rfl (Nat.le_of_ble_eq_true rfl) d_F_commitSimulated_31 ⟨Nat.zero_le _, Nat.zero_le _⟩ ?_
    refine lv_aload_n hx hb d_F_commitSimulated_34 rfl (lv_at hl 2 rfl) ?_
    refine zz_get (j := j) (ci := 4) (C := R_F) (T := T_F) (N := 7) hx hb hts in_F hown hK hP hj c0 rfl 2 (by decide) (hts _ mf_F_15) (fun _ h => h) (v := .ref (ad je)) rfl d_F_commitSimulated_35 ?_
    refine lv_iload hx hb d_F_commitSimulated_38 (lv_at hl 0 rfl) ?_
    refine dd_ald hx hb hK hP (j := je) hje c2 (0) rfl (by omega) (by decide) (ef 0) (rfl) d_F_commitSimulated_40 ?_
    refine lv_sipush (v := 5003) hx hb d_F_commitSimulated_41 rfl ?_
    refine lv_iload_n hx hb d_F_commitSimulated_44 rfl (lv_at hl 3 rfl) ?_
    refine lv_isub hx hb d_F_commitSimulated_45 ?_
    refine zz_as (y := nI (5003 - c9)) (pk_sub (a := 5003) (b := c9) (by omega)) ?_
    refine lv_sipush (v := 10007) hx hb d_F_commitSimulated_46 rfl ?_
    refine zz_cSN (index := 18) (n := 3) (As := [.int (nI (ef 0)), .int (nI (5003 - c9)), .int 10007]) (rest := [.int (nI (bf 0 ^ x0 % 10007))]) ⟨hx, hb, hml, hown, hts⟩ (k_raise l (ef 0) (5003 - c9) 10007 (hef _ (by decide)) (by decide) (by decide) (by omega)) hN mk_F_18 ms_D_raise mi_D mc_D_raise (by decide +kernel) ⟨rfl, rfl⟩ ⟨by decide, by decide⟩ preEq rfl hl.1 rfl (Nat.le_of_ble_eq_true rfl) d_F_commitSimulated_49 ⟨Nat.zero_le _, Nat.zero_le _⟩ ?_
    refine lv_imul hx hb d_F_commitSimulated_52 ?_
    refine zz_as (y := nI ((bf 0 ^ x0 % 10007) * (ef 0 ^ (5003 - c9) % 10007))) (pk_mul (bf 0 ^ x0 % 10007) (ef 0 ^ (5003 - c9) % 10007)) ?_
    refine lv_sipush (v := 10007) hx hb d_F_commitSimulated_53 rfl ?_
    refine lv_irem hx hb d_F_commitSimulated_56 (by decide) ?_
    refine zz_as (y := nI (cvS (bf 0) (ef 0) c9 x0)) (pk_rem (d := 10007) (zn_prod (Nat.mod_lt _ (by decide)) (Nat.mod_lt _ (by decide)) (by decide)) (by decide) (by decide)) ?_
    obtain ⟨v0, hv0⟩ : ∃ v, cvS (bf 0) (ef 0) c9 x0 = v := ⟨_, rfl⟩
    refine zz_as (y := nI v0) (congrArg nI hv0) ?_
    refine lv_istore (lv' := [(6, .int (nI v0)), (5, .int 0), (4, .int (nI x0)), (0, .ref (ad j)), (1, .int (nI c9)), (2, .ref (ad jt)), (3, .ref (ad jd))]) hx hb d_F_commitSimulated_57 hl (by decide) rfl (fun ls hl => ?_)
    refine lv_aload_n hx hb d_F_commitSimulated_59 rfl (lv_at hl 5 rfl) ?_
    refine lv_aload_n hx hb d_F_commitSimulated_60 rfl (lv_at hl 3 rfl) ?_
    refine zz_get (j := j) (ci := 4) (C := R_F) (T := T_F) (N := 7) hx hb hts in_F hown hK hP hj c0 rfl 3 (by decide) (hts _ mf_F_30) (fun _ h => h) (v := .int (nI nm)) rfl d_F_commitSimulated_61 ?_
    refine lv_iload hx hb d_F_commitSimulated_64 (lv_at hl 1 rfl) ?_
    refine lv_iload hx hb d_F_commitSimulated_66 (lv_at hl 0 rfl) ?_
    refine dd_cv (index := 48) (k := 3) (As := [.int (nI nm), .int 0, .int (nI v0)]) (rest := []) ⟨hx, hb, hml, hown, hts⟩ (k_set l D ca n ad ct1 hI jt kt (f) hjt hkt c3 c4 nm 0 (v0) (by omega)) mk_F_48 mo_T_set me_T_T_set_T mi_T mc_T_set (by decide +kernel) ⟨rfl, rfl⟩ ⟨by decide, by decide⟩ (dd_pre hN hK hP (j := jt) hjt c3 (r := (R_T, T_T, 1)) rfl) hS hAA rfl hl.1 rfl (Nat.le_of_ble_eq_true rfl) d_F_commitSimulated_68 ⟨Nat.zero_le _, Nat.zero_le _⟩ (fun ct2 H locs hct2 hP hS => ?_)
    have c0 : ct2 j = .inr (4, [.int 1, .ref (ad jb), .ref (ad je), .int (nI nm), .int (nI tl), .int (nI wt), .int (nI no)]) := by rw [hct2]; exact (va_up_ne _ _ (fun q => absurd ((c0.symm.trans (congrArg ct1 q)).trans c4) (by simp))).trans c0
    have c1 : ct2 jb = .inl (ca 0, 1, .inl (zf bf)) := by rw [hct2]; exact (va_up_ne _ _ (fun q => absurd ((c1.symm.trans (congrArg ct1 q)).trans c4) (by simp))).trans c1
    have c2 : ct2 je = .inl (ca 0, 1, .inl (zf ef)) := by rw [hct2]; exact (va_up_ne _ _ (fun q => absurd ((c2.symm.trans (congrArg ct1 q)).trans c4) (by simp))).trans c2
    have c3 : ct2 jt = .inr (5, [.ref (ad kt)]) := by rw [hct2]; exact (va_up_ne _ _ (fun q => absurd ((c3.symm.trans (congrArg ct1 q)).trans c4) (by simp))).trans c3
    have c5 : ct2 jd = .inr (6, [.int (nI d0)]) := by rw [hct2]; exact (va_up_ne _ _ (fun q => absurd ((c5.symm.trans (congrArg ct1 q)).trans c4) (by simp))).trans c5
    have c4 : ct2 kt = .inl (ca 0, 32, .inl (zf (va_up f (nm * 4 + 0) v0))) := by rw [hct2]; exact va_up_self _ _ _
    refine lv_iinc (k := 1) (v := nI (0 + 1)) (lv' := [(5, .int (nI (0 + 1))), (6, .int (nI v0)), (4, .int (nI x0)), (0, .ref (ad j)), (1, .int (nI c9)), (2, .ref (ad jt)), (3, .ref (ad jd))]) hx hb d_F_commitSimulated_71 hl rfl (nI_1 _) (by decide) rfl (fun ls hl => ?_)
    refine lv_goto (tgt := 9) hx hb d_F_commitSimulated_74 rfl ?_
    have hl : lv_has ls 7 [(5, .int 1), (6, .int (nI v0)), (4, .int (nI x0)), (0, .ref (ad j)), (1, .int (nI c9)), (2, .ref (ad jt)), (3, .ref (ad jd))] := hl
    refine lv_iload hx hb d_F_commitSimulated_9 (lv_at hl 0 rfl) ?_
    refine lv_aload_n hx hb d_F_commitSimulated_11 rfl (lv_at hl 3 rfl) ?_
    refine zz_get (j := j) (ci := 4) (C := R_F) (T := T_F) (N := 7) hx hb hts in_F hown hK hP hj c0 rfl 1 (by decide) (hts _ mf_F_9) (fun _ h => h) (v := .ref (ad jb)) rfl d_F_commitSimulated_12 ?_
    refine zz_alen hx hb hK hP (j := jb) hjb (t0 := 0) (by decide) c1 d_F_commitSimulated_15 ?_
    refine lv_icmp_ge (tgt := 77) hx hb d_F_commitSimulated_16 rfl (fun h16 => ?_) (fun h16 => absurd (by decide) h16)
    refine lv_aload_n hx hb d_F_commitSimulated_77 rfl (lv_at hl 5 rfl) ?_
    refine lv_aload_n hx hb d_F_commitSimulated_78 rfl (lv_at hl 3 rfl) ?_
    refine zz_get (j := j) (ci := 4) (C := R_F) (T := T_F) (N := 7) hx hb hts in_F hown hK hP hj c0 rfl 3 (by decide) (hts _ mf_F_30) (fun _ h => h) (v := .int (nI nm)) rfl d_F_commitSimulated_79 ?_
    refine lv_iconst (v := 2) hx hb d_F_commitSimulated_82 rfl ?_
    refine lv_iload_n hx hb d_F_commitSimulated_83 rfl (lv_at hl 4 rfl) ?_
    refine dd_cv (index := 48) (k := 3) (As := [.int (nI nm), .int 2, .int (nI c9)]) (rest := []) ⟨hx, hb, hml, hown, hts⟩ (k_set l D ca n ad ct2 hI jt kt (va_up f (nm * 4 + 0) v0) hjt hkt c3 c4 nm 2 (c9) (by omega)) mk_F_48 mo_T_set me_T_T_set_T mi_T mc_T_set (by decide +kernel) ⟨rfl, rfl⟩ ⟨by decide, by decide⟩ (dd_pre hN hK hP (j := jt) hjt c3 (r := (R_T, T_T, 1)) rfl) hS hAA rfl hl.1 rfl (Nat.le_of_ble_eq_true rfl) d_F_commitSimulated_84 ⟨Nat.zero_le _, Nat.zero_le _⟩ (fun ct3 H locs hct3 hP hS => ?_)
    have c0 : ct3 j = .inr (4, [.int 1, .ref (ad jb), .ref (ad je), .int (nI nm), .int (nI tl), .int (nI wt), .int (nI no)]) := by rw [hct3]; exact (va_up_ne _ _ (fun q => absurd ((c0.symm.trans (congrArg ct2 q)).trans c4) (by simp))).trans c0
    have c1 : ct3 jb = .inl (ca 0, 1, .inl (zf bf)) := by rw [hct3]; exact (va_up_ne _ _ (fun q => absurd ((c1.symm.trans (congrArg ct2 q)).trans c4) (by simp))).trans c1
    have c2 : ct3 je = .inl (ca 0, 1, .inl (zf ef)) := by rw [hct3]; exact (va_up_ne _ _ (fun q => absurd ((c2.symm.trans (congrArg ct2 q)).trans c4) (by simp))).trans c2
    have c3 : ct3 jt = .inr (5, [.ref (ad kt)]) := by rw [hct3]; exact (va_up_ne _ _ (fun q => absurd ((c3.symm.trans (congrArg ct2 q)).trans c4) (by simp))).trans c3
    have c5 : ct3 jd = .inr (6, [.int (nI d0)]) := by rw [hct3]; exact (va_up_ne _ _ (fun q => absurd ((c5.symm.trans (congrArg ct2 q)).trans c4) (by simp))).trans c5
    have c4 : ct3 kt = .inl (ca 0, 32, .inl (zf (va_up (va_up f (nm * 4 + 0) v0) (nm * 4 + 2) c9))) := by rw [hct3]; exact va_up_self _ _ _
    refine lv_aload_n hx hb d_F_commitSimulated_87 rfl (lv_at hl 5 rfl) ?_
    refine lv_aload_n hx hb d_F_commitSimulated_88 rfl (lv_at hl 3 rfl) ?_
    refine zz_get (j := j) (ci := 4) (C := R_F) (T := T_F) (N := 7) hx hb hts in_F hown hK hP hj c0 rfl 3 (by decide) (hts _ mf_F_30) (fun _ h => h) (v := .int (nI nm)) rfl d_F_commitSimulated_89 ?_
    refine lv_iconst (v := 3) hx hb d_F_commitSimulated_92 rfl ?_
    refine lv_iload hx hb d_F_commitSimulated_93 (lv_at hl 2 rfl) ?_
    refine dd_cv (index := 48) (k := 3) (As := [.int (nI nm), .int 3, .int (nI x0)]) (rest := []) ⟨hx, hb, hml, hown, hts⟩ (k_set l D ca n ad ct3 hI jt kt (va_up (va_up f (nm * 4 + 0) v0) (nm * 4 + 2) c9) hjt hkt c3 c4 nm 3 (x0) (by omega)) mk_F_48 mo_T_set me_T_T_set_T mi_T mc_T_set (by decide +kernel) ⟨rfl, rfl⟩ ⟨by decide, by decide⟩ (dd_pre hN hK hP (j := jt) hjt c3 (r := (R_T, T_T, 1)) rfl) hS hAA rfl hl.1 rfl (Nat.le_of_ble_eq_true rfl) d_F_commitSimulated_95 ⟨Nat.zero_le _, Nat.zero_le _⟩ (fun ct4 H locs hct4 hP hS => ?_)
    have c0 : ct4 j = .inr (4, [.int 1, .ref (ad jb), .ref (ad je), .int (nI nm), .int (nI tl), .int (nI wt), .int (nI no)]) := by rw [hct4]; exact (va_up_ne _ _ (fun q => absurd ((c0.symm.trans (congrArg ct3 q)).trans c4) (by simp))).trans c0
    have c1 : ct4 jb = .inl (ca 0, 1, .inl (zf bf)) := by rw [hct4]; exact (va_up_ne _ _ (fun q => absurd ((c1.symm.trans (congrArg ct3 q)).trans c4) (by simp))).trans c1
    have c2 : ct4 je = .inl (ca 0, 1, .inl (zf ef)) := by rw [hct4]; exact (va_up_ne _ _ (fun q => absurd ((c2.symm.trans (congrArg ct3 q)).trans c4) (by simp))).trans c2
    have c3 : ct4 jt = .inr (5, [.ref (ad kt)]) := by rw [hct4]; exact (va_up_ne _ _ (fun q => absurd ((c3.symm.trans (congrArg ct3 q)).trans c4) (by simp))).trans c3
    have c5 : ct4 jd = .inr (6, [.int (nI d0)]) := by rw [hct4]; exact (va_up_ne _ _ (fun q => absurd ((c5.symm.trans (congrArg ct3 q)).trans c4) (by simp))).trans c5
    have c4 : ct4 kt = .inl (ca 0, 32, .inl (zf (va_up (va_up (va_up f (nm * 4 + 0) v0) (nm * 4 + 2) c9) (nm * 4 + 3) x0))) := by rw [hct4]; exact va_up_self _ _ _
    exact W.vret hx hb hr (fun t ht hW => ⟨⟨ct4, rfl, by rw [hct4, hct3, hct2, bx_uu, bx_uu, hct1, hd0, hx0, ← hv0]; rfl, zN_warm hW hN, va_K.moved hW.alike hK, by rw [ht]; exact hP⟩, hS.F ht⟩) hS.2.2 d_F_commitSimulated_98
  · skip
    refine lv_aload_n hx hb d_F_commitSimulated_0 rfl (lv_at hl 3 rfl) ?_
    refine dd_ci (index := 39) (k := 0) (As := []) (rest := []) ⟨hx, hb, hml, hown, hts⟩ (k_draw l D ca n ad ct hI jd st hjd c5) mk_F_39 mo_G_draw me_G_G_draw_G mi_G mc_G_draw (by decide +kernel) ⟨rfl, rfl⟩ ⟨by decide, by decide⟩ (dd_pre hN hK hP (j := jd) hjd c5 (r := (R_G, T_G, 1)) rfl) hS hAA rfl hl.1 rfl (Nat.le_of_ble_eq_true rfl) d_F_commitSimulated_1 ⟨Nat.zero_le _, Nat.zero_le _⟩ (fun r ct1 H locs hct1 hP hS => ?_)
    obtain ⟨hr1, hctx⟩ := hct1
    obtain ⟨d0, hd0⟩ : ∃ d, dr st = d := ⟨_, rfl⟩
    rw [hd0] at hr1 hctx
    obtain ⟨x0, hx0⟩ : ∃ x, dv d0 = x := ⟨_, rfl⟩
    have hx1 : x0 < 5003 := by rw [← hx0]; exact dv_lt _
    rw [hx0] at hr1
    subst hr1
    have hct1 := hctx
    have c0 : ct1 j = .inr (4, [.int 1, .ref (ad jb), .ref (ad je), .int (nI nm), .int (nI tl), .int (nI wt), .int (nI no)]) := by rw [hct1]; exact (va_up_ne _ _ (fun q => absurd ((c0.symm.trans (congrArg ct q)).trans c5) (by simp))).trans c0
    have c1 : ct1 jb = .inl (ca 0, 2, .inl (zf bf)) := by rw [hct1]; exact (va_up_ne _ _ (fun q => absurd ((c1.symm.trans (congrArg ct q)).trans c5) (by simp))).trans c1
    have c2 : ct1 je = .inl (ca 0, 2, .inl (zf ef)) := by rw [hct1]; exact (va_up_ne _ _ (fun q => absurd ((c2.symm.trans (congrArg ct q)).trans c5) (by simp))).trans c2
    have c3 : ct1 jt = .inr (5, [.ref (ad kt)]) := by rw [hct1]; exact (va_up_ne _ _ (fun q => absurd ((c3.symm.trans (congrArg ct q)).trans c5) (by simp))).trans c3
    have c4 : ct1 kt = .inl (ca 0, 32, .inl (zf f)) := by rw [hct1]; exact (va_up_ne _ _ (fun q => absurd ((c4.symm.trans (congrArg ct q)).trans c5) (by simp))).trans c4
    have c5 : ct1 jd = .inr (6, [.int (nI d0)]) := by rw [hct1]; exact va_up_self _ _ _
    refine lv_istore (lv' := [(4, .int (nI x0)), (0, .ref (ad j)), (1, .int (nI c9)), (2, .ref (ad jt)), (3, .ref (ad jd))]) hx hb d_F_commitSimulated_4 hl (by decide) rfl (fun ls hl => ?_)
    refine lv_iconst (v := 0) hx hb d_F_commitSimulated_6 rfl ?_
    refine lv_istore (lv' := [(5, .int 0), (4, .int (nI x0)), (0, .ref (ad j)), (1, .int (nI c9)), (2, .ref (ad jt)), (3, .ref (ad jd))]) hx hb d_F_commitSimulated_7 hl (by decide) rfl (fun ls hl => ?_)
    have hl : lv_has ls 7 [(5, .int 0), (4, .int (nI x0)), (0, .ref (ad j)), (1, .int (nI c9)), (2, .ref (ad jt)), (3, .ref (ad jd))] := hl
    refine lv_iload hx hb d_F_commitSimulated_9 (lv_at hl 0 rfl) ?_
    refine lv_aload_n hx hb d_F_commitSimulated_11 rfl (lv_at hl 2 rfl) ?_
    refine zz_get (j := j) (ci := 4) (C := R_F) (T := T_F) (N := 7) hx hb hts in_F hown hK hP hj c0 rfl 1 (by decide) (hts _ mf_F_9) (fun _ h => h) (v := .ref (ad jb)) rfl d_F_commitSimulated_12 ?_
    refine zz_alen hx hb hK hP (j := jb) hjb (t0 := 0) (by decide) c1 d_F_commitSimulated_15 ?_
    refine lv_icmp_ge (tgt := 77) hx hb d_F_commitSimulated_16 rfl (fun h16 => absurd h16 (by decide)) (fun h16 => ?_)
    refine lv_aload_n hx hb d_F_commitSimulated_19 rfl (lv_at hl 2 rfl) ?_
    refine zz_get (j := j) (ci := 4) (C := R_F) (T := T_F) (N := 7) hx hb hts in_F hown hK hP hj c0 rfl 1 (by decide) (hts _ mf_F_9) (fun _ h => h) (v := .ref (ad jb)) rfl d_F_commitSimulated_20 ?_
    refine lv_iload hx hb d_F_commitSimulated_23 (lv_at hl 0 rfl) ?_
    refine dd_ald hx hb hK hP (j := jb) hjb c1 (0) rfl (by omega) (by decide) (bf 0) (rfl) d_F_commitSimulated_25 ?_
    refine lv_iload hx hb d_F_commitSimulated_26 (lv_at hl 1 rfl) ?_
    refine lv_sipush (v := 10007) hx hb d_F_commitSimulated_28 rfl ?_
    refine zz_cSN (index := 18) (n := 3) (As := [.int (nI (bf 0)), .int (nI x0), .int 10007]) (rest := []) ⟨hx, hb, hml, hown, hts⟩ (k_raise l (bf 0) x0 10007 (hbf _ (by decide)) (by decide) (by decide) (by omega)) hN mk_F_18 ms_D_raise mi_D mc_D_raise (by decide +kernel) ⟨rfl, rfl⟩ ⟨by decide, by decide⟩ preEq rfl hl.1 rfl (Nat.le_of_ble_eq_true rfl) d_F_commitSimulated_31 ⟨Nat.zero_le _, Nat.zero_le _⟩ ?_
    refine lv_aload_n hx hb d_F_commitSimulated_34 rfl (lv_at hl 2 rfl) ?_
    refine zz_get (j := j) (ci := 4) (C := R_F) (T := T_F) (N := 7) hx hb hts in_F hown hK hP hj c0 rfl 2 (by decide) (hts _ mf_F_15) (fun _ h => h) (v := .ref (ad je)) rfl d_F_commitSimulated_35 ?_
    refine lv_iload hx hb d_F_commitSimulated_38 (lv_at hl 0 rfl) ?_
    refine dd_ald hx hb hK hP (j := je) hje c2 (0) rfl (by omega) (by decide) (ef 0) (rfl) d_F_commitSimulated_40 ?_
    refine lv_sipush (v := 5003) hx hb d_F_commitSimulated_41 rfl ?_
    refine lv_iload_n hx hb d_F_commitSimulated_44 rfl (lv_at hl 3 rfl) ?_
    refine lv_isub hx hb d_F_commitSimulated_45 ?_
    refine zz_as (y := nI (5003 - c9)) (pk_sub (a := 5003) (b := c9) (by omega)) ?_
    refine lv_sipush (v := 10007) hx hb d_F_commitSimulated_46 rfl ?_
    refine zz_cSN (index := 18) (n := 3) (As := [.int (nI (ef 0)), .int (nI (5003 - c9)), .int 10007]) (rest := [.int (nI (bf 0 ^ x0 % 10007))]) ⟨hx, hb, hml, hown, hts⟩ (k_raise l (ef 0) (5003 - c9) 10007 (hef _ (by decide)) (by decide) (by decide) (by omega)) hN mk_F_18 ms_D_raise mi_D mc_D_raise (by decide +kernel) ⟨rfl, rfl⟩ ⟨by decide, by decide⟩ preEq rfl hl.1 rfl (Nat.le_of_ble_eq_true rfl) d_F_commitSimulated_49 ⟨Nat.zero_le _, Nat.zero_le _⟩ ?_
    refine lv_imul hx hb d_F_commitSimulated_52 ?_
    refine zz_as (y := nI ((bf 0 ^ x0 % 10007) * (ef 0 ^ (5003 - c9) % 10007))) (pk_mul (bf 0 ^ x0 % 10007) (ef 0 ^ (5003 - c9) % 10007)) ?_
    refine lv_sipush (v := 10007) hx hb d_F_commitSimulated_53 rfl ?_
    refine lv_irem hx hb d_F_commitSimulated_56 (by decide) ?_
    refine zz_as (y := nI (cvS (bf 0) (ef 0) c9 x0)) (pk_rem (d := 10007) (zn_prod (Nat.mod_lt _ (by decide)) (Nat.mod_lt _ (by decide)) (by decide)) (by decide) (by decide)) ?_
    obtain ⟨v0, hv0⟩ : ∃ v, cvS (bf 0) (ef 0) c9 x0 = v := ⟨_, rfl⟩
    refine zz_as (y := nI v0) (congrArg nI hv0) ?_
    refine lv_istore (lv' := [(6, .int (nI v0)), (5, .int 0), (4, .int (nI x0)), (0, .ref (ad j)), (1, .int (nI c9)), (2, .ref (ad jt)), (3, .ref (ad jd))]) hx hb d_F_commitSimulated_57 hl (by decide) rfl (fun ls hl => ?_)
    refine lv_aload_n hx hb d_F_commitSimulated_59 rfl (lv_at hl 5 rfl) ?_
    refine lv_aload_n hx hb d_F_commitSimulated_60 rfl (lv_at hl 3 rfl) ?_
    refine zz_get (j := j) (ci := 4) (C := R_F) (T := T_F) (N := 7) hx hb hts in_F hown hK hP hj c0 rfl 3 (by decide) (hts _ mf_F_30) (fun _ h => h) (v := .int (nI nm)) rfl d_F_commitSimulated_61 ?_
    refine lv_iload hx hb d_F_commitSimulated_64 (lv_at hl 1 rfl) ?_
    refine lv_iload hx hb d_F_commitSimulated_66 (lv_at hl 0 rfl) ?_
    refine dd_cv (index := 48) (k := 3) (As := [.int (nI nm), .int 0, .int (nI v0)]) (rest := []) ⟨hx, hb, hml, hown, hts⟩ (k_set l D ca n ad ct1 hI jt kt (f) hjt hkt c3 c4 nm 0 (v0) (by omega)) mk_F_48 mo_T_set me_T_T_set_T mi_T mc_T_set (by decide +kernel) ⟨rfl, rfl⟩ ⟨by decide, by decide⟩ (dd_pre hN hK hP (j := jt) hjt c3 (r := (R_T, T_T, 1)) rfl) hS hAA rfl hl.1 rfl (Nat.le_of_ble_eq_true rfl) d_F_commitSimulated_68 ⟨Nat.zero_le _, Nat.zero_le _⟩ (fun ct2 H locs hct2 hP hS => ?_)
    have c0 : ct2 j = .inr (4, [.int 1, .ref (ad jb), .ref (ad je), .int (nI nm), .int (nI tl), .int (nI wt), .int (nI no)]) := by rw [hct2]; exact (va_up_ne _ _ (fun q => absurd ((c0.symm.trans (congrArg ct1 q)).trans c4) (by simp))).trans c0
    have c1 : ct2 jb = .inl (ca 0, 2, .inl (zf bf)) := by rw [hct2]; exact (va_up_ne _ _ (fun q => absurd ((c1.symm.trans (congrArg ct1 q)).trans c4) (by simp))).trans c1
    have c2 : ct2 je = .inl (ca 0, 2, .inl (zf ef)) := by rw [hct2]; exact (va_up_ne _ _ (fun q => absurd ((c2.symm.trans (congrArg ct1 q)).trans c4) (by simp))).trans c2
    have c3 : ct2 jt = .inr (5, [.ref (ad kt)]) := by rw [hct2]; exact (va_up_ne _ _ (fun q => absurd ((c3.symm.trans (congrArg ct1 q)).trans c4) (by simp))).trans c3
    have c5 : ct2 jd = .inr (6, [.int (nI d0)]) := by rw [hct2]; exact (va_up_ne _ _ (fun q => absurd ((c5.symm.trans (congrArg ct1 q)).trans c4) (by simp))).trans c5
    have c4 : ct2 kt = .inl (ca 0, 32, .inl (zf (va_up f (nm * 4 + 0) v0))) := by rw [hct2]; exact va_up_self _ _ _
    refine lv_iinc (k := 1) (v := nI (0 + 1)) (lv' := [(5, .int (nI (0 + 1))), (6, .int (nI v0)), (4, .int (nI x0)), (0, .ref (ad j)), (1, .int (nI c9)), (2, .ref (ad jt)), (3, .ref (ad jd))]) hx hb d_F_commitSimulated_71 hl rfl (nI_1 _) (by decide) rfl (fun ls hl => ?_)
    refine lv_goto (tgt := 9) hx hb d_F_commitSimulated_74 rfl ?_
    have hl : lv_has ls 7 [(5, .int 1), (6, .int (nI v0)), (4, .int (nI x0)), (0, .ref (ad j)), (1, .int (nI c9)), (2, .ref (ad jt)), (3, .ref (ad jd))] := hl
    refine lv_iload hx hb d_F_commitSimulated_9 (lv_at hl 0 rfl) ?_
    refine lv_aload_n hx hb d_F_commitSimulated_11 rfl (lv_at hl 3 rfl) ?_
    refine zz_get (j := j) (ci := 4) (C := R_F) (T := T_F) (N := 7) hx hb hts in_F hown hK hP hj c0 rfl 1 (by decide) (hts _ mf_F_9) (fun _ h => h) (v := .ref (ad jb)) rfl d_F_commitSimulated_12 ?_
    refine zz_alen hx hb hK hP (j := jb) hjb (t0 := 0) (by decide) c1 d_F_commitSimulated_15 ?_
    refine lv_icmp_ge (tgt := 77) hx hb d_F_commitSimulated_16 rfl (fun h16 => absurd h16 (by decide)) (fun h16 => ?_)
    refine lv_aload_n hx hb d_F_commitSimulated_19 rfl (lv_at hl 3 rfl) ?_
    refine zz_get (j := j) (ci := 4) (C := R_F) (T := T_F) (N := 7) hx hb hts in_F hown hK hP hj c0 rfl 1 (by decide) (hts _ mf_F_9) (fun _ h => h) (v := .ref (ad jb)) rfl d_F_commitSimulated_20 ?_
    refine lv_iload hx hb d_F_commitSimulated_23 (lv_at hl 0 rfl) ?_
    refine dd_ald hx hb hK hP (j := jb) hjb c1 (1) rfl (by omega) (by decide) (bf 1) (rfl) d_F_commitSimulated_25 ?_
    refine lv_iload hx hb d_F_commitSimulated_26 (lv_at hl 2 rfl) ?_
    refine lv_sipush (v := 10007) hx hb d_F_commitSimulated_28 rfl ?_
    refine zz_cSN (index := 18) (n := 3) (As := [.int (nI (bf 1)), .int (nI x0), .int 10007]) (rest := []) ⟨hx, hb, hml, hown, hts⟩ (k_raise l (bf 1) x0 10007 (hbf _ (by decide)) (by decide) (by decide) (by omega)) hN mk_F_18 ms_D_raise mi_D mc_D_raise (by decide +kernel) ⟨rfl, rfl⟩ ⟨by decide, by decide⟩ preEq rfl hl.1 rfl (Nat.le_of_ble_eq_true rfl) d_F_commitSimulated_31 ⟨Nat.zero_le _, Nat.zero_le _⟩ ?_
    refine lv_aload_n hx hb d_F_commitSimulated_34 rfl (lv_at hl 3 rfl) ?_
    refine zz_get (j := j) (ci := 4) (C := R_F) (T := T_F) (N := 7) hx hb hts in_F hown hK hP hj c0 rfl 2 (by decide) (hts _ mf_F_15) (fun _ h => h) (v := .ref (ad je)) rfl d_F_commitSimulated_35 ?_
    refine lv_iload hx hb d_F_commitSimulated_38 (lv_at hl 0 rfl) ?_
    refine dd_ald hx hb hK hP (j := je) hje c2 (1) rfl (by omega) (by decide) (ef 1) (rfl) d_F_commitSimulated_40 ?_
    refine lv_sipush (v := 5003) hx hb d_F_commitSimulated_41 rfl ?_
    refine lv_iload_n hx hb d_F_commitSimulated_44 rfl (lv_at hl 4 rfl) ?_
    refine lv_isub hx hb d_F_commitSimulated_45 ?_
    refine zz_as (y := nI (5003 - c9)) (pk_sub (a := 5003) (b := c9) (by omega)) ?_
    refine lv_sipush (v := 10007) hx hb d_F_commitSimulated_46 rfl ?_
    refine zz_cSN (index := 18) (n := 3) (As := [.int (nI (ef 1)), .int (nI (5003 - c9)), .int 10007]) (rest := [.int (nI (bf 1 ^ x0 % 10007))]) ⟨hx, hb, hml, hown, hts⟩ (k_raise l (ef 1) (5003 - c9) 10007 (hef _ (by decide)) (by decide) (by decide) (by omega)) hN mk_F_18 ms_D_raise mi_D mc_D_raise (by decide +kernel) ⟨rfl, rfl⟩ ⟨by decide, by decide⟩ preEq rfl hl.1 rfl (Nat.le_of_ble_eq_true rfl) d_F_commitSimulated_49 ⟨Nat.zero_le _, Nat.zero_le _⟩ ?_
    refine lv_imul hx hb d_F_commitSimulated_52 ?_
    refine zz_as (y := nI ((bf 1 ^ x0 % 10007) * (ef 1 ^ (5003 - c9) % 10007))) (pk_mul (bf 1 ^ x0 % 10007) (ef 1 ^ (5003 - c9) % 10007)) ?_
    refine lv_sipush (v := 10007) hx hb d_F_commitSimulated_53 rfl ?_
    refine lv_irem hx hb d_F_commitSimulated_56 (by decide) ?_
    refine zz_as (y := nI (cvS (bf 1) (ef 1) c9 x0)) (pk_rem (d := 10007) (zn_prod (Nat.mod_lt _ (by decide)) (Nat.mod_lt _ (by decide)) (by decide)) (by decide) (by decide)) ?_
    obtain ⟨v1, hv1⟩ : ∃ v, cvS (bf 1) (ef 1) c9 x0 = v := ⟨_, rfl⟩
    refine zz_as (y := nI v1) (congrArg nI hv1) ?_
    refine lv_istore (lv' := [(6, .int (nI v1)), (5, .int 1), (4, .int (nI x0)), (0, .ref (ad j)), (1, .int (nI c9)), (2, .ref (ad jt)), (3, .ref (ad jd))]) hx hb d_F_commitSimulated_57 hl (by decide) rfl (fun ls hl => ?_)
    refine lv_aload_n hx hb d_F_commitSimulated_59 rfl (lv_at hl 5 rfl) ?_
    refine lv_aload_n hx hb d_F_commitSimulated_60 rfl (lv_at hl 3 rfl) ?_
    refine zz_get (j := j) (ci := 4) (C := R_F) (T := T_F) (N := 7) hx hb hts in_F hown hK hP hj c0 rfl 3 (by decide) (hts _ mf_F_30) (fun _ h => h) (v := .int (nI nm)) rfl d_F_commitSimulated_61 ?_
    refine lv_iload hx hb d_F_commitSimulated_64 (lv_at hl 1 rfl) ?_
    refine lv_iload hx hb d_F_commitSimulated_66 (lv_at hl 0 rfl) ?_
    refine dd_cv (index := 48) (k := 3) (As := [.int (nI nm), .int 1, .int (nI v1)]) (rest := []) ⟨hx, hb, hml, hown, hts⟩ (k_set l D ca n ad ct2 hI jt kt (va_up f (nm * 4 + 0) v0) hjt hkt c3 c4 nm 1 (v1) (by omega)) mk_F_48 mo_T_set me_T_T_set_T mi_T mc_T_set (by decide +kernel) ⟨rfl, rfl⟩ ⟨by decide, by decide⟩ (dd_pre hN hK hP (j := jt) hjt c3 (r := (R_T, T_T, 1)) rfl) hS hAA rfl hl.1 rfl (Nat.le_of_ble_eq_true rfl) d_F_commitSimulated_68 ⟨Nat.zero_le _, Nat.zero_le _⟩ (fun ct3 H locs hct3 hP hS => ?_)
    have c0 : ct3 j = .inr (4, [.int 1, .ref (ad jb), .ref (ad je), .int (nI nm), .int (nI tl), .int (nI wt), .int (nI no)]) := by rw [hct3]; exact (va_up_ne _ _ (fun q => absurd ((c0.symm.trans (congrArg ct2 q)).trans c4) (by simp))).trans c0
    have c1 : ct3 jb = .inl (ca 0, 2, .inl (zf bf)) := by rw [hct3]; exact (va_up_ne _ _ (fun q => absurd ((c1.symm.trans (congrArg ct2 q)).trans c4) (by simp))).trans c1
    have c2 : ct3 je = .inl (ca 0, 2, .inl (zf ef)) := by rw [hct3]; exact (va_up_ne _ _ (fun q => absurd ((c2.symm.trans (congrArg ct2 q)).trans c4) (by simp))).trans c2
    have c3 : ct3 jt = .inr (5, [.ref (ad kt)]) := by rw [hct3]; exact (va_up_ne _ _ (fun q => absurd ((c3.symm.trans (congrArg ct2 q)).trans c4) (by simp))).trans c3
    have c5 : ct3 jd = .inr (6, [.int (nI d0)]) := by rw [hct3]; exact (va_up_ne _ _ (fun q => absurd ((c5.symm.trans (congrArg ct2 q)).trans c4) (by simp))).trans c5
    have c4 : ct3 kt = .inl (ca 0, 32, .inl (zf (va_up (va_up f (nm * 4 + 0) v0) (nm * 4 + 1) v1))) := by rw [hct3]; exact va_up_self _ _ _
    refine lv_iinc (k := 1) (v := nI (1 + 1)) (lv' := [(5, .int (nI (1 + 1))), (6, .int (nI v1)), (4, .int (nI x0)), (0, .ref (ad j)), (1, .int (nI c9)), (2, .ref (ad jt)), (3, .ref (ad jd))]) hx hb d_F_commitSimulated_71 hl rfl (nI_1 _) (by decide) rfl (fun ls hl => ?_)
    refine lv_goto (tgt := 9) hx hb d_F_commitSimulated_74 rfl ?_
    have hl : lv_has ls 7 [(5, .int 2), (6, .int (nI v1)), (4, .int (nI x0)), (0, .ref (ad j)), (1, .int (nI c9)), (2, .ref (ad jt)), (3, .ref (ad jd))] := hl
    refine lv_iload hx hb d_F_commitSimulated_9 (lv_at hl 0 rfl) ?_
    refine lv_aload_n hx hb d_F_commitSimulated_11 rfl (lv_at hl 3 rfl) ?_
    refine zz_get (j := j) (ci := 4) (C := R_F) (T := T_F) (N := 7) hx hb hts in_F hown hK hP hj c0 rfl 1 (by decide) (hts _ mf_F_9) (fun _ h => h) (v := .ref (ad jb)) rfl d_F_commitSimulated_12 ?_
    refine zz_alen hx hb hK hP (j := jb) hjb (t0 := 0) (by decide) c1 d_F_commitSimulated_15 ?_
    refine lv_icmp_ge (tgt := 77) hx hb d_F_commitSimulated_16 rfl (fun h16 => ?_) (fun h16 => absurd (by decide) h16)
    refine lv_aload_n hx hb d_F_commitSimulated_77 rfl (lv_at hl 5 rfl) ?_
    refine lv_aload_n hx hb d_F_commitSimulated_78 rfl (lv_at hl 3 rfl) ?_
    refine zz_get (j := j) (ci := 4) (C := R_F) (T := T_F) (N := 7) hx hb hts in_F hown hK hP hj c0 rfl 3 (by decide) (hts _ mf_F_30) (fun _ h => h) (v := .int (nI nm)) rfl d_F_commitSimulated_79 ?_
    refine lv_iconst (v := 2) hx hb d_F_commitSimulated_82 rfl ?_
    refine lv_iload_n hx hb d_F_commitSimulated_83 rfl (lv_at hl 4 rfl) ?_
    refine dd_cv (index := 48) (k := 3) (As := [.int (nI nm), .int 2, .int (nI c9)]) (rest := []) ⟨hx, hb, hml, hown, hts⟩ (k_set l D ca n ad ct3 hI jt kt (va_up (va_up f (nm * 4 + 0) v0) (nm * 4 + 1) v1) hjt hkt c3 c4 nm 2 (c9) (by omega)) mk_F_48 mo_T_set me_T_T_set_T mi_T mc_T_set (by decide +kernel) ⟨rfl, rfl⟩ ⟨by decide, by decide⟩ (dd_pre hN hK hP (j := jt) hjt c3 (r := (R_T, T_T, 1)) rfl) hS hAA rfl hl.1 rfl (Nat.le_of_ble_eq_true rfl) d_F_commitSimulated_84 ⟨Nat.zero_le _, Nat.zero_le _⟩ (fun ct4 H locs hct4 hP hS => ?_)
    have c0 : ct4 j = .inr (4, [.int 1, .ref (ad jb), .ref (ad je), .int (nI nm), .int (nI tl), .int (nI wt), .int (nI no)]) := by rw [hct4]; exact (va_up_ne _ _ (fun q => absurd ((c0.symm.trans (congrArg ct3 q)).trans c4) (by simp))).trans c0
    have c1 : ct4 jb = .inl (ca 0, 2, .inl (zf bf)) := by rw [hct4]; exact (va_up_ne _ _ (fun q => absurd ((c1.symm.trans (congrArg ct3 q)).trans c4) (by simp))).trans c1
    have c2 : ct4 je = .inl (ca 0, 2, .inl (zf ef)) := by rw [hct4]; exact (va_up_ne _ _ (fun q => absurd ((c2.symm.trans (congrArg ct3 q)).trans c4) (by simp))).trans c2
    have c3 : ct4 jt = .inr (5, [.ref (ad kt)]) := by rw [hct4]; exact (va_up_ne _ _ (fun q => absurd ((c3.symm.trans (congrArg ct3 q)).trans c4) (by simp))).trans c3
    have c5 : ct4 jd = .inr (6, [.int (nI d0)]) := by rw [hct4]; exact (va_up_ne _ _ (fun q => absurd ((c5.symm.trans (congrArg ct3 q)).trans c4) (by simp))).trans c5
    have c4 : ct4 kt = .inl (ca 0, 32, .inl (zf (va_up (va_up (va_up f (nm * 4 + 0) v0) (nm * 4 + 1) v1) (nm * 4 + 2) c9))) := by rw [hct4]; exact va_up_self _ _ _
    refine lv_aload_n hx hb d_F_commitSimulated_87 rfl (lv_at hl 5 rfl) ?_
    refine lv_aload_n hx hb d_F_commitSimulated_88 rfl (lv_at hl 3 rfl) ?_
    refine zz_get (j := j) (ci := 4) (C := R_F) (T := T_F) (N := 7) hx hb hts in_F hown hK hP hj c0 rfl 3 (by decide) (hts _ mf_F_30) (fun _ h => h) (v := .int (nI nm)) rfl d_F_commitSimulated_89 ?_
    refine lv_iconst (v := 3) hx hb d_F_commitSimulated_92 rfl ?_
    refine lv_iload hx hb d_F_commitSimulated_93 (lv_at hl 2 rfl) ?_
    refine dd_cv (index := 48) (k := 3) (As := [.int (nI nm), .int 3, .int (nI x0)]) (rest := []) ⟨hx, hb, hml, hown, hts⟩ (k_set l D ca n ad ct4 hI jt kt (va_up (va_up (va_up f (nm * 4 + 0) v0) (nm * 4 + 1) v1) (nm * 4 + 2) c9) hjt hkt c3 c4 nm 3 (x0) (by omega)) mk_F_48 mo_T_set me_T_T_set_T mi_T mc_T_set (by decide +kernel) ⟨rfl, rfl⟩ ⟨by decide, by decide⟩ (dd_pre hN hK hP (j := jt) hjt c3 (r := (R_T, T_T, 1)) rfl) hS hAA rfl hl.1 rfl (Nat.le_of_ble_eq_true rfl) d_F_commitSimulated_95 ⟨Nat.zero_le _, Nat.zero_le _⟩ (fun ct5 H locs hct5 hP hS => ?_)
    have c0 : ct5 j = .inr (4, [.int 1, .ref (ad jb), .ref (ad je), .int (nI nm), .int (nI tl), .int (nI wt), .int (nI no)]) := by rw [hct5]; exact (va_up_ne _ _ (fun q => absurd ((c0.symm.trans (congrArg ct4 q)).trans c4) (by simp))).trans c0
    have c1 : ct5 jb = .inl (ca 0, 2, .inl (zf bf)) := by rw [hct5]; exact (va_up_ne _ _ (fun q => absurd ((c1.symm.trans (congrArg ct4 q)).trans c4) (by simp))).trans c1
    have c2 : ct5 je = .inl (ca 0, 2, .inl (zf ef)) := by rw [hct5]; exact (va_up_ne _ _ (fun q => absurd ((c2.symm.trans (congrArg ct4 q)).trans c4) (by simp))).trans c2
    have c3 : ct5 jt = .inr (5, [.ref (ad kt)]) := by rw [hct5]; exact (va_up_ne _ _ (fun q => absurd ((c3.symm.trans (congrArg ct4 q)).trans c4) (by simp))).trans c3
    have c5 : ct5 jd = .inr (6, [.int (nI d0)]) := by rw [hct5]; exact (va_up_ne _ _ (fun q => absurd ((c5.symm.trans (congrArg ct4 q)).trans c4) (by simp))).trans c5
    have c4 : ct5 kt = .inl (ca 0, 32, .inl (zf (va_up (va_up (va_up (va_up f (nm * 4 + 0) v0) (nm * 4 + 1) v1) (nm * 4 + 2) c9) (nm * 4 + 3) x0))) := by rw [hct5]; exact va_up_self _ _ _
    exact W.vret hx hb hr (fun t ht hW => ⟨⟨ct5, rfl, by rw [hct5, hct4, hct3, hct2, bx_uu, bx_uu, bx_uu, hct1, hd0, hx0, ← hv0, ← hv1]; rfl, zN_warm hW hN, va_K.moved hW.alike hK, by rw [ht]; exact hP⟩, hS.F ht⟩) hS.2.2 d_F_commitSimulated_98
