/-! constructors of the desk's parts -/
section DN
variable {p : Program} {l : Launch} {e : Env} {R : Room} {s : State} {m : MethodId} {args : Array Value} {below : List Frame} {meth : Method} {c : Code} {H H0 : Heap} {locs : List Loc} {cells slots pc nL n : Nat} {ls : Array Slot} {rest st0 : List Value} {cc : ByteArray} {Q : State → Prop} {A : Nat → Prop} {D : va_G} {ca : Nat → ClassId} {ad : Nat → Nat} {ct : Nat → va_E} {own : String}
theorem zz_putF (hexec : p.tables.exec = Jvm.exec) (hb : c.code = cc) {cl : List vw_C} {tys : List (ClassId × FieldType)} {own ref C : String} {T : u_T} {N ci index : Nat} {Ts : List Cond} (hts : ∀ w ∈ Ts, w.before args s = true) (hin : ∀ w ∈ u_ws C T N, w ∈ Ts) (ty0 : Nat → FieldType) (hty : ∀ k, k < N → parseFieldDescriptor (T k).2.2.1 = some (ty0 k)) (hnm : ∀ a, a < N → ∀ b, b < N → a ≠ b → (T a).2.1 ≠ (T b).2.1) (hown : s.vm.findClass own = some m.cls) (hK : va_K D cl tys s) (hP : va_P D cl (zl n ad ct) H) (hD : zD A n ad) (hS0 : va_S A H0 H locs) {j : Nat} (hj : j < n) {fs : List Value} (he : ct j = .inr (ci, fs)) (hc : cl[ci]? = some (C, T, N)) (k : Nat) (hk : k < N) (hlink : (Cond.fieldLink own index ref (T k).2.1 (T k).2.2.1).before args s = true) (hsame : ∀ x, s.fieldFound? (T k).1 (T k).2.1 (T k).2.2.1 = some x → s.fieldFound? ref (T k).2.1 (T k).2.2.1 = some x) (hfin : (T k).2.2.2 = true) (hin2 : meth.name = "<init>") (hdecl : (T k).1 = own) {ty : FieldType} {v : Value} (hd : parseFieldDescriptor (T k).2.2.1 = some ty) (hn : narrow ty v = v) (hfit : fits ty v = true) (hl : k < fs.length)
    (hdg : decode cc pc = .ok (.putfield index, 3)) (kk : ∀ (H1 : Heap) (locs1 : List Loc), va_P D cl (zl n ad (va_up ct j (.inr (ci, fs.set k v)))) H1 → va_S A H0 H1 locs1 → W p l e R s m args below meth c H1 locs1 cells slots Q (F0 m (pc + 3) ls rest)) : W p l e R s m args below meth c H locs cells slots Q (F0 m pc ls (v :: .ref (ad j) :: rest)) :=
  va_putF hexec hb hts hin ty0 hty hnm hown hK hP (zD_to hD ct) hS0 j ((zl_get hj).trans (by rw [he])) hc k hk hlink hsame hfin hin2 hdecl hd hn hfit hl hdg (fun H1 locs1 h1 _ h3 => kk H1 locs1 (by rw [zl_set] at h1; exact h1) h3)
/-- a constructor: changes the cells by post -/
theorem dd_cI {index maxL k : Nat} {b : Nat} {y : MethodName} {bytes : ByteArray} {rm : Room} {As : List Value} {post : (Nat → va_E) → Prop}
    (S : CallFix p m c cc nL s args zT own) (hM : Met l y (Cond.code y bytes maxL none :: zT) rm (va_Pc (.ref b :: As) (dw D ca n ad ct)) (va_Qv post (dw D ca n ad) (dA n ad)) 0 0 (dA n ad))
    (w1 : Cond.methodLink own index y ∈ zT) (w2 : Cond.instanceMethod y ∈ zT) (w3 : Cond.initialized y.cls ∈ zT) (w4 : Cond.code y bytes maxL none ∈ zT)
    (hd : y.cls ≠ "java/lang/invoke/MethodHandle" ∧ y.cls ≠ "java/lang/invoke/VarHandle" ∧ (parseMethodDescriptor y.desc).map (fun d => d.parameters.length) = some k) (hnm : y.name = "<init>")
    (hz : rm.cells = 0 ∧ rm.slots = 0) (hR : rm.frames + 1 ≤ R.frames ∧ 8 + (maxL + 11) + rm.locals ≤ R.locals) (hN : zN s) (hK : va_K D zC (zty ca) s) (hP : va_P D zC (zl n ad ct) H) (hS : va_S A H0 H locs) (hA : ∀ q, dA n ad q → A q) (hn : As.length = k) (hsize : ls.size = nL)
    (hstack : st0 = As.reverse ++ .ref b :: rest) (hW : (rest.map fun v => v.category).sum ≤ 8) (hdg : decode cc pc = .ok (.invokespecial index, 3)) (hf : cells ≤ R.cells ∧ slots ≤ R.slots)
    (kk : ∀ (ct1 : Nat → va_E) (H1 : Heap) (locs1 : List Loc), post ct1 → va_P D zC (zl n ad ct1) H1 → va_S A H0 H1 locs1 → W p l e R s m args below meth c H1 locs1 cells slots Q (F0 m (pc + 3) ls rest)) : W p l e R s m args below meth c H locs cells slots Q (F0 m pc ls st0) := by
  subst hstack
  exact va_callv (va_runI S hM ⟨zz_cb S.2.2.2.2 w1 w3 w4 hd hz hR, hnm, S.2.2.2.2 _ w2⟩ (dd_preS hN hK hP) rfl hn hsize rfl (lv_room hW) hdg ⟨hf.1, hf.2⟩) hS (fun q _ h => hA q h) hA (fun u t H1 locs1 ht hvm hpost hB _ _ hS1 => kk u H1 locs1 hpost (by rw [← ht]; exact hB.2.2) hS1)
/-- a node's size -/
def szN (tt : Nat → Nat → Nat) (k : Nat) : Nat := if tt 0 k = 0 then 1 else tt 7 k
theorem dd_size (hexec : p.tables.exec = Jvm.exec) (hb : c.code = cc) (hts : ∀ w ∈ zT, w.before args s = true) (hown : s.vm.findClass own = some m.cls) (hK : va_K D zC (zty ca) s) (hP : va_P D zC (zl n ad ct) H) {j : Nat} (hj : j < n) {tt dd : Nat → Nat → Nat} {k : Nat} (ht : tt 0 k ≤ 2) (he : ct j = ndC ad tt dd k) {index : Nat} (w : Cond.fieldLink own index "SigmaDesk$Statement" "size" "I" ∈ zT) (hdg : decode cc pc = .ok (.getfield index, 3))
    (kk : W p l e R s m args below meth c H locs cells slots Q (F0 m (pc + 3) ls (.int (nI (szN tt k)) :: rest))) : W p l e R s m args below meth c H locs cells slots Q (F0 m pc ls (.ref (ad j) :: rest)) := by
  rcases (show tt 0 k = 0 ∨ tt 0 k = 1 ∨ tt 0 k = 2 by omega) with h0 | h0 | h0
  · refine zz_get (j := j) (ci := 4) (C := R_F) (T := T_F) (N := 7) hexec hb hts in_F hown hK hP hj (he.trans (ndC_0 h0)) rfl 0 (by decide) (hts _ w) (fun _ h => h) (v := .int (nI (szN tt k))) (by unfold szN; rw [if_pos h0]; rfl) hdg kk
  · refine zz_get (j := j) (ci := 2) (C := R_A) (T := T_A) (N := 3) hexec hb hts in_A hown hK hP hj (he.trans (ndC_1 h0)) rfl 2 (by decide) (hts _ w) (fun _ h => h) (v := .int (nI (szN tt k))) (by unfold szN; rw [if_neg (by omega)]; rfl) hdg kk
  · refine zz_get (j := j) (ci := 3) (C := R_O) (T := T_O) (N := 5) hexec hb hts in_O hown hK hP hj (he.trans (ndC_2 h0)) rfl 2 (by decide) (hts _ w) (fun _ h => h) (v := .int (nI (szN tt k))) (by unfold szN; rw [if_neg (by omega)]; rfl) hdg kk
end DN

theorem d_S_init_0 : decode c_S_init 0 = .ok (.aload_n 0, 1) := by decide +kernel
theorem d_S_init_1 : decode c_S_init 1 = .ok (.invokespecial 1, 3) := by decide +kernel
theorem d_S_init_4 : decode c_S_init 4 = .ok (.aload_n 0, 1) := by decide +kernel
theorem d_S_init_5 : decode c_S_init 5 = .ok (.iload_n 1, 1) := by decide +kernel
theorem d_S_init_6 : decode c_S_init 6 = .ok (.putfield 7, 3) := by decide +kernel
theorem d_S_init_9 : decode c_S_init 9 = .ok (.return_, 1) := by decide +kernel

set_option maxHeartbeats 4000000 in
set_option maxRecDepth 100000 in
/-- Statement(v) of a F -/
theorem k_initS_F (l : Launch) (D : va_G) (ca : Nat → ClassId) (n : Nat) (ad : Nat → Nat) (ct : Nat → va_E) (hI : dI n ad) (j v : Nat) (hj : j < n) (c0 : ct j = .inr (4, [.int 0, .null, .null, .int 0, .int 0, .int 0, .int 0])) : Met l y_S_init (Cond.code y_S_init c_S_init 2 none :: zT) ({ frames := 2, cells := 0, slots := 0, locals := 80 }) (va_Pc [.ref (ad j), .int (nI v)] (dw D ca n ad ct)) (va_Qv (fun ct1 => ct1 = va_up ct j (.inr (4, [.int (nI v), .null, .null, .int 0, .int 0, .int 0, .int 0]))) (dw D ca n ad) (dA n ad)) 0 0 (dA n ad) := by
  refine Met.ofW (cc := c_S_init) (maxL := 2) (ret := none) (by decide) rfl ?_
  intro p e s m args below meth c s₁ B hml hv
  obtain ⟨rfl, hN, hK, hP⟩ := hv
  have hx := B.exec
  have hb := B.bytes
  have hr := B.returns
  have hts0 := atoms_spec (ws := Cond.code y_S_init c_S_init 2 none :: zT) B.pre
  have hts := fun w h => hts0 w (List.mem_cons_of_mem _ h)
  have hown : s.vm.findClass R_S = some m.cls := findClass_of_methodNamed B.named
  have hlocks := B.notSynchronized
  have hD := dI_D hI
  have hS : va_S (dA n ad) s.heap s.heap [] := va_S.rf
  have hAA : ∀ q, dA n ad q → dA n ad q := fun _ h => h
  have hin : meth.name = "<init>" := (name_of_methodNamed B.named B.method).1
  have hl := lv_entry ([.ref (ad j), .int (nI v)]) (n := 2) (Nat.le_of_ble_eq_true rfl)
  rw [lg_entry_eq]
  generalize (lg_sl ([.ref (ad j), .int (nI v)]) ++ List.replicate (2 - (lg_sl ([.ref (ad j), .int (nI v)])).length) Slot.unset).toArray = ls at hl ⊢
  have hl : lv_has ls 2 [(0, .ref (ad j)), (1, .int (nI v))] := hl
  refine lv_aload_n hx hb d_S_init_0 rfl (lv_at hl 0 rfl) ?_
  refine W.objInit hx hb hown (hts _ mk_S_1) (hts _ mo_B_init) (hts _ mc_B_init) rfl (by rw [hml]; exact hl.1) rfl d_S_init_1 (Nat.le_of_ble_eq_true rfl) (Nat.le_of_ble_eq_true rfl) ?_
  refine W.eq (g2 := F0 m 4 ls []) rfl ?_
  refine lv_aload_n hx hb d_S_init_4 rfl (lv_at hl 0 rfl) ?_
  refine lv_iload_n hx hb d_S_init_5 rfl (lv_at hl 1 rfl) ?_
  refine zz_putF (j := j) (ci := 4) (C := R_F) (T := T_F) (N := 7) (v := .int (nI v)) (ty := ft_F 0) hx hb hts in_F ft_F ft_F_ok fn_F hown hK hP hD hS hj c0 rfl 0 (by decide) (hts _ mf_S_7) (fun _ h => h) rfl hin rfl (ft_F_ok 0 (by decide)) rfl rfl (Nat.le_of_ble_eq_true rfl) d_S_init_6 (fun H locs hP hS => ?_)
  have hP : va_P D zC (zl n ad (va_up ct j (.inr (4, [.int (nI v), .null, .null, .int 0, .int 0, .int 0, .int 0])))) H := hP
  obtain ⟨ct1, hct1⟩ : ∃ c, c = va_up ct j (.inr (4, [.int (nI v), .null, .null, .int 0, .int 0, .int 0, .int 0])) := ⟨_, rfl⟩
  rw [← hct1] at hP
  have c0 : ct1 j = .inr (4, [.int (nI v), .null, .null, .int 0, .int 0, .int 0, .int 0]) := by rw [hct1]; exact va_up_self _ _ _
  exact W.vret hx hb hr (fun t ht hW => ⟨⟨ct1, rfl, hct1, zN_warm hW hN, va_K.moved hW.alike hK, by rw [ht]; exact hP⟩, hS.F ht⟩) hS.2.2 d_S_init_9

set_option maxHeartbeats 4000000 in
set_option maxRecDepth 100000 in
/-- Statement(v) of a A -/
theorem k_initS_A (l : Launch) (D : va_G) (ca : Nat → ClassId) (n : Nat) (ad : Nat → Nat) (ct : Nat → va_E) (hI : dI n ad) (j v : Nat) (hj : j < n) (c0 : ct j = .inr (2, [.null, .null, .int 0])) : Met l y_S_init (Cond.code y_S_init c_S_init 2 none :: zT) ({ frames := 2, cells := 0, slots := 0, locals := 80 }) (va_Pc [.ref (ad j), .int (nI v)] (dw D ca n ad ct)) (va_Qv (fun ct1 => ct1 = va_up ct j (.inr (2, [.null, .null, .int (nI v)]))) (dw D ca n ad) (dA n ad)) 0 0 (dA n ad) := by
  refine Met.ofW (cc := c_S_init) (maxL := 2) (ret := none) (by decide) rfl ?_
  intro p e s m args below meth c s₁ B hml hv
  obtain ⟨rfl, hN, hK, hP⟩ := hv
  have hx := B.exec
  have hb := B.bytes
  have hr := B.returns
  have hts0 := atoms_spec (ws := Cond.code y_S_init c_S_init 2 none :: zT) B.pre
  have hts := fun w h => hts0 w (List.mem_cons_of_mem _ h)
  have hown : s.vm.findClass R_S = some m.cls := findClass_of_methodNamed B.named
  have hlocks := B.notSynchronized
  have hD := dI_D hI
  have hS : va_S (dA n ad) s.heap s.heap [] := va_S.rf
  have hAA : ∀ q, dA n ad q → dA n ad q := fun _ h => h
  have hin : meth.name = "<init>" := (name_of_methodNamed B.named B.method).1
  have hl := lv_entry ([.ref (ad j), .int (nI v)]) (n := 2) (Nat.le_of_ble_eq_true rfl)
  rw [lg_entry_eq]
  generalize (lg_sl ([.ref (ad j), .int (nI v)]) ++ List.replicate (2 - (lg_sl ([.ref (ad j), .int (nI v)])).length) Slot.unset).toArray = ls at hl ⊢
  have hl : lv_has ls 2 [(0, .ref (ad j)), (1, .int (nI v))] := hl
  refine lv_aload_n hx hb d_S_init_0 rfl (lv_at hl 0 rfl) ?_
  refine W.objInit hx hb hown (hts _ mk_S_1) (hts _ mo_B_init) (hts _ mc_B_init) rfl (by rw [hml]; exact hl.1) rfl d_S_init_1 (Nat.le_of_ble_eq_true rfl) (Nat.le_of_ble_eq_true rfl) ?_
  refine W.eq (g2 := F0 m 4 ls []) rfl ?_
  refine lv_aload_n hx hb d_S_init_4 rfl (lv_at hl 0 rfl) ?_
  refine lv_iload_n hx hb d_S_init_5 rfl (lv_at hl 1 rfl) ?_
  refine zz_putF (j := j) (ci := 2) (C := R_A) (T := T_A) (N := 3) (v := .int (nI v)) (ty := ft_A 2) hx hb hts in_A ft_A ft_A_ok fn_A hown hK hP hD hS hj c0 rfl 2 (by decide) (hts _ mf_S_7) (fun _ h => h) rfl hin rfl (ft_A_ok 2 (by decide)) rfl rfl (Nat.le_of_ble_eq_true rfl) d_S_init_6 (fun H locs hP hS => ?_)
  have hP : va_P D zC (zl n ad (va_up ct j (.inr (2, [.null, .null, .int (nI v)])))) H := hP
  obtain ⟨ct1, hct1⟩ : ∃ c, c = va_up ct j (.inr (2, [.null, .null, .int (nI v)])) := ⟨_, rfl⟩
  rw [← hct1] at hP
  have c0 : ct1 j = .inr (2, [.null, .null, .int (nI v)]) := by rw [hct1]; exact va_up_self _ _ _
  exact W.vret hx hb hr (fun t ht hW => ⟨⟨ct1, rfl, hct1, zN_warm hW hN, va_K.moved hW.alike hK, by rw [ht]; exact hP⟩, hS.F ht⟩) hS.2.2 d_S_init_9

set_option maxHeartbeats 4000000 in
set_option maxRecDepth 100000 in
/-- Statement(v) of a O -/
theorem k_initS_O (l : Launch) (D : va_G) (ca : Nat → ClassId) (n : Nat) (ad : Nat → Nat) (ct : Nat → va_E) (hI : dI n ad) (j v : Nat) (hj : j < n) (c0 : ct j = .inr (3, [.null, .null, .int 0, .int 0, .int 0])) : Met l y_S_init (Cond.code y_S_init c_S_init 2 none :: zT) ({ frames := 2, cells := 0, slots := 0, locals := 80 }) (va_Pc [.ref (ad j), .int (nI v)] (dw D ca n ad ct)) (va_Qv (fun ct1 => ct1 = va_up ct j (.inr (3, [.null, .null, .int (nI v), .int 0, .int 0]))) (dw D ca n ad) (dA n ad)) 0 0 (dA n ad) := by
  refine Met.ofW (cc := c_S_init) (maxL := 2) (ret := none) (by decide) rfl ?_
  intro p e s m args below meth c s₁ B hml hv
  obtain ⟨rfl, hN, hK, hP⟩ := hv
  have hx := B.exec
  have hb := B.bytes
  have hr := B.returns
  have hts0 := atoms_spec (ws := Cond.code y_S_init c_S_init 2 none :: zT) B.pre
  have hts := fun w h => hts0 w (List.mem_cons_of_mem _ h)
  have hown : s.vm.findClass R_S = some m.cls := findClass_of_methodNamed B.named
  have hlocks := B.notSynchronized
  have hD := dI_D hI
  have hS : va_S (dA n ad) s.heap s.heap [] := va_S.rf
  have hAA : ∀ q, dA n ad q → dA n ad q := fun _ h => h
  have hin : meth.name = "<init>" := (name_of_methodNamed B.named B.method).1
  have hl := lv_entry ([.ref (ad j), .int (nI v)]) (n := 2) (Nat.le_of_ble_eq_true rfl)
  rw [lg_entry_eq]
  generalize (lg_sl ([.ref (ad j), .int (nI v)]) ++ List.replicate (2 - (lg_sl ([.ref (ad j), .int (nI v)])).length) Slot.unset).toArray = ls at hl ⊢
  have hl : lv_has ls 2 [(0, .ref (ad j)), (1, .int (nI v))] := hl
  refine lv_aload_n hx hb d_S_init_0 rfl (lv_at hl 0 rfl) ?_
  refine W.objInit hx hb hown (hts _ mk_S_1) (hts _ mo_B_init) (hts _ mc_B_init) rfl (by rw [hml]; exact hl.1) rfl d_S_init_1 (Nat.le_of_ble_eq_true rfl) (Nat.le_of_ble_eq_true rfl) ?_
  refine W.eq (g2 := F0 m 4 ls []) rfl ?_
  refine lv_aload_n hx hb d_S_init_4 rfl (lv_at hl 0 rfl) ?_
  refine lv_iload_n hx hb d_S_init_5 rfl (lv_at hl 1 rfl) ?_
  refine zz_putF (j := j) (ci := 3) (C := R_O) (T := T_O) (N := 5) (v := .int (nI v)) (ty := ft_O 2) hx hb hts in_O ft_O ft_O_ok fn_O hown hK hP hD hS hj c0 rfl 2 (by decide) (hts _ mf_S_7) (fun _ h => h) rfl hin rfl (ft_O_ok 2 (by decide)) rfl rfl (Nat.le_of_ble_eq_true rfl) d_S_init_6 (fun H locs hP hS => ?_)
  have hP : va_P D zC (zl n ad (va_up ct j (.inr (3, [.null, .null, .int (nI v), .int 0, .int 0])))) H := hP
  obtain ⟨ct1, hct1⟩ : ∃ c, c = va_up ct j (.inr (3, [.null, .null, .int (nI v), .int 0, .int 0])) := ⟨_, rfl⟩
  rw [← hct1] at hP
  have c0 : ct1 j = .inr (3, [.null, .null, .int (nI v), .int 0, .int 0]) := by rw [hct1]; exact va_up_self _ _ _
  exact W.vret hx hb hr (fun t ht hW => ⟨⟨ct1, rfl, hct1, zN_warm hW hN, va_K.moved hW.alike hK, by rw [ht]; exact hP⟩, hS.F ht⟩) hS.2.2 d_S_init_9

theorem d_F_init_0 : decode c_F_init 0 = .ok (.aload_n 0, 1) := by decide +kernel
theorem d_F_init_1 : decode c_F_init 1 = .ok (.iconst 1, 1) := by decide +kernel
theorem d_F_init_2 : decode c_F_init 2 = .ok (.invokespecial 3, 3) := by decide +kernel
theorem d_F_init_5 : decode c_F_init 5 = .ok (.aload_n 0, 1) := by decide +kernel
theorem d_F_init_6 : decode c_F_init 6 = .ok (.aload_n 1, 1) := by decide +kernel
theorem d_F_init_7 : decode c_F_init 7 = .ok (.putfield 9, 3) := by decide +kernel
theorem d_F_init_10 : decode c_F_init 10 = .ok (.aload_n 0, 1) := by decide +kernel
theorem d_F_init_11 : decode c_F_init 11 = .ok (.aload_n 2, 1) := by decide +kernel
theorem d_F_init_12 : decode c_F_init 12 = .ok (.putfield 15, 3) := by decide +kernel
theorem d_F_init_15 : decode c_F_init 15 = .ok (.return_, 1) := by decide +kernel

theorem va_up_up {α : Type} (f : Nat → α) (j : Nat) (a b : α) : va_up (va_up f j a) j b = va_up f j b := by
  funext i
  unfold va_up
  split <;> rfl

set_option maxHeartbeats 4000000 in
set_option maxRecDepth 100000 in
/-- Leaf(jb, je) -/
theorem k_initF (l : Launch) (D : va_G) (ca : Nat → ClassId) (n : Nat) (ad : Nat → Nat) (ct : Nat → va_E) (hI : dI n ad) (j jb je : Nat) (hj : j < n) (hjb : jb < n) (hje : je < n) (c0 : ct j = .inr (4, [.int 0, .null, .null, .int 0, .int 0, .int 0, .int 0])) : Met l y_F_init (Cond.code y_F_init c_F_init 3 none :: zT) ({ frames := 3, cells := 0, slots := 0, locals := 120 }) (va_Pc [.ref (ad j), .ref (ad jb), .ref (ad je)] (dw D ca n ad ct)) (va_Qv (fun ct1 => ct1 = va_up ct j (.inr (4, [.int (nI 1), .ref (ad jb), .ref (ad je), .int 0, .int 0, .int 0, .int 0]))) (dw D ca n ad) (dA n ad)) 0 0 (dA n ad) := by
  refine Met.ofW (cc := c_F_init) (maxL := 3) (ret := none) (by decide) rfl ?_
  intro p e s m args below meth c s₁ B hml hv
  obtain ⟨rfl, hN, hK, hP⟩ := hv
  have hx := B.exec
  have hb := B.bytes
  have hr := B.returns
  have hts0 := atoms_spec (ws := Cond.code y_F_init c_F_init 3 none :: zT) B.pre
  have hts := fun w h => hts0 w (List.mem_cons_of_mem _ h)
  have hown : s.vm.findClass R_F = some m.cls := findClass_of_methodNamed B.named
  have hlocks := B.notSynchronized
  have hD := dI_D hI
  have hS : va_S (dA n ad) s.heap s.heap [] := va_S.rf
  have hAA : ∀ q, dA n ad q → dA n ad q := fun _ h => h
  have hin : meth.name = "<init>" := (name_of_methodNamed B.named B.method).1
  have hl := lv_entry ([.ref (ad j), .ref (ad jb), .ref (ad je)]) (n := 3) (Nat.le_of_ble_eq_true rfl)
  rw [lg_entry_eq]
  generalize (lg_sl ([.ref (ad j), .ref (ad jb), .ref (ad je)]) ++ List.replicate (3 - (lg_sl ([.ref (ad j), .ref (ad jb), .ref (ad je)])).length) Slot.unset).toArray = ls at hl ⊢
  have hl : lv_has ls 3 [(0, .ref (ad j)), (1, .ref (ad jb)), (2, .ref (ad je))] := hl
  refine lv_aload_n hx hb d_F_init_0 rfl (lv_at hl 0 rfl) ?_
  refine lv_iconst (v := nI 1) hx hb d_F_init_1 rfl ?_
  refine dd_cI (index := 3) (k := 1) (b := ad j) (As := [.int (nI 1)]) (rest := []) ⟨hx, hb, hml, hown, hts⟩ (k_initS_F l D ca n ad ct hI j 1 hj c0) mk_F_3 mo_S_init mi_S mc_S_init (by decide +kernel) rfl ⟨rfl, rfl⟩ ⟨by decide, by decide⟩ hN hK hP hS hAA rfl hl.1 rfl (Nat.le_of_ble_eq_true rfl) d_F_init_2 ⟨Nat.zero_le _, Nat.zero_le _⟩ (fun ct1 H locs hct1 hP hS => ?_)
  have c0 : ct1 j = .inr (4, [.int (nI 1), .null, .null, .int 0, .int 0, .int 0, .int 0]) := by rw [hct1]; exact va_up_self _ _ _
  refine lv_aload_n hx hb d_F_init_5 rfl (lv_at hl 0 rfl) ?_
  refine lv_aload_n hx hb d_F_init_6 rfl (lv_at hl 1 rfl) ?_
  refine zz_putF (j := j) (ci := 4) (C := R_F) (T := T_F) (N := 7) (v := .ref (ad jb)) (ty := ft_F 1) hx hb hts in_F ft_F ft_F_ok fn_F hown hK hP hD hS hj c0 rfl 1 (by decide) (hts _ mf_F_9) (fun _ h => h) rfl hin rfl (ft_F_ok 1 (by decide)) rfl rfl (Nat.le_of_ble_eq_true rfl) d_F_init_7 (fun H locs hP hS => ?_)
  have hP : va_P D zC (zl n ad (va_up ct1 j (.inr (4, [.int (nI 1), .ref (ad jb), .null, .int 0, .int 0, .int 0, .int 0])))) H := hP
  obtain ⟨ct2, hct2⟩ : ∃ c, c = va_up ct1 j (.inr (4, [.int (nI 1), .ref (ad jb), .null, .int 0, .int 0, .int 0, .int 0])) := ⟨_, rfl⟩
  rw [← hct2] at hP
  have c0 : ct2 j = .inr (4, [.int (nI 1), .ref (ad jb), .null, .int 0, .int 0, .int 0, .int 0]) := by rw [hct2]; exact va_up_self _ _ _
  refine lv_aload_n hx hb d_F_init_10 rfl (lv_at hl 0 rfl) ?_
  refine lv_aload_n hx hb d_F_init_11 rfl (lv_at hl 2 rfl) ?_
  refine zz_putF (j := j) (ci := 4) (C := R_F) (T := T_F) (N := 7) (v := .ref (ad je)) (ty := ft_F 2) hx hb hts in_F ft_F ft_F_ok fn_F hown hK hP hD hS hj c0 rfl 2 (by decide) (hts _ mf_F_15) (fun _ h => h) rfl hin rfl (ft_F_ok 2 (by decide)) rfl rfl (Nat.le_of_ble_eq_true rfl) d_F_init_12 (fun H locs hP hS => ?_)
  have hP : va_P D zC (zl n ad (va_up ct2 j (.inr (4, [.int (nI 1), .ref (ad jb), .ref (ad je), .int 0, .int 0, .int 0, .int 0])))) H := hP
  obtain ⟨ct3, hct3⟩ : ∃ c, c = va_up ct2 j (.inr (4, [.int (nI 1), .ref (ad jb), .ref (ad je), .int 0, .int 0, .int 0, .int 0])) := ⟨_, rfl⟩
  rw [← hct3] at hP
  have c0 : ct3 j = .inr (4, [.int (nI 1), .ref (ad jb), .ref (ad je), .int 0, .int 0, .int 0, .int 0]) := by rw [hct3]; exact va_up_self _ _ _
  exact W.vret hx hb hr (fun t ht hW => ⟨⟨ct3, rfl, by rw [hct3, hct2, hct1, va_up_up, va_up_up], zN_warm hW hN, va_K.moved hW.alike hK, by rw [ht]; exact hP⟩, hS.F ht⟩) hS.2.2 d_F_init_15

theorem d_J_init_0 : decode c_J_init 0 = .ok (.aload_n 0, 1) := by decide +kernel
theorem d_J_init_1 : decode c_J_init 1 = .ok (.aload_n 1, 1) := by decide +kernel
theorem d_J_init_2 : decode c_J_init 2 = .ok (.getfield 1, 3) := by decide +kernel
theorem d_J_init_5 : decode c_J_init 5 = .ok (.aload_n 2, 1) := by decide +kernel
theorem d_J_init_6 : decode c_J_init 6 = .ok (.getfield 1, 3) := by decide +kernel
theorem d_J_init_9 : decode c_J_init 9 = .ok (.iadd, 1) := by decide +kernel
theorem d_J_init_10 : decode c_J_init 10 = .ok (.invokespecial 7, 3) := by decide +kernel
theorem d_J_init_13 : decode c_J_init 13 = .ok (.aload_n 0, 1) := by decide +kernel
theorem d_J_init_14 : decode c_J_init 14 = .ok (.aload_n 1, 1) := by decide +kernel
theorem d_J_init_15 : decode c_J_init 15 = .ok (.putfield 11, 3) := by decide +kernel
theorem d_J_init_18 : decode c_J_init 18 = .ok (.aload_n 0, 1) := by decide +kernel
theorem d_J_init_19 : decode c_J_init 19 = .ok (.aload_n 2, 1) := by decide +kernel
theorem d_J_init_20 : decode c_J_init 20 = .ok (.putfield 17, 3) := by decide +kernel
theorem d_J_init_23 : decode c_J_init 23 = .ok (.return_, 1) := by decide +kernel

set_option maxHeartbeats 4000000 in
set_option maxRecDepth 100000 in
/-- Join of A -/
theorem k_initJ_A (l : Launch) (D : va_G) (ca : Nat → ClassId) (n : Nat) (ad : Nat → Nat) (ct : Nat → va_E) (hI : dI n ad) (j jl jr kl kr : Nat) (tt dd : Nat → Nat → Nat) (hj : j < n) (hjl : jl < n) (hjr : jr < n) (tl : tt 0 kl ≤ 2) (tr : tt 0 kr ≤ 2) (cl : ct jl = ndC ad tt dd kl) (cr : ct jr = ndC ad tt dd kr) (c0 : ct j = .inr (2, [.null, .null, .int 0])) : Met l y_J_init (Cond.code y_J_init c_J_init 3 none :: zT) ({ frames := 3, cells := 0, slots := 0, locals := 120 }) (va_Pc [.ref (ad j), .ref (ad jl), .ref (ad jr)] (dw D ca n ad ct)) (va_Qv (fun ct1 => ct1 = va_up ct j (.inr (2, [.ref (ad jl), .ref (ad jr), .int (nI (szN tt kl + szN tt kr))]))) (dw D ca n ad) (dA n ad)) 0 0 (dA n ad) := by
  refine Met.ofW (cc := c_J_init) (maxL := 3) (ret := none) (by decide) rfl ?_
  intro p e s m args below meth c s₁ B hml hv
  obtain ⟨rfl, hN, hK, hP⟩ := hv
  have hx := B.exec
  have hb := B.bytes
  have hr := B.returns
  have hts0 := atoms_spec (ws := Cond.code y_J_init c_J_init 3 none :: zT) B.pre
  have hts := fun w h => hts0 w (List.mem_cons_of_mem _ h)
  have hown : s.vm.findClass R_J = some m.cls := findClass_of_methodNamed B.named
  have hlocks := B.notSynchronized
  have hD := dI_D hI
  have hS : va_S (dA n ad) s.heap s.heap [] := va_S.rf
  have hAA : ∀ q, dA n ad q → dA n ad q := fun _ h => h
  have hin : meth.name = "<init>" := (name_of_methodNamed B.named B.method).1
  have hl := lv_entry ([.ref (ad j), .ref (ad jl), .ref (ad jr)]) (n := 3) (Nat.le_of_ble_eq_true rfl)
  rw [lg_entry_eq]
  generalize (lg_sl ([.ref (ad j), .ref (ad jl), .ref (ad jr)]) ++ List.replicate (3 - (lg_sl ([.ref (ad j), .ref (ad jl), .ref (ad jr)])).length) Slot.unset).toArray = ls at hl ⊢
  have hl : lv_has ls 3 [(0, .ref (ad j)), (1, .ref (ad jl)), (2, .ref (ad jr))] := hl
  refine lv_aload_n hx hb d_J_init_0 rfl (lv_at hl 0 rfl) ?_
  refine lv_aload_n hx hb d_J_init_1 rfl (lv_at hl 1 rfl) ?_
  refine dd_size hx hb hts hown hK hP (j := jl) hjl (tt := tt) (dd := dd) (k := kl) tl cl mf_J_1 d_J_init_2 ?_
  refine lv_aload_n hx hb d_J_init_5 rfl (lv_at hl 2 rfl) ?_
  refine dd_size hx hb hts hown hK hP (j := jr) hjr (tt := tt) (dd := dd) (k := kr) tr cr mf_J_1 d_J_init_6 ?_
  refine lv_iadd hx hb d_J_init_9 ?_
  refine zz_as (y := nI ((szN tt kl) + (szN tt kr))) (nI_add (szN tt kl) (szN tt kr)) ?_
  refine dd_cI (index := 7) (k := 1) (b := ad j) (As := [.int (nI (szN tt kl + szN tt kr))]) (rest := []) ⟨hx, hb, hml, hown, hts⟩ (k_initS_A l D ca n ad ct hI j (szN tt kl + szN tt kr) hj c0) mk_J_7 mo_S_init mi_S mc_S_init (by decide +kernel) rfl ⟨rfl, rfl⟩ ⟨by decide, by decide⟩ hN hK hP hS hAA rfl hl.1 rfl (Nat.le_of_ble_eq_true rfl) d_J_init_10 ⟨Nat.zero_le _, Nat.zero_le _⟩ (fun ct1 H locs hct1 hP hS => ?_)
  have c0 : ct1 j = .inr (2, [.null, .null, .int (nI (szN tt kl + szN tt kr))]) := by rw [hct1]; exact va_up_self _ _ _
  refine lv_aload_n hx hb d_J_init_13 rfl (lv_at hl 0 rfl) ?_
  refine lv_aload_n hx hb d_J_init_14 rfl (lv_at hl 1 rfl) ?_
  refine zz_putF (j := j) (ci := 2) (C := R_A) (T := T_A) (N := 3) (v := .ref (ad jl)) (ty := ft_A 0) hx hb hts in_A ft_A ft_A_ok fn_A hown hK hP hD hS hj c0 rfl 0 (by decide) (hts _ mf_J_11) (fun _ h => h) rfl hin rfl (ft_A_ok 0 (by decide)) rfl rfl (Nat.le_of_ble_eq_true rfl) d_J_init_15 (fun H locs hP hS => ?_)
  have hP : va_P D zC (zl n ad (va_up ct1 j (.inr (2, [.ref (ad jl), .null, .int (nI (szN tt kl + szN tt kr))])))) H := hP
  obtain ⟨ct2, hct2⟩ : ∃ c, c = va_up ct1 j (.inr (2, [.ref (ad jl), .null, .int (nI (szN tt kl + szN tt kr))])) := ⟨_, rfl⟩
  rw [← hct2] at hP
  have c0 : ct2 j = .inr (2, [.ref (ad jl), .null, .int (nI (szN tt kl + szN tt kr))]) := by rw [hct2]; exact va_up_self _ _ _
  refine lv_aload_n hx hb d_J_init_18 rfl (lv_at hl 0 rfl) ?_
  refine lv_aload_n hx hb d_J_init_19 rfl (lv_at hl 2 rfl) ?_
  refine zz_putF (j := j) (ci := 2) (C := R_A) (T := T_A) (N := 3) (v := .ref (ad jr)) (ty := ft_A 1) hx hb hts in_A ft_A ft_A_ok fn_A hown hK hP hD hS hj c0 rfl 1 (by decide) (hts _ mf_J_17) (fun _ h => h) rfl hin rfl (ft_A_ok 1 (by decide)) rfl rfl (Nat.le_of_ble_eq_true rfl) d_J_init_20 (fun H locs hP hS => ?_)
  have hP : va_P D zC (zl n ad (va_up ct2 j (.inr (2, [.ref (ad jl), .ref (ad jr), .int (nI (szN tt kl + szN tt kr))])))) H := hP
  obtain ⟨ct3, hct3⟩ : ∃ c, c = va_up ct2 j (.inr (2, [.ref (ad jl), .ref (ad jr), .int (nI (szN tt kl + szN tt kr))])) := ⟨_, rfl⟩
  rw [← hct3] at hP
  have c0 : ct3 j = .inr (2, [.ref (ad jl), .ref (ad jr), .int (nI (szN tt kl + szN tt kr))]) := by rw [hct3]; exact va_up_self _ _ _
  exact W.vret hx hb hr (fun t ht hW => ⟨⟨ct3, rfl, by rw [hct3, hct2, hct1, va_up_up, va_up_up], zN_warm hW hN, va_K.moved hW.alike hK, by rw [ht]; exact hP⟩, hS.F ht⟩) hS.2.2 d_J_init_23

theorem d_A_init_0 : decode c_A_init 0 = .ok (.aload_n 0, 1) := by decide +kernel
theorem d_A_init_1 : decode c_A_init 1 = .ok (.aload_n 1, 1) := by decide +kernel
theorem d_A_init_2 : decode c_A_init 2 = .ok (.aload_n 2, 1) := by decide +kernel
theorem d_A_init_3 : decode c_A_init 3 = .ok (.invokespecial 3, 3) := by decide +kernel
theorem d_A_init_6 : decode c_A_init 6 = .ok (.return_, 1) := by decide +kernel

set_option maxHeartbeats 4000000 in
set_option maxRecDepth 100000 in
/-- A(jl, jr) -/
theorem k_initA (l : Launch) (D : va_G) (ca : Nat → ClassId) (n : Nat) (ad : Nat → Nat) (ct : Nat → va_E) (hI : dI n ad) (j jl jr kl kr : Nat) (tt dd : Nat → Nat → Nat) (hj : j < n) (hjl : jl < n) (hjr : jr < n) (tl : tt 0 kl ≤ 2) (tr : tt 0 kr ≤ 2) (cl : ct jl = ndC ad tt dd kl) (cr : ct jr = ndC ad tt dd kr) (c0 : ct j = .inr (2, [.null, .null, .int 0])) : Met l y_A_init (Cond.code y_A_init c_A_init 3 none :: zT) ({ frames := 4, cells := 0, slots := 0, locals := 160 }) (va_Pc [.ref (ad j), .ref (ad jl), .ref (ad jr)] (dw D ca n ad ct)) (va_Qv (fun ct1 => ct1 = va_up ct j (.inr (2, [.ref (ad jl), .ref (ad jr), .int (nI (szN tt kl + szN tt kr))]))) (dw D ca n ad) (dA n ad)) 0 0 (dA n ad) := by
  refine Met.ofW (cc := c_A_init) (maxL := 3) (ret := none) (by decide) rfl ?_
  intro p e s m args below meth c s₁ B hml hv
  obtain ⟨rfl, hN, hK, hP⟩ := hv
  have hx := B.exec
  have hb := B.bytes
  have hr := B.returns
  have hts0 := atoms_spec (ws := Cond.code y_A_init c_A_init 3 none :: zT) B.pre
  have hts := fun w h => hts0 w (List.mem_cons_of_mem _ h)
  have hown : s.vm.findClass R_A = some m.cls := findClass_of_methodNamed B.named
  have hlocks := B.notSynchronized
  have hD := dI_D hI
  have hS : va_S (dA n ad) s.heap s.heap [] := va_S.rf
  have hAA : ∀ q, dA n ad q → dA n ad q := fun _ h => h
  have hin : meth.name = "<init>" := (name_of_methodNamed B.named B.method).1
  have hl := lv_entry ([.ref (ad j), .ref (ad jl), .ref (ad jr)]) (n := 3) (Nat.le_of_ble_eq_true rfl)
  rw [lg_entry_eq]
  generalize (lg_sl ([.ref (ad j), .ref (ad jl), .ref (ad jr)]) ++ List.replicate (3 - (lg_sl ([.ref (ad j), .ref (ad jl), .ref (ad jr)])).length) Slot.unset).toArray = ls at hl ⊢
  have hl : lv_has ls 3 [(0, .ref (ad j)), (1, .ref (ad jl)), (2, .ref (ad jr))] := hl
  refine lv_aload_n hx hb d_A_init_0 rfl (lv_at hl 0 rfl) ?_
  refine lv_aload_n hx hb d_A_init_1 rfl (lv_at hl 1 rfl) ?_
  refine lv_aload_n hx hb d_A_init_2 rfl (lv_at hl 2 rfl) ?_
  refine dd_cI (index := 3) (k := 2) (b := ad j) (As := [.ref (ad jl), .ref (ad jr)]) (rest := []) ⟨hx, hb, hml, hown, hts⟩ (k_initJ_A l D ca n ad ct hI j jl jr kl kr tt dd hj hjl hjr tl tr cl cr c0) mk_A_3 mo_J_init mi_J mc_J_init (by decide +kernel) rfl ⟨rfl, rfl⟩ ⟨by decide, by decide⟩ hN hK hP hS hAA rfl hl.1 rfl (Nat.le_of_ble_eq_true rfl) d_A_init_3 ⟨Nat.zero_le _, Nat.zero_le _⟩ (fun ct1 H locs hct1 hP hS => ?_)
  exact W.vret hx hb hr (fun t ht hW => ⟨⟨ct1, rfl, hct1, zN_warm hW hN, va_K.moved hW.alike hK, by rw [ht]; exact hP⟩, hS.F ht⟩) hS.2.2 d_A_init_6

set_option maxHeartbeats 4000000 in
set_option maxRecDepth 100000 in
/-- Join of O -/
theorem k_initJ_O (l : Launch) (D : va_G) (ca : Nat → ClassId) (n : Nat) (ad : Nat → Nat) (ct : Nat → va_E) (hI : dI n ad) (j jl jr kl kr : Nat) (tt dd : Nat → Nat → Nat) (hj : j < n) (hjl : jl < n) (hjr : jr < n) (tl : tt 0 kl ≤ 2) (tr : tt 0 kr ≤ 2) (cl : ct jl = ndC ad tt dd kl) (cr : ct jr = ndC ad tt dd kr) (c0 : ct j = .inr (3, [.null, .null, .int 0, .int 0, .int 0])) : Met l y_J_init (Cond.code y_J_init c_J_init 3 none :: zT) ({ frames := 3, cells := 0, slots := 0, locals := 120 }) (va_Pc [.ref (ad j), .ref (ad jl), .ref (ad jr)] (dw D ca n ad ct)) (va_Qv (fun ct1 => ct1 = va_up ct j (.inr (3, [.ref (ad jl), .ref (ad jr), .int (nI (szN tt kl + szN tt kr)), .int 0, .int 0]))) (dw D ca n ad) (dA n ad)) 0 0 (dA n ad) := by
  refine Met.ofW (cc := c_J_init) (maxL := 3) (ret := none) (by decide) rfl ?_
  intro p e s m args below meth c s₁ B hml hv
  obtain ⟨rfl, hN, hK, hP⟩ := hv
  have hx := B.exec
  have hb := B.bytes
  have hr := B.returns
  have hts0 := atoms_spec (ws := Cond.code y_J_init c_J_init 3 none :: zT) B.pre
  have hts := fun w h => hts0 w (List.mem_cons_of_mem _ h)
  have hown : s.vm.findClass R_J = some m.cls := findClass_of_methodNamed B.named
  have hlocks := B.notSynchronized
  have hD := dI_D hI
  have hS : va_S (dA n ad) s.heap s.heap [] := va_S.rf
  have hAA : ∀ q, dA n ad q → dA n ad q := fun _ h => h
  have hin : meth.name = "<init>" := (name_of_methodNamed B.named B.method).1
  have hl := lv_entry ([.ref (ad j), .ref (ad jl), .ref (ad jr)]) (n := 3) (Nat.le_of_ble_eq_true rfl)
  rw [lg_entry_eq]
  generalize (lg_sl ([.ref (ad j), .ref (ad jl), .ref (ad jr)]) ++ List.replicate (3 - (lg_sl ([.ref (ad j), .ref (ad jl), .ref (ad jr)])).length) Slot.unset).toArray = ls at hl ⊢
  have hl : lv_has ls 3 [(0, .ref (ad j)), (1, .ref (ad jl)), (2, .ref (ad jr))] := hl
  refine lv_aload_n hx hb d_J_init_0 rfl (lv_at hl 0 rfl) ?_
  refine lv_aload_n hx hb d_J_init_1 rfl (lv_at hl 1 rfl) ?_
  refine dd_size hx hb hts hown hK hP (j := jl) hjl (tt := tt) (dd := dd) (k := kl) tl cl mf_J_1 d_J_init_2 ?_
  refine lv_aload_n hx hb d_J_init_5 rfl (lv_at hl 2 rfl) ?_
  refine dd_size hx hb hts hown hK hP (j := jr) hjr (tt := tt) (dd := dd) (k := kr) tr cr mf_J_1 d_J_init_6 ?_
  refine lv_iadd hx hb d_J_init_9 ?_
  refine zz_as (y := nI ((szN tt kl) + (szN tt kr))) (nI_add (szN tt kl) (szN tt kr)) ?_
  refine dd_cI (index := 7) (k := 1) (b := ad j) (As := [.int (nI (szN tt kl + szN tt kr))]) (rest := []) ⟨hx, hb, hml, hown, hts⟩ (k_initS_O l D ca n ad ct hI j (szN tt kl + szN tt kr) hj c0) mk_J_7 mo_S_init mi_S mc_S_init (by decide +kernel) rfl ⟨rfl, rfl⟩ ⟨by decide, by decide⟩ hN hK hP hS hAA rfl hl.1 rfl (Nat.le_of_ble_eq_true rfl) d_J_init_10 ⟨Nat.zero_le _, Nat.zero_le _⟩ (fun ct1 H locs hct1 hP hS => ?_)
  have c0 : ct1 j = .inr (3, [.null, .null, .int (nI (szN tt kl + szN tt kr)), .int 0, .int 0]) := by rw [hct1]; exact va_up_self _ _ _
  refine lv_aload_n hx hb d_J_init_13 rfl (lv_at hl 0 rfl) ?_
  refine lv_aload_n hx hb d_J_init_14 rfl (lv_at hl 1 rfl) ?_
  refine zz_putF (j := j) (ci := 3) (C := R_O) (T := T_O) (N := 5) (v := .ref (ad jl)) (ty := ft_O 0) hx hb hts in_O ft_O ft_O_ok fn_O hown hK hP hD hS hj c0 rfl 0 (by decide) (hts _ mf_J_11) (fun _ h => h) rfl hin rfl (ft_O_ok 0 (by decide)) rfl rfl (Nat.le_of_ble_eq_true rfl) d_J_init_15 (fun H locs hP hS => ?_)
  have hP : va_P D zC (zl n ad (va_up ct1 j (.inr (3, [.ref (ad jl), .null, .int (nI (szN tt kl + szN tt kr)), .int 0, .int 0])))) H := hP
  obtain ⟨ct2, hct2⟩ : ∃ c, c = va_up ct1 j (.inr (3, [.ref (ad jl), .null, .int (nI (szN tt kl + szN tt kr)), .int 0, .int 0])) := ⟨_, rfl⟩
  rw [← hct2] at hP
  have c0 : ct2 j = .inr (3, [.ref (ad jl), .null, .int (nI (szN tt kl + szN tt kr)), .int 0, .int 0]) := by rw [hct2]; exact va_up_self _ _ _
  refine lv_aload_n hx hb d_J_init_18 rfl (lv_at hl 0 rfl) ?_
  refine lv_aload_n hx hb d_J_init_19 rfl (lv_at hl 2 rfl) ?_
  refine zz_putF (j := j) (ci := 3) (C := R_O) (T := T_O) (N := 5) (v := .ref (ad jr)) (ty := ft_O 1) hx hb hts in_O ft_O ft_O_ok fn_O hown hK hP hD hS hj c0 rfl 1 (by decide) (hts _ mf_J_17) (fun _ h => h) rfl hin rfl (ft_O_ok 1 (by decide)) rfl rfl (Nat.le_of_ble_eq_true rfl) d_J_init_20 (fun H locs hP hS => ?_)
  have hP : va_P D zC (zl n ad (va_up ct2 j (.inr (3, [.ref (ad jl), .ref (ad jr), .int (nI (szN tt kl + szN tt kr)), .int 0, .int 0])))) H := hP
  obtain ⟨ct3, hct3⟩ : ∃ c, c = va_up ct2 j (.inr (3, [.ref (ad jl), .ref (ad jr), .int (nI (szN tt kl + szN tt kr)), .int 0, .int 0])) := ⟨_, rfl⟩
  rw [← hct3] at hP
  have c0 : ct3 j = .inr (3, [.ref (ad jl), .ref (ad jr), .int (nI (szN tt kl + szN tt kr)), .int 0, .int 0]) := by rw [hct3]; exact va_up_self _ _ _
  exact W.vret hx hb hr (fun t ht hW => ⟨⟨ct3, rfl, by rw [hct3, hct2, hct1, va_up_up, va_up_up], zN_warm hW hN, va_K.moved hW.alike hK, by rw [ht]; exact hP⟩, hS.F ht⟩) hS.2.2 d_J_init_23

theorem d_O_init_0 : decode c_O_init 0 = .ok (.aload_n 0, 1) := by decide +kernel
theorem d_O_init_1 : decode c_O_init 1 = .ok (.aload_n 1, 1) := by decide +kernel
theorem d_O_init_2 : decode c_O_init 2 = .ok (.aload_n 2, 1) := by decide +kernel
theorem d_O_init_3 : decode c_O_init 3 = .ok (.invokespecial 3, 3) := by decide +kernel
theorem d_O_init_6 : decode c_O_init 6 = .ok (.return_, 1) := by decide +kernel

set_option maxHeartbeats 4000000 in
set_option maxRecDepth 100000 in
/-- O(jl, jr) -/
theorem k_initO (l : Launch) (D : va_G) (ca : Nat → ClassId) (n : Nat) (ad : Nat → Nat) (ct : Nat → va_E) (hI : dI n ad) (j jl jr kl kr : Nat) (tt dd : Nat → Nat → Nat) (hj : j < n) (hjl : jl < n) (hjr : jr < n) (tl : tt 0 kl ≤ 2) (tr : tt 0 kr ≤ 2) (cl : ct jl = ndC ad tt dd kl) (cr : ct jr = ndC ad tt dd kr) (c0 : ct j = .inr (3, [.null, .null, .int 0, .int 0, .int 0])) : Met l y_O_init (Cond.code y_O_init c_O_init 3 none :: zT) ({ frames := 4, cells := 0, slots := 0, locals := 160 }) (va_Pc [.ref (ad j), .ref (ad jl), .ref (ad jr)] (dw D ca n ad ct)) (va_Qv (fun ct1 => ct1 = va_up ct j (.inr (3, [.ref (ad jl), .ref (ad jr), .int (nI (szN tt kl + szN tt kr)), .int 0, .int 0]))) (dw D ca n ad) (dA n ad)) 0 0 (dA n ad) := by
  refine Met.ofW (cc := c_O_init) (maxL := 3) (ret := none) (by decide) rfl ?_
  intro p e s m args below meth c s₁ B hml hv
  obtain ⟨rfl, hN, hK, hP⟩ := hv
  have hx := B.exec
  have hb := B.bytes
  have hr := B.returns
  have hts0 := atoms_spec (ws := Cond.code y_O_init c_O_init 3 none :: zT) B.pre
  have hts := fun w h => hts0 w (List.mem_cons_of_mem _ h)
  have hown : s.vm.findClass R_O = some m.cls := findClass_of_methodNamed B.named
  have hlocks := B.notSynchronized
  have hD := dI_D hI
  have hS : va_S (dA n ad) s.heap s.heap [] := va_S.rf
  have hAA : ∀ q, dA n ad q → dA n ad q := fun _ h => h
  have hin : meth.name = "<init>" := (name_of_methodNamed B.named B.method).1
  have hl := lv_entry ([.ref (ad j), .ref (ad jl), .ref (ad jr)]) (n := 3) (Nat.le_of_ble_eq_true rfl)
  rw [lg_entry_eq]
  generalize (lg_sl ([.ref (ad j), .ref (ad jl), .ref (ad jr)]) ++ List.replicate (3 - (lg_sl ([.ref (ad j), .ref (ad jl), .ref (ad jr)])).length) Slot.unset).toArray = ls at hl ⊢
  have hl : lv_has ls 3 [(0, .ref (ad j)), (1, .ref (ad jl)), (2, .ref (ad jr))] := hl
  refine lv_aload_n hx hb d_O_init_0 rfl (lv_at hl 0 rfl) ?_
  refine lv_aload_n hx hb d_O_init_1 rfl (lv_at hl 1 rfl) ?_
  refine lv_aload_n hx hb d_O_init_2 rfl (lv_at hl 2 rfl) ?_
  refine dd_cI (index := 3) (k := 2) (b := ad j) (As := [.ref (ad jl), .ref (ad jr)]) (rest := []) ⟨hx, hb, hml, hown, hts⟩ (k_initJ_O l D ca n ad ct hI j jl jr kl kr tt dd hj hjl hjr tl tr cl cr c0) mk_O_3 mo_J_init mi_J mc_J_init (by decide +kernel) rfl ⟨rfl, rfl⟩ ⟨by decide, by decide⟩ hN hK hP hS hAA rfl hl.1 rfl (Nat.le_of_ble_eq_true rfl) d_O_init_3 ⟨Nat.zero_le _, Nat.zero_le _⟩ (fun ct1 H locs hct1 hP hS => ?_)
  exact W.vret hx hb hr (fun t ht hW => ⟨⟨ct1, rfl, hct1, zN_warm hW hN, va_K.moved hW.alike hK, by rw [ht]; exact hP⟩, hS.F ht⟩) hS.2.2 d_O_init_6

theorem d_G_init_0 : decode c_G_init 0 = .ok (.aload_n 0, 1) := by decide +kernel
theorem d_G_init_1 : decode c_G_init 1 = .ok (.invokespecial 3, 3) := by decide +kernel
theorem d_G_init_4 : decode c_G_init 4 = .ok (.return_, 1) := by decide +kernel

set_option maxHeartbeats 4000000 in
set_option maxRecDepth 100000 in
/-- Drawing() -/
theorem k_initG (l : Launch) (D : va_G) (ca : Nat → ClassId) (n : Nat) (ad : Nat → Nat) (ct : Nat → va_E) (hI : dI n ad) (j : Nat) : Met l y_G_init (Cond.code y_G_init c_G_init 1 none :: zT) ({ frames := 1, cells := 0, slots := 0, locals := 40 }) (va_Pc [.ref (ad j)] (dw D ca n ad ct)) (va_Qv (fun ct1 => ct1 = ct) (dw D ca n ad) (dA n ad)) 0 0 (dA n ad) := by
  refine Met.ofW (cc := c_G_init) (maxL := 1) (ret := none) (by decide) rfl ?_
  intro p e s m args below meth c s₁ B hml hv
  obtain ⟨rfl, hN, hK, hP⟩ := hv
  have hx := B.exec
  have hb := B.bytes
  have hr := B.returns
  have hts0 := atoms_spec (ws := Cond.code y_G_init c_G_init 1 none :: zT) B.pre
  have hts := fun w h => hts0 w (List.mem_cons_of_mem _ h)
  have hown : s.vm.findClass R_G = some m.cls := findClass_of_methodNamed B.named
  have hlocks := B.notSynchronized
  have hD := dI_D hI
  have hS : va_S (dA n ad) s.heap s.heap [] := va_S.rf
  have hAA : ∀ q, dA n ad q → dA n ad q := fun _ h => h
  have hin : meth.name = "<init>" := (name_of_methodNamed B.named B.method).1
  have hl := lv_entry ([.ref (ad j)]) (n := 1) (Nat.le_of_ble_eq_true rfl)
  rw [lg_entry_eq]
  generalize (lg_sl ([.ref (ad j)]) ++ List.replicate (1 - (lg_sl ([.ref (ad j)])).length) Slot.unset).toArray = ls at hl ⊢
  have hl : lv_has ls 1 [(0, .ref (ad j))] := hl
  refine lv_aload_n hx hb d_G_init_0 rfl (lv_at hl 0 rfl) ?_
  refine W.objInit hx hb hown (hts _ mk_G_3) (hts _ mo_B_init) (hts _ mc_B_init) rfl (by rw [hml]; exact hl.1) rfl d_G_init_1 (Nat.le_of_ble_eq_true rfl) (Nat.le_of_ble_eq_true rfl) ?_
  refine W.eq (g2 := F0 m 4 ls []) rfl ?_
  exact W.vret hx hb hr (fun t ht hW => ⟨⟨ct, rfl, rfl, zN_warm hW hN, va_K.moved hW.alike hK, by rw [ht]; exact hP⟩, hS.F ht⟩) hS.2.2 d_G_init_4
