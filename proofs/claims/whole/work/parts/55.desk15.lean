/-! the constructors of the transcript and of the desk -/
theorem zD_nA {A : Nat → Prop} {n m sz : Nat} {ad ad1 : Nat → Nat} (h : zD (nA n ad sz) m ad1) (h1 : ∀ q, dA n ad q → A q) (h2 : ∀ q, sz ≤ q → A q) : zD A m ad1 := ⟨h.1, fun j hj => (h.2 j hj).elim (h1 _) (h2 _)⟩
section DX
variable {p : Program} {l : Launch} {e : Env} {R : Room} {s : State} {m : MethodId} {args : Array Value} {below : List Frame} {meth : Method} {c : Code} {H H0 : Heap} {locs : List Loc} {cells slots pc nL n : Nat} {ls : Array Slot} {rest st0 : List Value} {cc : ByteArray} {Q : State → Prop} {A : Nat → Prop} {D : va_G} {ca : Nat → ClassId} {ad : Nat → Nat} {ct : Nat → va_E} {own : String}
theorem dd_preX {As : List Value} (hN : zN s) (hK : va_K D zC (zty ca) s) (hP : va_P D zC (zl n ad ct) H) : PreS s H (va_Pc As (fun U => U.heap.size = H.size ∧ dw D ca n ad ct U)) As :=
  ⟨fun a U g mk q => ⟨q.1, q.2.1, zN_same (u := U) (U := U.calling g mk a) rfl q.2.2.1, va_K.moved (u := U) (U := U.calling g mk a) (Vm.Alike.refl U.vm) q.2.2.2.1, q.2.2.2.2⟩, fun U hU hW => ⟨rfl, by rw [hU], zN_warm hW hN, va_K.moved hW.alike hK, by rw [hU]; exact hP⟩⟩
/-- a constructor that takes new cells -/
theorem dd_cIx {index maxL k mc ms : Nat} {b : Nat} {y : MethodName} {bytes : ByteArray} {rm : Room} {As : List Value} {post : dU → Prop}
    (S : CallFix p m c cc nL s args zT own) (hM : Met l y (Cond.code y bytes maxL none :: zT) rm (va_Pc (.ref b :: As) (fun U => U.heap.size = H.size ∧ dw D ca n ad ct U)) (va_Qv post (fun u => dw D ca u.1 u.2.1 u.2.2) (nA n ad H.size)) mc ms (nA n ad H.size))
    (w1 : Cond.methodLink own index y ∈ zT) (w2 : Cond.instanceMethod y ∈ zT) (w3 : Cond.initialized y.cls ∈ zT) (w4 : Cond.code y bytes maxL none ∈ zT)
    (hd : y.cls ≠ "java/lang/invoke/MethodHandle" ∧ y.cls ≠ "java/lang/invoke/VarHandle" ∧ (parseMethodDescriptor y.desc).map (fun d => d.parameters.length) = some k) (hnm : y.name = "<init>")
    (hz : rm.cells = mc ∧ rm.slots = ms) (hR : rm.frames + 1 ≤ R.frames ∧ 8 + (maxL + 11) + rm.locals ≤ R.locals) (hN : zN s) (hK : va_K D zC (zty ca) s) (hP : va_P D zC (zl n ad ct) H) (hS : va_S A H0 H locs) (hAA : ∀ q, dA n ad q → A q) (hA : ∀ q, H0.size ≤ q → A q) (hn : As.length = k) (hsize : ls.size = nL)
    (hstack : st0 = As.reverse ++ .ref b :: rest) (hW : (rest.map fun v => v.category).sum ≤ 8) (hdg : decode cc pc = .ok (.invokespecial index, 3)) (hf : cells + mc ≤ R.cells ∧ slots + ms ≤ R.slots)
    (kk : ∀ (n1 : Nat) (ad1 : Nat → Nat) (ct1 : Nat → va_E) (H1 : Heap) (locs1 : List Loc), post (n1, ad1, ct1) → va_P D zC (zl n1 ad1 ct1) H1 → va_S A H0 H1 locs1 → (∀ q, H.size ≤ q → A q) → W p l e R s m args below meth c H1 locs1 (cells + mc) (slots + ms) Q (F0 m (pc + 3) ls rest)) : W p l e R s m args below meth c H locs cells slots Q (F0 m pc ls st0) := by
  subst hstack
  have h2 : ∀ q, H.size ≤ q → A q := fun q h => hA q (Nat.le_trans hS.1 h)
  exact va_callv (va_runI S hM ⟨zz_cb S.2.2.2.2 w1 w3 w4 hd hz hR, hnm, S.2.2.2.2 _ w2⟩ (dd_preX hN hK hP) rfl hn hsize rfl (lv_room hW) hdg ⟨hf.1, hf.2⟩) hS (fun q _ h => h.elim (hAA q) (h2 q)) (fun q h => h.elim (hAA q) (h2 q)) (fun u t H1 locs1 ht hvm hpost hB _ _ hS1 => kk u.1 u.2.1 u.2.2 H1 locs1 hpost (by rw [← ht]; exact hB.2.2) hS1 h2)
/-- a nest mate's constructor that changes the cells by post -/
theorem dd_cIN {index maxL k : Nat} {b : Nat} {host : String} {y : MethodName} {bytes : ByteArray} {rm : Room} {As : List Value} {post : (Nat → va_E) → Prop}
    (S : CallFix p m c cc nL s args zT own) (hM : Met l y (Cond.code y bytes maxL none :: zT) rm (va_Pc (.ref b :: As) (dw D ca n ad ct)) (va_Qv post (dw D ca n ad) (dA n ad)) 0 0 (dA n ad))
    (w1 : Cond.methodLinkNest own index y host ∈ lw_tbl) (w2 : Cond.instanceMethod y ∈ zT) (w3 : Cond.initialized y.cls ∈ zT) (w4 : Cond.code y bytes maxL none ∈ zT)
    (hd : y.cls ≠ "java/lang/invoke/MethodHandle" ∧ y.cls ≠ "java/lang/invoke/VarHandle" ∧ (parseMethodDescriptor y.desc).map (fun d => d.parameters.length) = some k) (hnm : y.name = "<init>")
    (hz : rm.cells = 0 ∧ rm.slots = 0) (hR : rm.frames + 1 ≤ R.frames ∧ 8 + (maxL + 11) + rm.locals ≤ R.locals) (hN : zN s) (hK : va_K D zC (zty ca) s) (hP : va_P D zC (zl n ad ct) H) (hS : va_S A H0 H locs) (hA : ∀ q, dA n ad q → A q) (hn : As.length = k) (hsize : ls.size = nL)
    (hstack : st0 = As.reverse ++ .ref b :: rest) (hW : (rest.map fun v => v.category).sum ≤ 8) (hdg : decode cc pc = .ok (.invokespecial index, 3)) (hf : cells ≤ R.cells ∧ slots ≤ R.slots)
    (kk : ∀ (ct1 : Nat → va_E) (H1 : Heap) (locs1 : List Loc), post ct1 → va_P D zC (zl n ad ct1) H1 → va_S A H0 H1 locs1 → W p l e R s m args below meth c H1 locs1 cells slots Q (F0 m (pc + 3) ls rest)) : W p l e R s m args below meth c H locs cells slots Q (F0 m pc ls st0) := by
  subst hstack
  have hts := S.2.2.2.2
  exact va_callv (va_runIN S hM ⟨va_cnB k hts (zG0 w4) rfl hz.1 hz.2 (hN _ w1 rfl) (hts _ w3) hd hR, hnm, hts _ w2⟩ (dd_preS hN hK hP) rfl hn hsize rfl (lv_room hW) hdg ⟨hf.1, hf.2⟩) hS (fun q _ h => hA q h) hA (fun u t H1 locs1 ht hvm hpost hB _ _ hS1 => kk u H1 locs1 hpost (by rw [← ht]; exact hB.2.2) hS1)
end DX

theorem d_T_init_0 : decode c_T_init 0 = .ok (.aload_n 0, 1) := by decide +kernel
theorem d_T_init_1 : decode c_T_init 1 = .ok (.invokespecial 3, 3) := by decide +kernel
theorem d_T_init_4 : decode c_T_init 4 = .ok (.aload_n 0, 1) := by decide +kernel
theorem d_T_init_5 : decode c_T_init 5 = .ok (.bipush 32, 2) := by decide +kernel
theorem d_T_init_7 : decode c_T_init 7 = .ok (.newarray .int, 2) := by decide +kernel
theorem d_T_init_9 : decode c_T_init 9 = .ok (.putfield 9, 3) := by decide +kernel
theorem d_T_init_12 : decode c_T_init 12 = .ok (.return_, 1) := by decide +kernel

set_option maxHeartbeats 4000000 in
set_option maxRecDepth 100000 in
/-- Transcript() -/
theorem k_initT (l : Launch) (D : va_G) (ca : Nat → ClassId) (n : Nat) (ad : Nat → Nat) (ct : Nat → va_E) (hI : dI n ad) (sz : Nat) (j : Nat) (hj : j < n) (c0 : ct j = .inr (5, [.null])) : Met l y_T_init (Cond.code y_T_init c_T_init 1 none :: zT) ({ frames := 1, cells := 1, slots := 32, locals := 40 }) (va_Pc [.ref (ad j)] (fun U => U.heap.size = sz ∧ dw D ca n ad ct U)) (va_Qv (S := dU) (fun u => u.1 = n + 1 ∧ (∀ j, j < n → u.2.1 j = ad j) ∧ zD (nA n ad sz) (n + 1) u.2.1 ∧ u.2.2 j = .inr (5, [.ref (u.2.1 n)]) ∧ u.2.2 n = .inl (ca 0, 32, .inl (zf (fun _ => 0))) ∧ ∀ q, q < n → q ≠ j → u.2.2 q = ct q) (fun u => dw D ca u.1 u.2.1 u.2.2) (nA n ad sz)) 1 32 (nA n ad sz) := by
  refine Met.ofW (cc := c_T_init) (maxL := 1) (ret := none) (by decide) rfl ?_
  intro p e s m args below meth c s₁ B hml hv
  obtain ⟨rfl, hsz, hN, hK, hP⟩ := hv
  have hx := B.exec
  have hb := B.bytes
  have hr := B.returns
  have hts0 := atoms_spec (ws := Cond.code y_T_init c_T_init 1 none :: zT) B.pre
  have hts := fun w h => hts0 w (List.mem_cons_of_mem _ h)
  have hown : s.vm.findClass R_T = some m.cls := findClass_of_methodNamed B.named
  have hlocks := B.notSynchronized
  subst hsz
  have hD : zD (nA n ad s.heap.size) n ad := ⟨hI, fun j hj => Or.inl ⟨j, hj, rfl⟩⟩
  have hA : ∀ q : Nat, s.heap.size ≤ q → nA n ad s.heap.size q := fun q h => Or.inr h
  have hS : va_S (nA n ad s.heap.size) s.heap s.heap [] := va_S.rf
  have hAA : ∀ q, dA n ad q → nA n ad s.heap.size q := fun _ h => Or.inl h
  have hin : meth.name = "<init>" := (name_of_methodNamed B.named B.method).1
  have hl := lv_entry ([.ref (ad j)]) (n := 1) (Nat.le_of_ble_eq_true rfl)
  rw [lg_entry_eq]
  generalize (lg_sl ([.ref (ad j)]) ++ List.replicate (1 - (lg_sl ([.ref (ad j)])).length) Slot.unset).toArray = ls at hl ⊢
  have hl : lv_has ls 1 [(0, .ref (ad j))] := hl
  refine lv_aload_n hx hb d_T_init_0 rfl (lv_at hl 0 rfl) ?_
  refine W.objInit hx hb hown (hts _ mk_T_3) (hts _ mo_B_init) (hts _ mc_B_init) rfl (by rw [hml]; exact hl.1) rfl d_T_init_1 (Nat.le_of_ble_eq_true rfl) (Nat.le_of_ble_eq_true rfl) ?_
  refine W.eq (g2 := F0 m 4 ls []) rfl ?_
  refine lv_aload_n hx hb d_T_init_4 rfl (lv_at hl 0 rfl) ?_
  refine lv_bipush (v := 32) hx hb d_T_init_5 rfl ?_
  refine dd_newi hx hb hts hK hP hD hS hA 32 rfl (by decide) (by decide) (by decide) d_T_init_7 (fun ad1 H hag hP hD hS => ?_)
  have a0 : ad1 j = ad j := hag j (by omega)
  refine W.eq (g2 := F0 m 9 ls [.ref (ad1 n), .ref (ad1 j)]) (by simp only [a0]) ?_
  have hl : lv_has ls 1 [(0, .ref (ad1 j))] := by simp only [a0]; exact hl
  obtain ⟨ct1, hct1⟩ : ∃ c, c = va_up ct (n) (.inl (ca 0, 32, .inl (zf (fun _ => 0)))) := ⟨_, rfl⟩
  rw [← hct1] at hP
  have c0 : ct1 j = .inr (5, [.null]) := by rw [hct1, va_up_ne _ _ (by omega)]; exact c0
  have x1 : ct1 (n) = .inl (ca 0, 32, .inl (zf (fun _ => 0))) := by rw [hct1]; exact va_up_self _ _ _
  have hag1 := hag
  have hI : dI (n + 1) ad1 := hD.1
  have hAA := zD_A hD
  refine zz_putF (j := j) (ci := 5) (C := R_T) (T := T_T) (N := 1) (v := .ref (ad1 n)) (ty := ft_T 0) hx hb hts in_T ft_T ft_T_ok fn_T hown hK hP hD hS (by omega) c0 rfl 0 (by decide) (hts _ mf_T_9) (fun _ h => h) rfl hin rfl (ft_T_ok 0 (by decide)) rfl rfl (Nat.le_of_ble_eq_true rfl) d_T_init_9 (fun H locs hP hS => ?_)
  have hP : va_P D zC (zl (n + 1) ad1 (va_up ct1 j (.inr (5, [.ref (ad1 n)])))) H := hP
  obtain ⟨ct2, hct2⟩ : ∃ c, c = va_up ct1 j (.inr (5, [.ref (ad1 n)])) := ⟨_, rfl⟩
  rw [← hct2] at hP
  have x1 : ct2 n = .inl (ca 0, 32, .inl (zf (fun _ => 0))) := by rw [hct2]; exact (va_up_ne _ _ (by omega)).trans x1
  have c0 : ct2 j = .inr (5, [.ref (ad1 n)]) := by rw [hct2]; exact va_up_self _ _ _
  refine W.widen (k := 1) (n := 32) (by decide) (by decide) ?_
  exact W.vret hx hb hr (fun t ht hW => ⟨⟨(n + 1, ad1, ct2), rfl, ⟨rfl, fun j hj => hag1 j (by omega), hD, c0, x1, fun q h1 h2 => by show ct2 q = ct q; rw [hct2, va_up_ne _ _ (by omega), hct1, va_up_ne _ _ (by omega)]⟩, zN_warm hW hN, va_K.moved hW.alike hK, by rw [ht]; exact hP⟩, hS.F ht⟩) hS.2.2 d_T_init_12

theorem d_D_init_0 : decode c_D_init 0 = .ok (.aload_n 0, 1) := by decide +kernel
theorem d_D_init_1 : decode c_D_init 1 = .ok (.invokespecial 1, 3) := by decide +kernel
theorem d_D_init_4 : decode c_D_init 4 = .ok (.aload_n 0, 1) := by decide +kernel
theorem d_D_init_5 : decode c_D_init 5 = .ok (.bipush 6, 2) := by decide +kernel
theorem d_D_init_7 : decode c_D_init 7 = .ok (.anewarray 9, 3) := by decide +kernel
theorem d_D_init_10 : decode c_D_init 10 = .ok (.putfield 11, 3) := by decide +kernel
theorem d_D_init_13 : decode c_D_init 13 = .ok (.aload_n 0, 1) := by decide +kernel
theorem d_D_init_14 : decode c_D_init 14 = .ok (.iconst 0, 1) := by decide +kernel
theorem d_D_init_15 : decode c_D_init 15 = .ok (.putfield 15, 3) := by decide +kernel
theorem d_D_init_18 : decode c_D_init 18 = .ok (.aload_n 0, 1) := by decide +kernel
theorem d_D_init_19 : decode c_D_init 19 = .ok (.aconst_null, 1) := by decide +kernel
theorem d_D_init_20 : decode c_D_init 20 = .ok (.putfield 19, 3) := by decide +kernel
theorem d_D_init_23 : decode c_D_init 23 = .ok (.aload_n 0, 1) := by decide +kernel
theorem d_D_init_24 : decode c_D_init 24 = .ok (.bipush 8, 2) := by decide +kernel
theorem d_D_init_26 : decode c_D_init 26 = .ok (.anewarray 23, 3) := by decide +kernel
theorem d_D_init_29 : decode c_D_init 29 = .ok (.putfield 25, 3) := by decide +kernel
theorem d_D_init_32 : decode c_D_init 32 = .ok (.aload_n 0, 1) := by decide +kernel
theorem d_D_init_33 : decode c_D_init 33 = .ok (.iconst 0, 1) := by decide +kernel
theorem d_D_init_34 : decode c_D_init 34 = .ok (.putfield 29, 3) := by decide +kernel
theorem d_D_init_37 : decode c_D_init 37 = .ok (.aload_n 0, 1) := by decide +kernel
theorem d_D_init_38 : decode c_D_init 38 = .ok (.new 32, 3) := by decide +kernel
theorem d_D_init_41 : decode c_D_init 41 = .ok (.dup, 1) := by decide +kernel
theorem d_D_init_42 : decode c_D_init 42 = .ok (.invokespecial 34, 3) := by decide +kernel
theorem d_D_init_45 : decode c_D_init 45 = .ok (.putfield 35, 3) := by decide +kernel
theorem d_D_init_48 : decode c_D_init 48 = .ok (.aload_n 0, 1) := by decide +kernel
theorem d_D_init_49 : decode c_D_init 49 = .ok (.new 39, 3) := by decide +kernel
theorem d_D_init_52 : decode c_D_init 52 = .ok (.dup, 1) := by decide +kernel
theorem d_D_init_53 : decode c_D_init 53 = .ok (.invokespecial 41, 3) := by decide +kernel
theorem d_D_init_56 : decode c_D_init 56 = .ok (.putfield 42, 3) := by decide +kernel
theorem d_D_init_59 : decode c_D_init 59 = .ok (.aload_n 0, 1) := by decide +kernel
theorem d_D_init_60 : decode c_D_init 60 = .ok (.new 39, 3) := by decide +kernel
theorem d_D_init_63 : decode c_D_init 63 = .ok (.dup, 1) := by decide +kernel
theorem d_D_init_64 : decode c_D_init 64 = .ok (.invokespecial 41, 3) := by decide +kernel
theorem d_D_init_67 : decode c_D_init 67 = .ok (.putfield 46, 3) := by decide +kernel
theorem d_D_init_70 : decode c_D_init 70 = .ok (.aload_n 0, 1) := by decide +kernel
theorem d_D_init_71 : decode c_D_init 71 = .ok (.iconst 0, 1) := by decide +kernel
theorem d_D_init_72 : decode c_D_init 72 = .ok (.putfield 49, 3) := by decide +kernel
theorem d_D_init_75 : decode c_D_init 75 = .ok (.aload_n 0, 1) := by decide +kernel
theorem d_D_init_76 : decode c_D_init 76 = .ok (.iconst 0, 1) := by decide +kernel
theorem d_D_init_77 : decode c_D_init 77 = .ok (.putfield 53, 3) := by decide +kernel
theorem d_D_init_80 : decode c_D_init 80 = .ok (.return_, 1) := by decide +kernel

set_option maxHeartbeats 4000000 in
set_option maxRecDepth 100000 in
/-- SigmaDesk() -/
theorem k_initD (l : Launch) (D : va_G) (ca : Nat → ClassId) (ad : Nat → Nat) (ct : Nat → va_E) (hI : dI 1 ad) (sz : Nat) (c0 : ct 0 = .inr (0, [.null, .int 0, .null, .null, .int 0, .null, .null, .null, .int 0, .int 0])) : Met l y_D_init (Cond.code y_D_init c_D_init 1 none :: zT) ({ frames := 3, cells := 7, slots := 81, locals := 120 }) (va_Pc [.ref (ad 0)] (fun U => U.heap.size = sz ∧ va_AO R_S U ∧ va_AO R_F U ∧ dw D ca 1 ad ct U)) (va_Qv (S := dU) (fun u => u.1 = 8 ∧ u.2.1 0 = ad 0 ∧ zD (nA 1 ad sz) 8 u.2.1 ∧ u.2.2 0 = dkC u.2.1 .null (fun _ => 0) ∧ u.2.2 1 = skC ca (fun _ => none) ∧ u.2.2 2 = rwC ca (fun _ => none) ∧ u.2.2 3 = .inr (6, [.int 0]) ∧ u.2.2 4 = .inr (5, [.ref (u.2.1 5)]) ∧ u.2.2 5 = .inl (ca 0, 32, .inl (zf (fun _ => 0))) ∧ u.2.2 6 = .inr (5, [.ref (u.2.1 7)]) ∧ u.2.2 7 = .inl (ca 0, 32, .inl (zf (fun _ => 0)))) (fun u => dw D ca u.1 u.2.1 u.2.2) (nA 1 ad sz)) 7 81 (nA 1 ad sz) := by
  refine Met.ofW (cc := c_D_init) (maxL := 1) (ret := none) (by decide) rfl ?_
  intro p e s m args below meth c s₁ B hml hv
  obtain ⟨rfl, hsz, hoS, hoF, hN, hK, hP⟩ := hv
  have hx := B.exec
  have hb := B.bytes
  have hr := B.returns
  have hts0 := atoms_spec (ws := Cond.code y_D_init c_D_init 1 none :: zT) B.pre
  have hts := fun w h => hts0 w (List.mem_cons_of_mem _ h)
  have hown : s.vm.findClass R_D = some m.cls := findClass_of_methodNamed B.named
  have hlocks := B.notSynchronized
  subst hsz
  have hD : zD (nA 1 ad s.heap.size) 1 ad := ⟨hI, fun j hj => Or.inl ⟨j, hj, rfl⟩⟩
  have hA : ∀ q : Nat, s.heap.size ≤ q → nA 1 ad s.heap.size q := fun q h => Or.inr h
  have hS : va_S (nA 1 ad s.heap.size) s.heap s.heap [] := va_S.rf
  have hAA : ∀ q, dA 1 ad q → nA 1 ad s.heap.size q := fun _ h => Or.inl h
  have hin : meth.name = "<init>" := (name_of_methodNamed B.named B.method).1
  have hl := lv_entry ([.ref (ad 0)]) (n := 1) (Nat.le_of_ble_eq_true rfl)
  rw [lg_entry_eq]
  generalize (lg_sl ([.ref (ad 0)]) ++ List.replicate (1 - (lg_sl ([.ref (ad 0)])).length) Slot.unset).toArray = ls at hl ⊢
  have hl : lv_has ls 1 [(0, .ref (ad 0))] := hl
  refine lv_aload_n hx hb d_D_init_0 rfl (lv_at hl 0 rfl) ?_
  refine W.objInit hx hb hown (hts _ mk_D_1) (hts _ mo_B_init) (hts _ mc_B_init) rfl (by rw [hml]; exact hl.1) rfl d_D_init_1 (Nat.le_of_ble_eq_true rfl) (Nat.le_of_ble_eq_true rfl) ?_
  refine W.eq (g2 := F0 m 4 ls []) rfl ?_
  refine lv_aload_n hx hb d_D_init_4 rfl (lv_at hl 0 rfl) ?_
  refine lv_bipush (v := 6) hx hb d_D_init_5 rfl ?_
  refine dd_newq (C := R_S) (t0 := 2) hx hb hts hown ml_D_9 hoS (fun _ => zty_uo) hK hP hD hS hA 6 rfl (by decide) (by decide) (by decide) d_D_init_7 (fun ad1 H hag hP hD hS => ?_)
  have a0 : ad1 0 = ad 0 := hag 0 (by omega)
  refine W.eq (g2 := F0 m 10 ls [.ref (ad1 1), .ref (ad1 0)]) (by simp only [a0]) ?_
  have hl : lv_has ls 1 [(0, .ref (ad1 0))] := by simp only [a0]; exact hl
  obtain ⟨ct1, hct1⟩ : ∃ c, c = va_up ct (1) (.inl (ca 2, 6, .inr (.inr (.inr (.inr (fun _ => none)))))) := ⟨_, rfl⟩
  rw [← hct1] at hP
  have c0 : ct1 0 = .inr (0, [.null, .int 0, .null, .null, .int 0, .null, .null, .null, .int 0, .int 0]) := by rw [hct1, va_up_ne _ _ (by omega)]; exact c0
  have x1 : ct1 (1) = .inl (ca 2, 6, .inr (.inr (.inr (.inr (fun _ => none))))) := by rw [hct1]; exact va_up_self _ _ _
  have hag1 := hag
  have hI : dI 2 ad1 := hD.1
  have hAA := zD_A hD
  refine zz_putF (j := 0) (ci := 0) (C := R_D) (T := T_D) (N := 10) (v := .ref (ad1 1)) (ty := ft_D 0) hx hb hts in_D ft_D ft_D_ok fn_D hown hK hP hD hS (by omega) c0 rfl 0 (by decide) (hts _ mf_D_11) (fun _ h => h) rfl hin rfl (ft_D_ok 0 (by decide)) rfl rfl (Nat.le_of_ble_eq_true rfl) d_D_init_10 (fun H locs hP hS => ?_)
  have hP : va_P D zC (zl 2 ad1 (va_up ct1 0 (.inr (0, [.ref (ad1 1), .int 0, .null, .null, .int 0, .null, .null, .null, .int 0, .int 0])))) H := hP
  obtain ⟨ct2, hct2⟩ : ∃ c, c = va_up ct1 0 (.inr (0, [.ref (ad1 1), .int 0, .null, .null, .int 0, .null, .null, .null, .int 0, .int 0])) := ⟨_, rfl⟩
  rw [← hct2] at hP
  have x1 : ct2 1 = .inl (ca 2, 6, .inr (.inr (.inr (.inr (fun _ => none))))) := by rw [hct2]; exact (va_up_ne _ _ (by omega)).trans x1
  have c0 : ct2 0 = .inr (0, [.ref (ad1 1), .int 0, .null, .null, .int 0, .null, .null, .null, .int 0, .int 0]) := by rw [hct2]; exact va_up_self _ _ _
  refine lv_aload_n hx hb d_D_init_13 rfl (lv_at hl 0 rfl) ?_
  refine lv_iconst (v := 0) hx hb d_D_init_14 rfl ?_
  refine zz_put (j := 0) (ci := 0) (C := R_D) (T := T_D) (N := 10) (v := .int 0) (ty := ft_D 1) hx hb hts in_D ft_D ft_D_ok fn_D hown hK hP hD hS (by omega) c0 rfl 1 (by decide) (hts _ mf_D_15) (fun _ h => h) rfl (ft_D_ok 1 (by decide)) rfl rfl (Nat.le_of_ble_eq_true rfl) d_D_init_15 (fun H locs hP hS => ?_)
  have hP : va_P D zC (zl 2 ad1 (va_up ct2 0 (.inr (0, [.ref (ad1 1), .int 0, .null, .null, .int 0, .null, .null, .null, .int 0, .int 0])))) H := hP
  obtain ⟨ct3, hct3⟩ : ∃ c, c = va_up ct2 0 (.inr (0, [.ref (ad1 1), .int 0, .null, .null, .int 0, .null, .null, .null, .int 0, .int 0])) := ⟨_, rfl⟩
  rw [← hct3] at hP
  have x1 : ct3 1 = .inl (ca 2, 6, .inr (.inr (.inr (.inr (fun _ => none))))) := by rw [hct3]; exact (va_up_ne _ _ (by omega)).trans x1
  have c0 : ct3 0 = .inr (0, [.ref (ad1 1), .int 0, .null, .null, .int 0, .null, .null, .null, .int 0, .int 0]) := by rw [hct3]; exact va_up_self _ _ _
  refine lv_aload_n hx hb d_D_init_18 rfl (lv_at hl 0 rfl) ?_
  refine lv_null hx hb d_D_init_19 ?_
  refine zz_put (j := 0) (ci := 0) (C := R_D) (T := T_D) (N := 10) (v := .null) (ty := ft_D 2) hx hb hts in_D ft_D ft_D_ok fn_D hown hK hP hD hS (by omega) c0 rfl 2 (by decide) (hts _ mf_D_19) (fun _ h => h) rfl (ft_D_ok 2 (by decide)) rfl rfl (Nat.le_of_ble_eq_true rfl) d_D_init_20 (fun H locs hP hS => ?_)
  have hP : va_P D zC (zl 2 ad1 (va_up ct3 0 (.inr (0, [.ref (ad1 1), .int 0, .null, .null, .int 0, .null, .null, .null, .int 0, .int 0])))) H := hP
  obtain ⟨ct4, hct4⟩ : ∃ c, c = va_up ct3 0 (.inr (0, [.ref (ad1 1), .int 0, .null, .null, .int 0, .null, .null, .null, .int 0, .int 0])) := ⟨_, rfl⟩
  rw [← hct4] at hP
  have x1 : ct4 1 = .inl (ca 2, 6, .inr (.inr (.inr (.inr (fun _ => none))))) := by rw [hct4]; exact (va_up_ne _ _ (by omega)).trans x1
  have c0 : ct4 0 = .inr (0, [.ref (ad1 1), .int 0, .null, .null, .int 0, .null, .null, .null, .int 0, .int 0]) := by rw [hct4]; exact va_up_self _ _ _
  refine lv_aload_n hx hb d_D_init_23 rfl (lv_at hl 0 rfl) ?_
  refine lv_bipush (v := 8) hx hb d_D_init_24 rfl ?_
  refine dd_newq (C := R_F) (t0 := 3) hx hb hts hown ml_D_23 hoF (fun _ => zty_uf) hK hP hD hS hA 8 rfl (by decide) (by decide) (by decide) d_D_init_26 (fun ad2 H hag hP hD hS => ?_)
  have a0 : ad2 0 = ad1 0 := hag 0 (by omega)
  have a1 : ad2 1 = ad1 1 := hag 1 (by omega)
  refine W.eq (g2 := F0 m 29 ls [.ref (ad2 2), .ref (ad2 0)]) (by simp only [a0, a1]) ?_
  have hl : lv_has ls 1 [(0, .ref (ad2 0))] := by simp only [a0, a1]; exact hl
  obtain ⟨ct5, hct5⟩ : ∃ c, c = va_up ct4 (2) (.inl (ca 3, 8, .inr (.inr (.inr (.inr (fun _ => none)))))) := ⟨_, rfl⟩
  rw [← hct5] at hP
  have c0 : ct5 0 = .inr (0, [.ref (ad2 1), .int 0, .null, .null, .int 0, .null, .null, .null, .int 0, .int 0]) := by rw [hct5, va_up_ne _ _ (by omega)]; simp only [a0, a1]; exact c0
  have x1 : ct5 1 = .inl (ca 2, 6, .inr (.inr (.inr (.inr (fun _ => none))))) := by rw [hct5, va_up_ne _ _ (by omega)]; exact x1
  have x2 : ct5 (2) = .inl (ca 3, 8, .inr (.inr (.inr (.inr (fun _ => none))))) := by rw [hct5]; exact va_up_self _ _ _
  have hag2 := hag
  have hI : dI 3 ad2 := hD.1
  have hAA := zD_A hD
  refine zz_putF (j := 0) (ci := 0) (C := R_D) (T := T_D) (N := 10) (v := .ref (ad2 2)) (ty := ft_D 3) hx hb hts in_D ft_D ft_D_ok fn_D hown hK hP hD hS (by omega) c0 rfl 3 (by decide) (hts _ mf_D_25) (fun _ h => h) rfl hin rfl (ft_D_ok 3 (by decide)) rfl rfl (Nat.le_of_ble_eq_true rfl) d_D_init_29 (fun H locs hP hS => ?_)
  have hP : va_P D zC (zl 3 ad2 (va_up ct5 0 (.inr (0, [.ref (ad2 1), .int 0, .null, .ref (ad2 2), .int 0, .null, .null, .null, .int 0, .int 0])))) H := hP
  obtain ⟨ct6, hct6⟩ : ∃ c, c = va_up ct5 0 (.inr (0, [.ref (ad2 1), .int 0, .null, .ref (ad2 2), .int 0, .null, .null, .null, .int 0, .int 0])) := ⟨_, rfl⟩
  rw [← hct6] at hP
  have x1 : ct6 1 = .inl (ca 2, 6, .inr (.inr (.inr (.inr (fun _ => none))))) := by rw [hct6]; exact (va_up_ne _ _ (by omega)).trans x1
  have x2 : ct6 2 = .inl (ca 3, 8, .inr (.inr (.inr (.inr (fun _ => none))))) := by rw [hct6]; exact (va_up_ne _ _ (by omega)).trans x2
  have c0 : ct6 0 = .inr (0, [.ref (ad2 1), .int 0, .null, .ref (ad2 2), .int 0, .null, .null, .null, .int 0, .int 0]) := by rw [hct6]; exact va_up_self _ _ _
  refine lv_aload_n hx hb d_D_init_32 rfl (lv_at hl 0 rfl) ?_
  refine lv_iconst (v := 0) hx hb d_D_init_33 rfl ?_
  refine zz_put (j := 0) (ci := 0) (C := R_D) (T := T_D) (N := 10) (v := .int 0) (ty := ft_D 4) hx hb hts in_D ft_D ft_D_ok fn_D hown hK hP hD hS (by omega) c0 rfl 4 (by decide) (hts _ mf_D_29) (fun _ h => h) rfl (ft_D_ok 4 (by decide)) rfl rfl (Nat.le_of_ble_eq_true rfl) d_D_init_34 (fun H locs hP hS => ?_)
  have hP : va_P D zC (zl 3 ad2 (va_up ct6 0 (.inr (0, [.ref (ad2 1), .int 0, .null, .ref (ad2 2), .int 0, .null, .null, .null, .int 0, .int 0])))) H := hP
  obtain ⟨ct7, hct7⟩ : ∃ c, c = va_up ct6 0 (.inr (0, [.ref (ad2 1), .int 0, .null, .ref (ad2 2), .int 0, .null, .null, .null, .int 0, .int 0])) := ⟨_, rfl⟩
  rw [← hct7] at hP
  have x1 : ct7 1 = .inl (ca 2, 6, .inr (.inr (.inr (.inr (fun _ => none))))) := by rw [hct7]; exact (va_up_ne _ _ (by omega)).trans x1
  have x2 : ct7 2 = .inl (ca 3, 8, .inr (.inr (.inr (.inr (fun _ => none))))) := by rw [hct7]; exact (va_up_ne _ _ (by omega)).trans x2
  have c0 : ct7 0 = .inr (0, [.ref (ad2 1), .int 0, .null, .ref (ad2 2), .int 0, .null, .null, .null, .int 0, .int 0]) := by rw [hct7]; exact va_up_self _ _ _
  refine lv_aload_n hx hb d_D_init_37 rfl (lv_at hl 0 rfl) ?_
  refine dd_newO (ci := 6) (C := R_G) (T := T_G) (N := 1) hx hb hts in_G ft_G ft_G_ok hown ml_D_32 mt_G mi_G hK hP hD hS hA rfl (fs := [.int 0]) (fun j hj => by rcases (show j = 0 by omega) with rfl <;> rfl) (by decide) (by decide) d_D_init_38 (fun ad3 H hag hP hD hS => ?_)
  have a0 : ad3 0 = ad2 0 := hag 0 (by omega)
  have a1 : ad3 1 = ad2 1 := hag 1 (by omega)
  have a2 : ad3 2 = ad2 2 := hag 2 (by omega)
  refine W.eq (g2 := F0 m 41 ls [.ref (ad3 3), .ref (ad3 0)]) (by simp only [a0, a1, a2]) ?_
  have hl : lv_has ls 1 [(0, .ref (ad3 0))] := by simp only [a0, a1, a2]; exact hl
  obtain ⟨ct8, hct8⟩ : ∃ c, c = va_up ct7 (3) (.inr (6, [.int 0])) := ⟨_, rfl⟩
  rw [← hct8] at hP
  have c0 : ct8 0 = .inr (0, [.ref (ad3 1), .int 0, .null, .ref (ad3 2), .int 0, .null, .null, .null, .int 0, .int 0]) := by rw [hct8, va_up_ne _ _ (by omega)]; simp only [a0, a1, a2]; exact c0
  have x1 : ct8 1 = .inl (ca 2, 6, .inr (.inr (.inr (.inr (fun _ => none))))) := by rw [hct8, va_up_ne _ _ (by omega)]; exact x1
  have x2 : ct8 2 = .inl (ca 3, 8, .inr (.inr (.inr (.inr (fun _ => none))))) := by rw [hct8, va_up_ne _ _ (by omega)]; exact x2
  have x3 : ct8 (3) = .inr (6, [.int 0]) := by rw [hct8]; exact va_up_self _ _ _
  have hag3 := hag
  have hI : dI 4 ad3 := hD.1
  have hAA := zD_A hD
  refine lv_dup hx hb d_D_init_41 rfl ?_
  refine dd_cIN (index := 34) (k := 0) (b := ad3 3) (As := []) (rest := [.ref (ad3 3), .ref (ad3 0)]) ⟨hx, hb, hml, hown, hts⟩ (k_initG l D ca 4 ad3 ct8 hI 3) mk_D_34 mo_G_init mi_G mc_G_init (by decide +kernel) rfl ⟨rfl, rfl⟩ ⟨by decide, by decide⟩ hN hK hP hS hAA rfl hl.1 rfl (Nat.le_of_ble_eq_true rfl) d_D_init_42 ⟨by decide, by decide⟩ (fun ct9 H locs hct9 hP hS => ?_)
  rw [hct9] at hP
  refine zz_putF (j := 0) (ci := 0) (C := R_D) (T := T_D) (N := 10) (v := .ref (ad3 3)) (ty := ft_D 5) hx hb hts in_D ft_D ft_D_ok fn_D hown hK hP hD hS (by omega) c0 rfl 5 (by decide) (hts _ mf_D_35) (fun _ h => h) rfl hin rfl (ft_D_ok 5 (by decide)) rfl rfl (Nat.le_of_ble_eq_true rfl) d_D_init_45 (fun H locs hP hS => ?_)
  have hP : va_P D zC (zl 4 ad3 (va_up ct8 0 (.inr (0, [.ref (ad3 1), .int 0, .null, .ref (ad3 2), .int 0, .ref (ad3 3), .null, .null, .int 0, .int 0])))) H := hP
  obtain ⟨ct10, hct10⟩ : ∃ c, c = va_up ct8 0 (.inr (0, [.ref (ad3 1), .int 0, .null, .ref (ad3 2), .int 0, .ref (ad3 3), .null, .null, .int 0, .int 0])) := ⟨_, rfl⟩
  rw [← hct10] at hP
  have x1 : ct10 1 = .inl (ca 2, 6, .inr (.inr (.inr (.inr (fun _ => none))))) := by rw [hct10]; exact (va_up_ne _ _ (by omega)).trans x1
  have x2 : ct10 2 = .inl (ca 3, 8, .inr (.inr (.inr (.inr (fun _ => none))))) := by rw [hct10]; exact (va_up_ne _ _ (by omega)).trans x2
  have x3 : ct10 3 = .inr (6, [.int 0]) := by rw [hct10]; exact (va_up_ne _ _ (by omega)).trans x3
  have c0 : ct10 0 = .inr (0, [.ref (ad3 1), .int 0, .null, .ref (ad3 2), .int 0, .ref (ad3 3), .null, .null, .int 0, .int 0]) := by rw [hct10]; exact va_up_self _ _ _
  refine lv_aload_n hx hb d_D_init_48 rfl (lv_at hl 0 rfl) ?_
  refine dd_newO (ci := 5) (C := R_T) (T := T_T) (N := 1) hx hb hts in_T ft_T ft_T_ok hown ml_D_39 mt_T mi_T hK hP hD hS hA rfl (fs := [.null]) (fun j hj => by rcases (show j = 0 by omega) with rfl <;> rfl) (by decide) (by decide) d_D_init_49 (fun ad4 H hag hP hD hS => ?_)
  have a0 : ad4 0 = ad3 0 := hag 0 (by omega)
  have a1 : ad4 1 = ad3 1 := hag 1 (by omega)
  have a2 : ad4 2 = ad3 2 := hag 2 (by omega)
  have a3 : ad4 3 = ad3 3 := hag 3 (by omega)
  refine W.eq (g2 := F0 m 52 ls [.ref (ad4 4), .ref (ad4 0)]) (by simp only [a0, a1, a2, a3]) ?_
  have hl : lv_has ls 1 [(0, .ref (ad4 0))] := by simp only [a0, a1, a2, a3]; exact hl
  obtain ⟨ct11, hct11⟩ : ∃ c, c = va_up ct10 (4) (.inr (5, [.null])) := ⟨_, rfl⟩
  rw [← hct11] at hP
  have c0 : ct11 0 = .inr (0, [.ref (ad4 1), .int 0, .null, .ref (ad4 2), .int 0, .ref (ad4 3), .null, .null, .int 0, .int 0]) := by rw [hct11, va_up_ne _ _ (by omega)]; simp only [a0, a1, a2, a3]; exact c0
  have x1 : ct11 1 = .inl (ca 2, 6, .inr (.inr (.inr (.inr (fun _ => none))))) := by rw [hct11, va_up_ne _ _ (by omega)]; exact x1
  have x2 : ct11 2 = .inl (ca 3, 8, .inr (.inr (.inr (.inr (fun _ => none))))) := by rw [hct11, va_up_ne _ _ (by omega)]; exact x2
  have x3 : ct11 3 = .inr (6, [.int 0]) := by rw [hct11, va_up_ne _ _ (by omega)]; exact x3
  have x4 : ct11 (4) = .inr (5, [.null]) := by rw [hct11]; exact va_up_self _ _ _
  have hag4 := hag
  have hI : dI 5 ad4 := hD.1
  have hAA := zD_A hD
  refine lv_dup hx hb d_D_init_52 rfl ?_
  refine dd_cIx (index := 41) (k := 0) (b := ad4 4) (As := []) (rest := [.ref (ad4 4), .ref (ad4 0)]) ⟨hx, hb, hml, hown, hts⟩ (k_initT l D ca 5 ad4 ct11 hI _ 4 (by decide) x4) mk_D_41 mo_T_init mi_T mc_T_init (by decide +kernel) rfl ⟨rfl, rfl⟩ ⟨by decide, by decide⟩ hN hK hP hS hAA hA rfl hl.1 rfl (Nat.le_of_ble_eq_true rfl) d_D_init_53 ⟨by decide, by decide⟩ (fun nx ad5 ct12 H locs hu hP hS hA2 => ?_)
  have hnx : nx = 6 := hu.1
  subst hnx
  have hag : ∀ j, j < 5 → ad5 j = ad4 j := hu.2.1
  have hD := zD_nA hu.2.2.1 hAA hA2
  have a0 : ad5 4 = ad4 4 := hag 4 (by decide)
  have a1 : ad5 0 = ad4 0 := hag 0 (by decide)
  have a2 : ad5 1 = ad4 1 := hag 1 (by decide)
  have a3 : ad5 2 = ad4 2 := hag 2 (by decide)
  have a4 : ad5 3 = ad4 3 := hag 3 (by decide)
  refine W.eq (g2 := F0 m 56 ls [.ref (ad5 4), .ref (ad5 0)]) (by simp only [a0, a1, a2, a3, a4]) ?_
  have hl : lv_has ls 1 [(0, .ref (ad5 0))] := by simp only [a0, a1, a2, a3, a4]; exact hl
  have c0 : ct12 0 = .inr (0, [.ref (ad5 1), .int 0, .null, .ref (ad5 2), .int 0, .ref (ad5 3), .null, .null, .int 0, .int 0]) := (hu.2.2.2.2.2 0 (by decide) (by decide)).trans (by simp only [a0, a1, a2, a3, a4]; exact c0)
  have x1 : ct12 1 = .inl (ca 2, 6, .inr (.inr (.inr (.inr (fun _ => none))))) := (hu.2.2.2.2.2 1 (by decide) (by decide)).trans (by exact x1)
  have x2 : ct12 2 = .inl (ca 3, 8, .inr (.inr (.inr (.inr (fun _ => none))))) := (hu.2.2.2.2.2 2 (by decide) (by decide)).trans (by exact x2)
  have x3 : ct12 3 = .inr (6, [.int 0]) := (hu.2.2.2.2.2 3 (by decide) (by decide)).trans (by exact x3)
  have x4 : ct12 4 = .inr (5, [.ref (ad5 5)]) := hu.2.2.2.1
  have x5 : ct12 5 = .inl (ca 0, 32, .inl (zf (fun _ => 0))) := hu.2.2.2.2.1
  have hag5 := hag
  have hI : dI 6 ad5 := hD.1
  have hAA := zD_A hD
  refine zz_putF (j := 0) (ci := 0) (C := R_D) (T := T_D) (N := 10) (v := .ref (ad5 4)) (ty := ft_D 6) hx hb hts in_D ft_D ft_D_ok fn_D hown hK hP hD hS (by omega) c0 rfl 6 (by decide) (hts _ mf_D_42) (fun _ h => h) rfl hin rfl (ft_D_ok 6 (by decide)) rfl rfl (Nat.le_of_ble_eq_true rfl) d_D_init_56 (fun H locs hP hS => ?_)
  have hP : va_P D zC (zl 6 ad5 (va_up ct12 0 (.inr (0, [.ref (ad5 1), .int 0, .null, .ref (ad5 2), .int 0, .ref (ad5 3), .ref (ad5 4), .null, .int 0, .int 0])))) H := hP
  obtain ⟨ct13, hct13⟩ : ∃ c, c = va_up ct12 0 (.inr (0, [.ref (ad5 1), .int 0, .null, .ref (ad5 2), .int 0, .ref (ad5 3), .ref (ad5 4), .null, .int 0, .int 0])) := ⟨_, rfl⟩
  rw [← hct13] at hP
  have x1 : ct13 1 = .inl (ca 2, 6, .inr (.inr (.inr (.inr (fun _ => none))))) := by rw [hct13]; exact (va_up_ne _ _ (by omega)).trans x1
  have x2 : ct13 2 = .inl (ca 3, 8, .inr (.inr (.inr (.inr (fun _ => none))))) := by rw [hct13]; exact (va_up_ne _ _ (by omega)).trans x2
  have x3 : ct13 3 = .inr (6, [.int 0]) := by rw [hct13]; exact (va_up_ne _ _ (by omega)).trans x3
  have x4 : ct13 4 = .inr (5, [.ref (ad5 5)]) := by rw [hct13]; exact (va_up_ne _ _ (by omega)).trans x4
  have x5 : ct13 5 = .inl (ca 0, 32, .inl (zf (fun _ => 0))) := by rw [hct13]; exact (va_up_ne _ _ (by omega)).trans x5
  have c0 : ct13 0 = .inr (0, [.ref (ad5 1), .int 0, .null, .ref (ad5 2), .int 0, .ref (ad5 3), .ref (ad5 4), .null, .int 0, .int 0]) := by rw [hct13]; exact va_up_self _ _ _
  refine lv_aload_n hx hb d_D_init_59 rfl (lv_at hl 0 rfl) ?_
  refine dd_newO (ci := 5) (C := R_T) (T := T_T) (N := 1) hx hb hts in_T ft_T ft_T_ok hown ml_D_39 mt_T mi_T hK hP hD hS hA rfl (fs := [.null]) (fun j hj => by rcases (show j = 0 by omega) with rfl <;> rfl) (by decide) (by decide) d_D_init_60 (fun ad6 H hag hP hD hS => ?_)
  have a0 : ad6 0 = ad5 0 := hag 0 (by omega)
  have a1 : ad6 1 = ad5 1 := hag 1 (by omega)
  have a2 : ad6 2 = ad5 2 := hag 2 (by omega)
  have a3 : ad6 3 = ad5 3 := hag 3 (by omega)
  have a4 : ad6 4 = ad5 4 := hag 4 (by omega)
  have a5 : ad6 5 = ad5 5 := hag 5 (by omega)
  refine W.eq (g2 := F0 m 63 ls [.ref (ad6 6), .ref (ad6 0)]) (by simp only [a0, a1, a2, a3, a4, a5]) ?_
  have hl : lv_has ls 1 [(0, .ref (ad6 0))] := by simp only [a0, a1, a2, a3, a4, a5]; exact hl
  obtain ⟨ct14, hct14⟩ : ∃ c, c = va_up ct13 (6) (.inr (5, [.null])) := ⟨_, rfl⟩
  rw [← hct14] at hP
  have c0 : ct14 0 = .inr (0, [.ref (ad6 1), .int 0, .null, .ref (ad6 2), .int 0, .ref (ad6 3), .ref (ad6 4), .null, .int 0, .int 0]) := by rw [hct14, va_up_ne _ _ (by omega)]; simp only [a0, a1, a2, a3, a4, a5]; exact c0
  have x1 : ct14 1 = .inl (ca 2, 6, .inr (.inr (.inr (.inr (fun _ => none))))) := by rw [hct14, va_up_ne _ _ (by omega)]; exact x1
  have x2 : ct14 2 = .inl (ca 3, 8, .inr (.inr (.inr (.inr (fun _ => none))))) := by rw [hct14, va_up_ne _ _ (by omega)]; exact x2
  have x3 : ct14 3 = .inr (6, [.int 0]) := by rw [hct14, va_up_ne _ _ (by omega)]; exact x3
  have x4 : ct14 4 = .inr (5, [.ref (ad6 5)]) := by rw [hct14, va_up_ne _ _ (by omega)]; simp only [a0, a1, a2, a3, a4, a5]; exact x4
  have x5 : ct14 5 = .inl (ca 0, 32, .inl (zf (fun _ => 0))) := by rw [hct14, va_up_ne _ _ (by omega)]; exact x5
  have x6 : ct14 (6) = .inr (5, [.null]) := by rw [hct14]; exact va_up_self _ _ _
  have hag6 := hag
  have hI : dI 7 ad6 := hD.1
  have hAA := zD_A hD
  refine lv_dup hx hb d_D_init_63 rfl ?_
  refine dd_cIx (index := 41) (k := 0) (b := ad6 6) (As := []) (rest := [.ref (ad6 6), .ref (ad6 0)]) ⟨hx, hb, hml, hown, hts⟩ (k_initT l D ca 7 ad6 ct14 hI _ 6 (by decide) x6) mk_D_41 mo_T_init mi_T mc_T_init (by decide +kernel) rfl ⟨rfl, rfl⟩ ⟨by decide, by decide⟩ hN hK hP hS hAA hA rfl hl.1 rfl (Nat.le_of_ble_eq_true rfl) d_D_init_64 ⟨by decide, by decide⟩ (fun nx ad7 ct15 H locs hu hP hS hA2 => ?_)
  have hnx : nx = 8 := hu.1
  subst hnx
  have hag : ∀ j, j < 7 → ad7 j = ad6 j := hu.2.1
  have hD := zD_nA hu.2.2.1 hAA hA2
  have a0 : ad7 6 = ad6 6 := hag 6 (by decide)
  have a1 : ad7 0 = ad6 0 := hag 0 (by decide)
  have a2 : ad7 1 = ad6 1 := hag 1 (by decide)
  have a3 : ad7 2 = ad6 2 := hag 2 (by decide)
  have a4 : ad7 3 = ad6 3 := hag 3 (by decide)
  have a5 : ad7 4 = ad6 4 := hag 4 (by decide)
  have a6 : ad7 5 = ad6 5 := hag 5 (by decide)
  refine W.eq (g2 := F0 m 67 ls [.ref (ad7 6), .ref (ad7 0)]) (by simp only [a0, a1, a2, a3, a4, a5, a6]) ?_
  have hl : lv_has ls 1 [(0, .ref (ad7 0))] := by simp only [a0, a1, a2, a3, a4, a5, a6]; exact hl
  have c0 : ct15 0 = .inr (0, [.ref (ad7 1), .int 0, .null, .ref (ad7 2), .int 0, .ref (ad7 3), .ref (ad7 4), .null, .int 0, .int 0]) := (hu.2.2.2.2.2 0 (by decide) (by decide)).trans (by simp only [a0, a1, a2, a3, a4, a5, a6]; exact c0)
  have x1 : ct15 1 = .inl (ca 2, 6, .inr (.inr (.inr (.inr (fun _ => none))))) := (hu.2.2.2.2.2 1 (by decide) (by decide)).trans (by exact x1)
  have x2 : ct15 2 = .inl (ca 3, 8, .inr (.inr (.inr (.inr (fun _ => none))))) := (hu.2.2.2.2.2 2 (by decide) (by decide)).trans (by exact x2)
  have x3 : ct15 3 = .inr (6, [.int 0]) := (hu.2.2.2.2.2 3 (by decide) (by decide)).trans (by exact x3)
  have x4 : ct15 4 = .inr (5, [.ref (ad7 5)]) := (hu.2.2.2.2.2 4 (by decide) (by decide)).trans (by simp only [a0, a1, a2, a3, a4, a5, a6]; exact x4)
  have x5 : ct15 5 = .inl (ca 0, 32, .inl (zf (fun _ => 0))) := (hu.2.2.2.2.2 5 (by decide) (by decide)).trans (by exact x5)
  have x6 : ct15 6 = .inr (5, [.ref (ad7 7)]) := hu.2.2.2.1
  have x7 : ct15 7 = .inl (ca 0, 32, .inl (zf (fun _ => 0))) := hu.2.2.2.2.1
  have hag7 := hag
  have hI : dI 8 ad7 := hD.1
  have hAA := zD_A hD
  refine zz_putF (j := 0) (ci := 0) (C := R_D) (T := T_D) (N := 10) (v := .ref (ad7 6)) (ty := ft_D 7) hx hb hts in_D ft_D ft_D_ok fn_D hown hK hP hD hS (by omega) c0 rfl 7 (by decide) (hts _ mf_D_46) (fun _ h => h) rfl hin rfl (ft_D_ok 7 (by decide)) rfl rfl (Nat.le_of_ble_eq_true rfl) d_D_init_67 (fun H locs hP hS => ?_)
  have hP : va_P D zC (zl 8 ad7 (va_up ct15 0 (.inr (0, [.ref (ad7 1), .int 0, .null, .ref (ad7 2), .int 0, .ref (ad7 3), .ref (ad7 4), .ref (ad7 6), .int 0, .int 0])))) H := hP
  obtain ⟨ct16, hct16⟩ : ∃ c, c = va_up ct15 0 (.inr (0, [.ref (ad7 1), .int 0, .null, .ref (ad7 2), .int 0, .ref (ad7 3), .ref (ad7 4), .ref (ad7 6), .int 0, .int 0])) := ⟨_, rfl⟩
  rw [← hct16] at hP
  have x1 : ct16 1 = .inl (ca 2, 6, .inr (.inr (.inr (.inr (fun _ => none))))) := by rw [hct16]; exact (va_up_ne _ _ (by omega)).trans x1
  have x2 : ct16 2 = .inl (ca 3, 8, .inr (.inr (.inr (.inr (fun _ => none))))) := by rw [hct16]; exact (va_up_ne _ _ (by omega)).trans x2
  have x3 : ct16 3 = .inr (6, [.int 0]) := by rw [hct16]; exact (va_up_ne _ _ (by omega)).trans x3
  have x4 : ct16 4 = .inr (5, [.ref (ad7 5)]) := by rw [hct16]; exact (va_up_ne _ _ (by omega)).trans x4
  have x5 : ct16 5 = .inl (ca 0, 32, .inl (zf (fun _ => 0))) := by rw [hct16]; exact (va_up_ne _ _ (by omega)).trans x5
  have x6 : ct16 6 = .inr (5, [.ref (ad7 7)]) := by rw [hct16]; exact (va_up_ne _ _ (by omega)).trans x6
  have x7 : ct16 7 = .inl (ca 0, 32, .inl (zf (fun _ => 0))) := by rw [hct16]; exact (va_up_ne _ _ (by omega)).trans x7
  have c0 : ct16 0 = .inr (0, [.ref (ad7 1), .int 0, .null, .ref (ad7 2), .int 0, .ref (ad7 3), .ref (ad7 4), .ref (ad7 6), .int 0, .int 0]) := by rw [hct16]; exact va_up_self _ _ _
  refine lv_aload_n hx hb d_D_init_70 rfl (lv_at hl 0 rfl) ?_
  refine lv_iconst (v := 0) hx hb d_D_init_71 rfl ?_
  refine zz_put (j := 0) (ci := 0) (C := R_D) (T := T_D) (N := 10) (v := .int 0) (ty := ft_D 8) hx hb hts in_D ft_D ft_D_ok fn_D hown hK hP hD hS (by omega) c0 rfl 8 (by decide) (hts _ mf_D_49) (fun _ h => h) rfl (ft_D_ok 8 (by decide)) rfl rfl (Nat.le_of_ble_eq_true rfl) d_D_init_72 (fun H locs hP hS => ?_)
  have hP : va_P D zC (zl 8 ad7 (va_up ct16 0 (.inr (0, [.ref (ad7 1), .int 0, .null, .ref (ad7 2), .int 0, .ref (ad7 3), .ref (ad7 4), .ref (ad7 6), .int 0, .int 0])))) H := hP
  obtain ⟨ct17, hct17⟩ : ∃ c, c = va_up ct16 0 (.inr (0, [.ref (ad7 1), .int 0, .null, .ref (ad7 2), .int 0, .ref (ad7 3), .ref (ad7 4), .ref (ad7 6), .int 0, .int 0])) := ⟨_, rfl⟩
  rw [← hct17] at hP
  have x1 : ct17 1 = .inl (ca 2, 6, .inr (.inr (.inr (.inr (fun _ => none))))) := by rw [hct17]; exact (va_up_ne _ _ (by omega)).trans x1
  have x2 : ct17 2 = .inl (ca 3, 8, .inr (.inr (.inr (.inr (fun _ => none))))) := by rw [hct17]; exact (va_up_ne _ _ (by omega)).trans x2
  have x3 : ct17 3 = .inr (6, [.int 0]) := by rw [hct17]; exact (va_up_ne _ _ (by omega)).trans x3
  have x4 : ct17 4 = .inr (5, [.ref (ad7 5)]) := by rw [hct17]; exact (va_up_ne _ _ (by omega)).trans x4
  have x5 : ct17 5 = .inl (ca 0, 32, .inl (zf (fun _ => 0))) := by rw [hct17]; exact (va_up_ne _ _ (by omega)).trans x5
  have x6 : ct17 6 = .inr (5, [.ref (ad7 7)]) := by rw [hct17]; exact (va_up_ne _ _ (by omega)).trans x6
  have x7 : ct17 7 = .inl (ca 0, 32, .inl (zf (fun _ => 0))) := by rw [hct17]; exact (va_up_ne _ _ (by omega)).trans x7
  have c0 : ct17 0 = .inr (0, [.ref (ad7 1), .int 0, .null, .ref (ad7 2), .int 0, .ref (ad7 3), .ref (ad7 4), .ref (ad7 6), .int 0, .int 0]) := by rw [hct17]; exact va_up_self _ _ _
  refine lv_aload_n hx hb d_D_init_75 rfl (lv_at hl 0 rfl) ?_
  refine lv_iconst (v := 0) hx hb d_D_init_76 rfl ?_
  refine zz_put (j := 0) (ci := 0) (C := R_D) (T := T_D) (N := 10) (v := .int 0) (ty := ft_D 9) hx hb hts in_D ft_D ft_D_ok fn_D hown hK hP hD hS (by omega) c0 rfl 9 (by decide) (hts _ mf_D_53) (fun _ h => h) rfl (ft_D_ok 9 (by decide)) rfl rfl (Nat.le_of_ble_eq_true rfl) d_D_init_77 (fun H locs hP hS => ?_)
  have hP : va_P D zC (zl 8 ad7 (va_up ct17 0 (.inr (0, [.ref (ad7 1), .int 0, .null, .ref (ad7 2), .int 0, .ref (ad7 3), .ref (ad7 4), .ref (ad7 6), .int 0, .int 0])))) H := hP
  obtain ⟨ct18, hct18⟩ : ∃ c, c = va_up ct17 0 (.inr (0, [.ref (ad7 1), .int 0, .null, .ref (ad7 2), .int 0, .ref (ad7 3), .ref (ad7 4), .ref (ad7 6), .int 0, .int 0])) := ⟨_, rfl⟩
  rw [← hct18] at hP
  have x1 : ct18 1 = .inl (ca 2, 6, .inr (.inr (.inr (.inr (fun _ => none))))) := by rw [hct18]; exact (va_up_ne _ _ (by omega)).trans x1
  have x2 : ct18 2 = .inl (ca 3, 8, .inr (.inr (.inr (.inr (fun _ => none))))) := by rw [hct18]; exact (va_up_ne _ _ (by omega)).trans x2
  have x3 : ct18 3 = .inr (6, [.int 0]) := by rw [hct18]; exact (va_up_ne _ _ (by omega)).trans x3
  have x4 : ct18 4 = .inr (5, [.ref (ad7 5)]) := by rw [hct18]; exact (va_up_ne _ _ (by omega)).trans x4
  have x5 : ct18 5 = .inl (ca 0, 32, .inl (zf (fun _ => 0))) := by rw [hct18]; exact (va_up_ne _ _ (by omega)).trans x5
  have x6 : ct18 6 = .inr (5, [.ref (ad7 7)]) := by rw [hct18]; exact (va_up_ne _ _ (by omega)).trans x6
  have x7 : ct18 7 = .inl (ca 0, 32, .inl (zf (fun _ => 0))) := by rw [hct18]; exact (va_up_ne _ _ (by omega)).trans x7
  have c0 : ct18 0 = .inr (0, [.ref (ad7 1), .int 0, .null, .ref (ad7 2), .int 0, .ref (ad7 3), .ref (ad7 4), .ref (ad7 6), .int 0, .int 0]) := by rw [hct18]; exact va_up_self _ _ _
  refine W.cs (cells' := 7) (slots' := 81) rfl rfl ?_
  exact W.vret hx hb hr (fun t ht hW => ⟨⟨(8, ad7, ct18), rfl, ⟨rfl, (hag7 0 (by decide)).trans ((hag6 0 (by decide)).trans ((hag5 0 (by decide)).trans ((hag4 0 (by decide)).trans ((hag3 0 (by decide)).trans ((hag2 0 (by decide)).trans (hag1 0 (by decide))))))), hD, c0, x1, x2, x3, x4, x5, x6, x7⟩, zN_warm hW hN, va_K.moved hW.alike hK, by rw [ht]; exact hP⟩, hS.F ht⟩) hS.2.2 d_D_init_80
