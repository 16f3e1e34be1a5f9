/-! the desk's world: n numbered cells -/
def zf (f : Nat → Nat) : Nat → Int32 := fun i => nI (f i)
theorem zf_up (f : Nat → Nat) (k v : Nat) : upd (zf f) k (nI v) = zf (va_up f k v) := by
  funext i
  unfold upd zf va_up
  split <;> rfl
def dw (D : va_G) (ca : Nat → ClassId) (n : Nat) (ad : Nat → Nat) (ct : Nat → va_E) (U : State) : Prop := zN U ∧ va_K D zC (zty ca) U ∧ va_P D zC (zl n ad ct) U.heap
def dA (n : Nat) (ad : Nat → Nat) : Nat → Prop := fun q => ∃ j, j < n ∧ ad j = q
def dI (n : Nat) (ad : Nat → Nat) : Prop := ∀ i j, i < n → j < n → ad i = ad j → i = j
theorem dI_D {n : Nat} {ad : Nat → Nat} (h : dI n ad) : zD (dA n ad) n ad := ⟨h, fun j hj => ⟨j, hj, rfl⟩⟩
section DW
variable {p : Program} {l : Launch} {e : Env} {R : Room} {s : State} {m : MethodId} {args : Array Value} {below : List Frame} {meth : Method} {c : Code} {H H0 : Heap} {locs : List Loc} {cells slots pc nL n : Nat} {ls : Array Slot} {rest st0 : List Value} {cc : ByteArray} {Q : State → Prop} {A : Nat → Prop} {D : va_G} {ca : Nat → ClassId} {ad : Nat → Nat} {ct : Nat → va_E} {own : String}
theorem zz_alen (hexec : p.tables.exec = Jvm.exec) (hb : c.code = cc) (hK : va_K D zC (zty ca) s) (hP : va_P D zC (zl n ad ct) H) {j : Nat} (hj : j < n) {t0 : Nat} {N : Nat} {x : (Nat → Int32) ⊕ (Nat → Int64) ⊕ (Nat → UInt32) ⊕ (Nat → UInt64) ⊕ (Nat → Option Nat)} (ht0 : t0 < 4) (ha : ct j = .inl (ca t0, N, x)) (hdg : decode cc pc = .ok (.arraylength, 1))
    (kk : W p l e R s m args below meth c H locs cells slots Q (F0 m (pc + 1) ls (.int (nI N) :: rest))) : W p l e R s m args below meth c H locs cells slots Q (F0 m pc ls (.ref (ad j) :: rest)) := by
  rcases (show t0 = 0 ∨ t0 = 1 ∨ t0 = 2 ∨ t0 = 3 by omega) with rfl | rfl | rfl | rfl
  · exact va_alen (cA := ca 0) (x := (N, x)) hexec hb hK hP j 0 ((zl_get hj).trans (by rw [ha])) (ty := .int) rfl rfl hdg kk
  · exact va_alen (cA := ca 1) (x := (N, x)) hexec hb hK hP j 1 ((zl_get hj).trans (by rw [ha])) (ty := .boolean) rfl rfl hdg kk
  · exact va_alen (cA := ca 2) (x := (N, x)) hexec hb hK hP j 2 ((zl_get hj).trans (by rw [ha])) (ty := .object R_S) rfl rfl hdg kk
  · exact va_alen (cA := ca 3) (x := (N, x)) hexec hb hK hP j 3 ((zl_get hj).trans (by rw [ha])) (ty := .object R_F) rfl rfl hdg kk
theorem dd_ald (hexec : p.tables.exec = Jvm.exec) (hb : c.code = cc) (hK : va_K D zC (zty ca) s) (hP : va_P D zC (zl n ad ct) H) {j : Nat} (hj : j < n) {N : Nat} {f : Nat → Nat} (ha : ct j = .inl (ca 0, N, .inl (zf f))) {i : Int32} (k : Nat) (hi : i = nI k) (hk : k < N) (hN : N < 2 ^ 31) (x : Nat) (hv : f k = x) (hdg : decode cc pc = .ok (.iaload, 1))
    (kk : W p l e R s m args below meth c H locs cells slots Q (F0 m (pc + 1) ls (.int (nI x) :: rest))) : W p l e R s m args below meth c H locs cells slots Q (F0 m pc ls (.int i :: .ref (ad j) :: rest)) := by
  subst hv
  exact zz_iald hexec hb hK hP hj 0 ha rfl k hi hk hN hdg kk
theorem dd_ast (hexec : p.tables.exec = Jvm.exec) (hb : c.code = cc) (hK : va_K D zC (zty ca) s) (hP : va_P D zC (zl n ad ct) H) (hD : zD A n ad) (hS : va_S A H0 H locs) {j : Nat} (hj : j < n) {N : Nat} {f : Nat → Nat} (ha : ct j = .inl (ca 0, N, .inl (zf f))) {i x : Int32} (k : Nat) (hi : i = nI k) (hk : k < N) (hN : N < 2 ^ 31) (v : Nat) (hv : x = nI v) (hdg : decode cc pc = .ok (.iastore, 1))
    (kk : ∀ (H1 : Heap) (locs1 : List Loc), va_P D zC (zl n ad (va_up ct j (.inl (ca 0, N, .inl (zf (va_up f k v)))))) H1 → va_S A H0 H1 locs1 → W p l e R s m args below meth c H1 locs1 cells slots Q (F0 m (pc + 1) ls rest)) : W p l e R s m args below meth c H locs cells slots Q (F0 m pc ls (.int x :: .int i :: .ref (ad j) :: rest)) := by
  subst hv
  exact zz_iast hexec hb hK hP hD hS hj 0 ha rfl k hi hk hN hdg (fun H1 locs1 h1 h2 => kk H1 locs1 (by rw [zf_up] at h1; exact h1) h2)
/-- a call on an object of the desk's world: its start -/
theorem dd_pre {As : List Value} (hN : zN s) (hK : va_K D zC (zty ca) s) (hP : va_P D zC (zl n ad ct) H) {j ci : Nat} {fs : List Value} {r : vw_C} (hj : j < n) (he : ct j = .inr (ci, fs)) (hc : zC[ci]? = some r) : PreV s H r.1 (ad j) (va_Pc (.ref (ad j) :: As) (dw D ca n ad ct)) As := by
  refine ⟨fun a U g mk q => ⟨q.1, zN_same (u := U) (U := U.calling g mk a) rfl q.2.1, va_K.moved (u := U) (U := U.calling g mk a) (Vm.Alike.refl U.vm) q.2.2.1, q.2.2.2⟩, ?_, fun U hU hW => ⟨rfl, zN_warm hW hN, va_K.moved hW.alike hK, by rw [hU]; exact hP⟩⟩
  exact va_recv hK hP hc ((zl_get hj).trans (by rw [he]))
theorem dd_preS {As : List Value} (hN : zN s) (hK : va_K D zC (zty ca) s) (hP : va_P D zC (zl n ad ct) H) : PreS s H (va_Pc As (dw D ca n ad ct)) As :=
  ⟨fun a U g mk q => ⟨q.1, zN_same (u := U) (U := U.calling g mk a) rfl q.2.1, va_K.moved (u := U) (U := U.calling g mk a) (Vm.Alike.refl U.vm) q.2.2.1, q.2.2.2⟩, fun U hU hW => ⟨rfl, zN_warm hW hN, va_K.moved hW.alike hK, by rw [hU]; exact hP⟩⟩
/-- a method of an object that answers a number and changes the cells by post -/
theorem dd_ci {index maxL k : Nat} {C : String} {b : Nat} {y : MethodName} {bytes : ByteArray} {ret : Option FieldType} {rm : Room} {As : List Value} {post : Int32 → (Nat → va_E) → Prop}
    (S : CallFix p m c cc nL s args zT own) (hM : Met l y (Cond.code y bytes maxL ret :: zT) rm (va_Pc (.ref b :: As) (dw D ca n ad ct)) (va_Qi post (dw D ca n ad) (dA n ad)) 0 0 (dA n ad))
    (w1 : Cond.methodLink own index y ∈ zT) (w2 : Cond.instanceMethod y ∈ zT) (w5 : Cond.selects C y y ∈ zT) (w3 : Cond.initialized y.cls ∈ zT) (w4 : Cond.code y bytes maxL ret ∈ zT)
    (hd : y.cls ≠ "java/lang/invoke/MethodHandle" ∧ y.cls ≠ "java/lang/invoke/VarHandle" ∧ (parseMethodDescriptor y.desc).map (fun d => d.parameters.length) = some k)
    (hz : rm.cells = 0 ∧ rm.slots = 0) (hR : rm.frames + 1 ≤ R.frames ∧ 8 + (maxL + 11) + rm.locals ≤ R.locals) (hp : PreV s H C b (va_Pc (.ref b :: As) (dw D ca n ad ct)) As) (hS : va_S A H0 H locs) (hA : ∀ q, dA n ad q → A q) (hn : As.length = k) (hsize : ls.size = nL)
    (hstack : st0 = As.reverse ++ .ref b :: rest) (hW : (rest.map fun v => v.category).sum ≤ 8) (hdg : decode cc pc = .ok (.invokevirtual index, 3)) (hf : cells ≤ R.cells ∧ slots ≤ R.slots)
    (kk : ∀ (r : Int32) (ct1 : Nat → va_E) (H1 : Heap) (locs1 : List Loc), post r ct1 → va_P D zC (zl n ad ct1) H1 → va_S A H0 H1 locs1 → W p l e R s m args below meth c H1 locs1 cells slots Q (F0 m (pc + 3) ls (.int r :: rest))) : W p l e R s m args below meth c H locs cells slots Q (F0 m pc ls st0) := by
  subst hstack
  exact va_calli (va_runV S hM ⟨zz_cb S.2.2.2.2 w1 w3 w4 hd hz hR, S.2.2.2.2 _ w2, S.2.2.2.2 _ w5⟩ hp rfl hn hsize rfl (lv_room hW) hdg ⟨hf.1, hf.2⟩) hS (fun q _ h => hA q h) hA (fun r u t H1 locs1 ht hvm hpost hB _ _ hS1 => kk r u H1 locs1 hpost (by rw [← ht]; exact hB.2.2) hS1)
theorem dd_cv {index maxL k : Nat} {C : String} {b : Nat} {y : MethodName} {bytes : ByteArray} {ret : Option FieldType} {rm : Room} {As : List Value} {post : (Nat → va_E) → Prop}
    (S : CallFix p m c cc nL s args zT own) (hM : Met l y (Cond.code y bytes maxL ret :: zT) rm (va_Pc (.ref b :: As) (dw D ca n ad ct)) (va_Qv post (dw D ca n ad) (dA n ad)) 0 0 (dA n ad))
    (w1 : Cond.methodLink own index y ∈ zT) (w2 : Cond.instanceMethod y ∈ zT) (w5 : Cond.selects C y y ∈ zT) (w3 : Cond.initialized y.cls ∈ zT) (w4 : Cond.code y bytes maxL ret ∈ zT)
    (hd : y.cls ≠ "java/lang/invoke/MethodHandle" ∧ y.cls ≠ "java/lang/invoke/VarHandle" ∧ (parseMethodDescriptor y.desc).map (fun d => d.parameters.length) = some k)
    (hz : rm.cells = 0 ∧ rm.slots = 0) (hR : rm.frames + 1 ≤ R.frames ∧ 8 + (maxL + 11) + rm.locals ≤ R.locals) (hp : PreV s H C b (va_Pc (.ref b :: As) (dw D ca n ad ct)) As) (hS : va_S A H0 H locs) (hA : ∀ q, dA n ad q → A q) (hn : As.length = k) (hsize : ls.size = nL)
    (hstack : st0 = As.reverse ++ .ref b :: rest) (hW : (rest.map fun v => v.category).sum ≤ 8) (hdg : decode cc pc = .ok (.invokevirtual index, 3)) (hf : cells ≤ R.cells ∧ slots ≤ R.slots)
    (kk : ∀ (ct1 : Nat → va_E) (H1 : Heap) (locs1 : List Loc), post ct1 → va_P D zC (zl n ad ct1) H1 → va_S A H0 H1 locs1 → W p l e R s m args below meth c H1 locs1 cells slots Q (F0 m (pc + 3) ls rest)) : W p l e R s m args below meth c H locs cells slots Q (F0 m pc ls st0) := by
  subst hstack
  exact va_callv (va_runV S hM ⟨zz_cb S.2.2.2.2 w1 w3 w4 hd hz hR, S.2.2.2.2 _ w2, S.2.2.2.2 _ w5⟩ hp rfl hn hsize rfl (lv_room hW) hdg ⟨hf.1, hf.2⟩) hS (fun q _ h => hA q h) hA (fun u t H1 locs1 ht hvm hpost hB _ _ hS1 => kk u H1 locs1 hpost (by rw [← ht]; exact hB.2.2) hS1)
/-- a static one that answers nothing -/
theorem dd_cvS {index maxL k : Nat} {y : MethodName} {bytes : ByteArray} {ret : Option FieldType} {rm : Room} {As : List Value} {post : (Nat → va_E) → Prop}
    (S : CallFix p m c cc nL s args zT own) (hM : Met l y (Cond.code y bytes maxL ret :: zT) rm (va_Pc As (dw D ca n ad ct)) (va_Qv post (dw D ca n ad) (dA n ad)) 0 0 (dA n ad))
    (w1 : Cond.methodLink own index y ∈ zT) (w2 : Cond.static y ∈ zT) (w3 : Cond.initialized y.cls ∈ zT) (w4 : Cond.code y bytes maxL ret ∈ zT)
    (hd : y.cls ≠ "java/lang/invoke/MethodHandle" ∧ y.cls ≠ "java/lang/invoke/VarHandle" ∧ (parseMethodDescriptor y.desc).map (fun d => d.parameters.length) = some k)
    (hz : rm.cells = 0 ∧ rm.slots = 0) (hR : rm.frames + 1 ≤ R.frames ∧ 8 + (maxL + 11) + rm.locals ≤ R.locals) (hN : zN s) (hK : va_K D zC (zty ca) s) (hP : va_P D zC (zl n ad ct) H) (hS : va_S A H0 H locs) (hA : ∀ q, dA n ad q → A q) (hn : As.length = k) (hsize : ls.size = nL)
    (hstack : st0 = As.reverse ++ rest) (hW : (rest.map fun v => v.category).sum ≤ 8) (hdg : decode cc pc = .ok (.invokestatic index, 3)) (hf : cells ≤ R.cells ∧ slots ≤ R.slots)
    (kk : ∀ (ct1 : Nat → va_E) (H1 : Heap) (locs1 : List Loc), post ct1 → va_P D zC (zl n ad ct1) H1 → va_S A H0 H1 locs1 → W p l e R s m args below meth c H1 locs1 cells slots Q (F0 m (pc + 3) ls rest)) : W p l e R s m args below meth c H locs cells slots Q (F0 m pc ls st0) := by
  subst hstack
  exact va_callv (va_runS S hM ⟨zz_cb S.2.2.2.2 w1 w3 w4 hd hz hR, S.2.2.2.2 _ w2⟩ (dd_preS hN hK hP) rfl hn hsize rfl (lv_room hW) hdg ⟨hf.1, hf.2⟩) hS (fun q _ h => hA q h) hA (fun u t H1 locs1 ht hvm hpost hB _ _ hS1 => kk u H1 locs1 hpost (by rw [← ht]; exact hB.2.2) hS1)
end DW
