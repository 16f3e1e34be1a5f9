/-! the law's ground: desk's and model's worlds side by side, calls on either, reads of the script -/
def lA (s : State) : Nat → Prop := fun q => s.heap.size ≤ q
def lJ (D : va_G) (ca : Nat → ClassId) (s : State) (H : Heap) (locs : List Loc) (n : Nat) (ad : Nat → Nat) (ct : Nat → va_E) (am : Nat → Nat) (ar : Nat → Nat → Nat) : Prop := va_P D zC (zl n ad ct) H ∧ va_P D zC (zl 28 am (mct ca am ar)) H ∧ zD (lA s) n ad ∧ zD (lA s) 28 am ∧ (∀ i j, i < n → j < 28 → ad i ≠ am j) ∧ va_S (lA s) s.heap H locs
theorem zP_lt {D : va_G} {cl : List vw_C} {n : Nat} {ad : Nat → Nat} {ct : Nat → va_E} {H : Heap} (h : va_P D cl (zl n ad ct) H) {j : Nat} (hj : j < n) : ad j < H.size := (zP_at h hj).lt
/-- a world that lies apart stands -/
theorem zP_apart {D : va_G} {cl : List vw_C} {n : Nat} {ad : Nat → Nat} {ct : Nat → va_E} {H H1 : Heap} {A1 : Nat → Prop} (h : va_P D cl (zl n ad ct) H) (hq : ∀ q : Nat, q < H.size → ¬ A1 q → H1[q]? = H[q]?) (hn : ∀ j, j < n → ¬ A1 (ad j)) : va_P D cl (zl n ad ct) H1 :=
  h.kept (fun k q hk => by
    obtain ⟨h1, rfl⟩ := zl_get' hk
    exact hq _ (zP_lt h h1) (hn k h1))
theorem nI_all (x : Int32) : nI x.toBitVec.toNat = x := Int32.toBitVec_inj.mp (by simp [nI])
def xN (xs : Nat → Int32) (j : Nat) : Nat := (xs j).toBitVec.toNat
theorem xN_nI (xs : Nat → Int32) (j : Nat) : xs j = nI (xN xs j) := (nI_all _).symm
theorem xN_lt (xs : Nat → Int32) (j : Nat) : xN xs j < 2 ^ 32 := (xs j).toBitVec.isLt
section LW
variable {p : Program} {l : Launch} {e : Env} {R : Room} {s : State} {m : MethodId} {args : Array Value} {below : List Frame} {meth : Method} {c : Code} {H : Heap} {locs : List Loc} {cells slots pc nL n : Nat} {ls : Array Slot} {rest st0 : List Value} {cc : ByteArray} {Q : State → Prop} {D : va_G} {ca : Nat → ClassId} {ad am : Nat → Nat} {ct : Nat → va_E} {ar : Nat → Nat → Nat} {own : String}
theorem lJ_dI (h : lJ D ca s H locs n ad ct am ar) : dI n ad := h.2.2.1.1
theorem lJ_mI (h : lJ D ca s H locs n ad ct am ar) : mI am := h.2.2.2.1.1
/-- a call on the desk that changes its cells -/
theorem ld_ci {index maxL k : Nat} {y : MethodName} {bytes : ByteArray} {ret : Option FieldType} {rm : Room} {As : List Value} {post : Int32 → (Nat → va_E) → Prop} {fs : List Value}
    (S : CallFix p m c cc nL s args zT own) (hM : Met l y (Cond.code y bytes maxL ret :: zT) rm (va_Pc (.ref (ad 0) :: As) (dw D ca n ad ct)) (va_Qi post (dw D ca n ad) (dA n ad)) 0 0 (dA n ad))
    (w1 : Cond.methodLink own index y ∈ zT) (w2 : Cond.instanceMethod y ∈ zT) (w5 : Cond.selects R_D y y ∈ zT) (w3 : Cond.initialized y.cls ∈ zT) (w4 : Cond.code y bytes maxL ret ∈ zT)
    (hd : y.cls ≠ "java/lang/invoke/MethodHandle" ∧ y.cls ≠ "java/lang/invoke/VarHandle" ∧ (parseMethodDescriptor y.desc).map (fun d => d.parameters.length) = some k)
    (hz : rm.cells = 0 ∧ rm.slots = 0) (hR : rm.frames + 1 ≤ R.frames ∧ 8 + (maxL + 11) + rm.locals ≤ R.locals) (hN : zN s) (hK : va_K D zC (zty ca) s) (hJ : lJ D ca s H locs n ad ct am ar) (hn0 : 8 ≤ n) (h0 : ct 0 = .inr (0, fs)) (hn : As.length = k) (hsize : ls.size = nL)
    (hstack : st0 = As.reverse ++ .ref (ad 0) :: rest) (hW : (rest.map fun v => v.category).sum ≤ 8) (hdg : decode cc pc = .ok (.invokevirtual index, 3)) (hf : cells ≤ R.cells ∧ slots ≤ R.slots)
    (kk : ∀ (r : Int32) (ct1 : Nat → va_E) (H1 : Heap) (locs1 : List Loc), post r ct1 → lJ D ca s H1 locs1 n ad ct1 am ar → W p l e R s m args below meth c H1 locs1 cells slots Q (F0 m (pc + 3) ls (.int r :: rest))) : W p l e R s m args below meth c H locs cells slots Q (F0 m pc ls st0) := by
  subst hstack
  obtain ⟨j1, j2, j3, j4, j5, j6⟩ := hJ
  exact va_calli (va_runV S hM ⟨zz_cb S.2.2.2.2 w1 w3 w4 hd hz hR, S.2.2.2.2 _ w2, S.2.2.2.2 _ w5⟩ (dd_pre hN hK j1 (j := 0) (by omega) h0 (r := (R_D, T_D, 10)) rfl) rfl hn hsize rfl (lv_room hW) hdg ⟨hf.1, hf.2⟩) j6 (fun q _ h => zD_A j3 q h) (zD_A j3) (fun r u t H1 locs1 ht hvm hpost hB _ hq hS1 => kk r u H1 locs1 hpost ⟨by rw [← ht]; exact hB.2.2, zP_apart j2 hq (fun j hj ⟨i, hi, e⟩ => j5 i j hi hj e), j3, j4, j5, hS1⟩)
/-- one that makes new cells -/
theorem ld_cx {index maxL k mc ms : Nat} {y : MethodName} {bytes : ByteArray} {ret : Option FieldType} {rm : Room} {As : List Value} {post : Int32 → dU → Prop} {fs : List Value}
    (S : CallFix p m c cc nL s args zT own) (hM : Met l y (Cond.code y bytes maxL ret :: zT) rm (va_Pc (.ref (ad 0) :: As) (fun U => U.heap.size = H.size ∧ dw D ca n ad ct U)) (va_Qi post (fun u : dU => dw D ca u.1 u.2.1 u.2.2) (nA n ad H.size)) mc ms (nA n ad H.size))
    (w1 : Cond.methodLink own index y ∈ zT) (w2 : Cond.instanceMethod y ∈ zT) (w5 : Cond.selects R_D y y ∈ zT) (w3 : Cond.initialized y.cls ∈ zT) (w4 : Cond.code y bytes maxL ret ∈ zT)
    (hd : y.cls ≠ "java/lang/invoke/MethodHandle" ∧ y.cls ≠ "java/lang/invoke/VarHandle" ∧ (parseMethodDescriptor y.desc).map (fun d => d.parameters.length) = some k)
    (hz : rm.cells = mc ∧ rm.slots = ms) (hR : rm.frames + 1 ≤ R.frames ∧ 8 + (maxL + 11) + rm.locals ≤ R.locals) (hN : zN s) (hK : va_K D zC (zty ca) s) (hJ : lJ D ca s H locs n ad ct am ar) (hn0 : 8 ≤ n) (h0 : ct 0 = .inr (0, fs)) (hn : As.length = k) (hsize : ls.size = nL)
    (hstack : st0 = As.reverse ++ .ref (ad 0) :: rest) (hW : (rest.map fun v => v.category).sum ≤ 8) (hdg : decode cc pc = .ok (.invokevirtual index, 3)) (hf : cells + mc ≤ R.cells ∧ slots + ms ≤ R.slots)
    (hzD : ∀ r u, post r u → zD (nA n ad H.size) u.1 u.2.1)
    (kk : ∀ (r : Int32) (u : dU) (H1 : Heap) (locs1 : List Loc), post r u → lJ D ca s H1 locs1 u.1 u.2.1 u.2.2 am ar → W p l e R s m args below meth c H1 locs1 (cells + mc) (slots + ms) Q (F0 m (pc + 3) ls (.int r :: rest))) : W p l e R s m args below meth c H locs cells slots Q (F0 m pc ls st0) := by
  subst hstack
  obtain ⟨j1, j2, j3, j4, j5, j6⟩ := hJ
  have hsz : ∀ q, H.size ≤ q → lA s q := fun q h => Nat.le_trans j6.1 h
  have hA : ∀ q, nA n ad H.size q → lA s q := fun q h => h.elim (zD_A j3 q) (hsz q)
  have hp : PreV s H R_D (ad 0) (va_Pc (.ref (ad 0) :: As) (fun U => U.heap.size = H.size ∧ dw D ca n ad ct U)) As := by
    refine ⟨fun a U g mk q => ⟨q.1, q.2.1, zN_same (u := U) (U := U.calling g mk a) rfl q.2.2.1, va_K.moved (u := U) (U := U.calling g mk a) (Vm.Alike.refl U.vm) q.2.2.2.1, q.2.2.2.2⟩, ?_, fun U hU hW => ⟨rfl, by rw [hU], zN_warm hW hN, va_K.moved hW.alike hK, by rw [hU]; exact j1⟩⟩
    exact va_recv hK j1 (show zC[0]? = some (R_D, T_D, 10) from rfl) ((zl_get (show 0 < n by omega)).trans (by rw [h0]))
  exact va_calli (va_runV S hM ⟨zz_cb S.2.2.2.2 w1 w3 w4 hd hz hR, S.2.2.2.2 _ w2, S.2.2.2.2 _ w5⟩ hp rfl hn hsize rfl (lv_room hW) hdg ⟨hf.1, hf.2⟩) j6 (fun q _ h => hA q h) hA (fun r u t H1 locs1 ht hvm hpost hB _ hq hS1 => by
    have hz := hzD r u hpost
    have hap : ∀ j, j < 28 → ¬ nA n ad H.size (am j) := fun j hj h => by
      rcases h with ⟨i, hi, e⟩ | h
      · exact j5 i j hi hj e
      · have := zP_lt j2 hj; omega
    refine kk r u H1 locs1 hpost ⟨by rw [← ht]; exact hB.2.2, zP_apart j2 hq hap, ⟨hz.1, fun j hj => hA _ (hz.2 j hj)⟩, j4, fun i j hi hj e => hap j hj (e ▸ hz.2 i hi), hS1⟩)
/-- a call on the model -/
theorem lm_ci {index maxL k : Nat} {y : MethodName} {bytes : ByteArray} {ret : Option FieldType} {rm : Room} {As : List Value} {post : Int32 → (Nat → Nat → Nat) → Prop}
    (S : CallFix p m c cc nL s args zT own) (hM : Met l y (Cond.code y bytes maxL ret :: zT) rm (va_Pc (.ref (am 0) :: As) (mw D ca am ar)) (va_Qi post (mw D ca am) (mA am)) 0 0 (mA am))
    (w1 : Cond.methodLink own index y ∈ zT) (w2 : Cond.instanceMethod y ∈ zT) (w5 : Cond.selects R_M y y ∈ zT) (w3 : Cond.initialized y.cls ∈ zT) (w4 : Cond.code y bytes maxL ret ∈ zT)
    (hd : y.cls ≠ "java/lang/invoke/MethodHandle" ∧ y.cls ≠ "java/lang/invoke/VarHandle" ∧ (parseMethodDescriptor y.desc).map (fun d => d.parameters.length) = some k)
    (hz : rm.cells = 0 ∧ rm.slots = 0) (hR : rm.frames + 1 ≤ R.frames ∧ 8 + (maxL + 11) + rm.locals ≤ R.locals) (hK : va_K D zC (zty ca) s) (hJ : lJ D ca s H locs n ad ct am ar) (hn : As.length = k) (hsize : ls.size = nL)
    (hstack : st0 = As.reverse ++ .ref (am 0) :: rest) (hW : (rest.map fun v => v.category).sum ≤ 8) (hdg : decode cc pc = .ok (.invokevirtual index, 3)) (hf : cells ≤ R.cells ∧ slots ≤ R.slots)
    (kk : ∀ (r : Int32) (ar1 : Nat → Nat → Nat) (H1 : Heap) (locs1 : List Loc), post r ar1 → lJ D ca s H1 locs1 n ad ct am ar1 → W p l e R s m args below meth c H1 locs1 cells slots Q (F0 m (pc + 3) ls (.int r :: rest))) : W p l e R s m args below meth c H locs cells slots Q (F0 m pc ls st0) := by
  subst hstack
  obtain ⟨j1, j2, j3, j4, j5, j6⟩ := hJ
  exact va_calli (va_runV S hM ⟨zz_cb S.2.2.2.2 w1 w3 w4 hd hz hR, S.2.2.2.2 _ w2, S.2.2.2.2 _ w5⟩ (mm_pre hK j2) rfl hn hsize rfl (lv_room hW) hdg ⟨hf.1, hf.2⟩) j6 (fun q _ ⟨i, hi, e⟩ => e ▸ j4.2 i hi) (fun q ⟨i, hi, e⟩ => e ▸ j4.2 i hi) (fun r u t H1 locs1 ht hvm hpost hB _ hq hS1 => kk r u H1 locs1 hpost ⟨zP_apart j1 hq (fun i hi ⟨j, hj, e⟩ => j5 i j hi hj e.symm), by rw [← ht]; exact hB.2, j3, j4, j5, hS1⟩)
/-- reads only -/
theorem ld_cr {index maxL k : Nat} {y : MethodName} {bytes : ByteArray} {ret : Option FieldType} {rm : Room} {As : List Value} {r : Int32} {fs : List Value}
    (S : CallFix p m c cc nL s args zT own) (hM : Met l y (Cond.code y bytes maxL ret :: zT) rm (va_Pc (.ref (ad 0) :: As) (dw D ca n ad ct)) (QcRead r) 0 0 (fun _ => False))
    (w1 : Cond.methodLink own index y ∈ zT) (w2 : Cond.instanceMethod y ∈ zT) (w5 : Cond.selects R_D y y ∈ zT) (w3 : Cond.initialized y.cls ∈ zT) (w4 : Cond.code y bytes maxL ret ∈ zT)
    (hd : y.cls ≠ "java/lang/invoke/MethodHandle" ∧ y.cls ≠ "java/lang/invoke/VarHandle" ∧ (parseMethodDescriptor y.desc).map (fun d => d.parameters.length) = some k)
    (hz : rm.cells = 0 ∧ rm.slots = 0) (hR : rm.frames + 1 ≤ R.frames ∧ 8 + (maxL + 11) + rm.locals ≤ R.locals) (hN : zN s) (hK : va_K D zC (zty ca) s) (hJ : lJ D ca s H locs n ad ct am ar) (hn0 : 8 ≤ n) (h0 : ct 0 = .inr (0, fs)) (hn : As.length = k) (hsize : ls.size = nL)
    (hstack : st0 = As.reverse ++ .ref (ad 0) :: rest) (hW : (rest.map fun v => v.category).sum ≤ 8) (hdg : decode cc pc = .ok (.invokevirtual index, 3)) (hf : cells ≤ R.cells ∧ slots ≤ R.slots)
    (kk : W p l e R s m args below meth c H locs cells slots Q (F0 m (pc + 3) ls (.int r :: rest))) : W p l e R s m args below meth c H locs cells slots Q (F0 m pc ls st0) :=
  zz_cV S hM w1 w2 w5 w3 w4 hd hz hR (dd_pre hN hK hJ.1 (j := 0) (by omega) h0 (r := (R_D, T_D, 10)) rfl) hn hsize hstack hW hdg hf kk
theorem lm_cr {index maxL k : Nat} {y : MethodName} {bytes : ByteArray} {ret : Option FieldType} {rm : Room} {As : List Value} {r : Int32}
    (S : CallFix p m c cc nL s args zT own) (hM : Met l y (Cond.code y bytes maxL ret :: zT) rm (va_Pc (.ref (am 0) :: As) (mw D ca am ar)) (QcRead r) 0 0 (fun _ => False))
    (w1 : Cond.methodLink own index y ∈ zT) (w2 : Cond.instanceMethod y ∈ zT) (w5 : Cond.selects R_M y y ∈ zT) (w3 : Cond.initialized y.cls ∈ zT) (w4 : Cond.code y bytes maxL ret ∈ zT)
    (hd : y.cls ≠ "java/lang/invoke/MethodHandle" ∧ y.cls ≠ "java/lang/invoke/VarHandle" ∧ (parseMethodDescriptor y.desc).map (fun d => d.parameters.length) = some k)
    (hz : rm.cells = 0 ∧ rm.slots = 0) (hR : rm.frames + 1 ≤ R.frames ∧ 8 + (maxL + 11) + rm.locals ≤ R.locals) (hK : va_K D zC (zty ca) s) (hJ : lJ D ca s H locs n ad ct am ar) (hn : As.length = k) (hsize : ls.size = nL)
    (hstack : st0 = As.reverse ++ .ref (am 0) :: rest) (hW : (rest.map fun v => v.category).sum ≤ 8) (hdg : decode cc pc = .ok (.invokevirtual index, 3)) (hf : cells ≤ R.cells ∧ slots ≤ R.slots)
    (kk : W p l e R s m args below meth c H locs cells slots Q (F0 m (pc + 3) ls (.int r :: rest))) : W p l e R s m args below meth c H locs cells slots Q (F0 m pc ls st0) :=
  zz_cV S hM w1 w2 w5 w3 w4 hd hz hR (mm_pre hK hJ.2.1) hn hsize hstack hW hdg hf kk
/-- a number of the script -/
theorem l_rd (hx : p.tables.exec = Jvm.exec) (hb : c.code = cc) {b L i : Nat} {xs : Nat → Int32} (hX : va_X b L xs s s.heap) (hbl : b < s.heap.size) (hJ : lJ D ca s H locs n ad ct am ar) {a1 a2 : Nat} (hl : lv_has ls 4 [(3, .int (nI i)), (2, .ref a2), (1, .ref a1), (0, .ref b)]) (hL : L ≤ 2560) (hi : i + 5 ≤ L) (k : Nat) {vi : Int} (hvi : Int32.ofInt vi = nI k) (hk : k < 5) (d0 : decode cc pc = .ok (.aload_n 0, 1)) (d1 : decode cc (pc + 1) = .ok (.iload_n 3, 1)) (d2 : decode cc (pc + 2) = .ok (.iconst vi, 1)) (d3 : decode cc (pc + 3) = .ok (.iadd, 1)) (d4 : decode cc (pc + 4) = .ok (.iaload, 1))
    (kk : W p l e R s m args below meth c H locs cells slots Q (F0 m (pc + 5) ls (.int (nI (xN xs (i + k))) :: rest))) : W p l e R s m args below meth c H locs cells slots Q (F0 m pc ls rest) := by
  refine lv_aload_n hx hb d0 rfl (lv_at hl 3 rfl) ?_
  refine lv_iload_n hx hb d1 rfl (lv_at hl 0 rfl) ?_
  refine lv_iconst (v := nI k) hx hb d2 hvi ?_
  refine lv_iadd hx hb d3 ?_
  rw [nI_add]
  refine va_sld (A := lA s) hx hb hX hbl (fun h => Nat.not_le_of_lt hbl h) hJ.2.2.2.2.2 (vp_in_nI (show i + k < L by omega) (by omega)) d4 ?_
  rw [nI_clamp (show i + k < 2 ^ 31 by omega), xN_nI xs]
  exact kk
end LW
/-- what stands through the law's body -/
def lX (p : Program) (s : State) (m : MethodId) (c : Code) (b L : Nat) (xs : Nat → Int32) (D : va_G) (ca : Nat → ClassId) : Prop := p.tables.exec = Jvm.exec ∧ c.code = code ∧ c.maxLocals = 4 ∧ s.vm.findClass R_L = some m.cls ∧ (∀ w ∈ zT, w.before #[Value.ref b] s = true) ∧ zN s ∧ va_K D zC (zty ca) s ∧ va_X b L xs s s.heap ∧ b < s.heap.size ∧ L ≤ 2560
/-- what a case owes: the two answers are the same, and the pair goes on -/
def lK (p : Program) (l : Launch) (e : Env) (s : State) (m : MethodId) (b : Nat) (below : List Frame) (meth : Method) (c : Code) (Q : State → Prop) (D : va_G) (ca : Nat → ClassId) (am : Nat → Nat) (a0 cells slots : Nat) (ls : Array Slot) : Prop := ∀ (n : Nat) (ad : Nat → Nat) (ct : Nat → va_E) (ar : Nat → Nat → Nat) (H : Heap) (locs : List Loc) (dc ds : Nat), lJ D ca s H locs n ad ct am ar → Cp ca n ad ct ar → ad 0 = a0 → dc ≤ 3 → ds ≤ 11 → W p l e room_1 s m #[Value.ref b] below meth c H locs (cells + dc) (slots + ds) Q (F0 m 624 ls [])
