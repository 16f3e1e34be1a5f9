/-! the model's world: cell 0 the object, cells 1 to 27 its arrays; the state ar: array j at place i, ar 0 the int fields (top size leaves saved committed state todo) -/
def mlen : Nat → Nat := fun j => match j with
  | 1 => 90 | 2 => 90 | 3 => 90 | 4 => 90 | 5 => 90 | 6 => 7
  | 7 => 15 | 8 => 15 | 9 => 15 | 10 => 15 | 11 => 16 | 12 => 16 | 13 => 8 | 14 => 16 | 15 => 8 | 16 => 8
  | 17 => 16 | 18 => 8 | 19 => 8 | 20 => 8 | 21 => 15 | 22 => 15 | 23 => 15 | 24 => 15 | 25 => 15 | 26 => 15 | 27 => 15
  | _ => 0
def mty : Nat → Nat := fun j => match j with
  | 21 => 1 | 25 => 1 | 27 => 1
  | _ => 0
theorem mlen_lt (j : Nat) : mlen j < 2 ^ 31 := by
  unfold mlen
  split <;> decide
abbrev zty (ca : Nat → ClassId) : List (ClassId × FieldType) := [(ca 0, .int), (ca 1, .boolean), (ca 2, .object R_S), (ca 3, .object R_F)]
def mfs (am : Nat → Nat) (ar : Nat → Nat → Nat) : List Value := [.ref (am 1), .ref (am 2), .ref (am 3), .ref (am 4), .ref (am 5), .ref (am 6), .ref (am 7), .ref (am 8), .ref (am 9), .ref (am 10), .ref (am 11), .ref (am 12), .ref (am 13), .ref (am 14), .ref (am 15), .ref (am 16), .ref (am 17), .ref (am 18), .ref (am 19), .ref (am 20), .ref (am 21), .ref (am 22), .ref (am 23), .ref (am 24), .ref (am 25), .ref (am 26), .ref (am 27), .int (nI (ar 0 0)), .int (nI (ar 0 1)), .int (nI (ar 0 2)), .int (nI (ar 0 3)), .int (nI (ar 0 4)), .int (nI (ar 0 5)), .int (nI (ar 0 6))]
def mct (ca : Nat → ClassId) (am : Nat → Nat) (ar : Nat → Nat → Nat) : Nat → va_E := fun j => match j with
  | 0 => .inr (1, mfs am ar)
  | j + 1 => .inl (ca (mty (j + 1)), mlen (j + 1), .inl (fun i => nI (ar (j + 1) i)))
theorem mct_set (ca : Nat → ClassId) (am : Nat → Nat) (ar : Nat → Nat → Nat) (j k v : Nat) : va_up (mct ca am ar) (j + 1) (.inl (ca (mty (j + 1)), mlen (j + 1), .inl (upd (fun i => nI (ar (j + 1) i)) k (nI v)))) = mct ca am (zs ar (j + 1) k v) := by
  funext q
  by_cases h : q = j + 1
  · subst h
    rw [va_up_self]
    show Sum.inl (ca (mty (j + 1)), mlen (j + 1), Sum.inl _) = Sum.inl (ca (mty (j + 1)), mlen (j + 1), Sum.inl _)
    congr 4
    funext i
    unfold upd
    by_cases hi : i = k
    · subst hi; rw [if_pos rfl, zs_eq]
    · rw [if_neg hi, zs_ni _ _ _ _ hi]
  · rw [va_up_ne _ _ h]
    cases q with
    | zero =>
      show Sum.inr (1, mfs am ar) = Sum.inr (1, mfs am (zs ar (j + 1) k v))
      unfold mfs
      rw [zs_row ar k v (show 0 ≠ j + 1 by omega)]
    | succ q =>
      show Sum.inl (ca (mty (q + 1)), mlen (q + 1), Sum.inl _) = Sum.inl (ca (mty (q + 1)), mlen (q + 1), Sum.inl _)
      rw [zs_row ar k v h]
theorem mct_setF (ca : Nat → ClassId) (am : Nat → Nat) (ar : Nat → Nat → Nat) {i : Nat} (hi : i < 7) (v : Nat) : va_up (mct ca am ar) 0 (.inr (1, (mfs am ar).set (27 + i) (.int (nI v)))) = mct ca am (zs ar 0 i v) := by
  funext q
  cases q with
  | zero =>
    rw [va_up_self]
    show Sum.inr (1, _) = Sum.inr (1, mfs am (zs ar 0 i v))
    rcases (show i = 0 ∨ i = 1 ∨ i = 2 ∨ i = 3 ∨ i = 4 ∨ i = 5 ∨ i = 6 by omega) with rfl | rfl | rfl | rfl | rfl | rfl | rfl <;> rfl
  | succ q =>
    rw [va_up_ne _ _ (by omega)]
    show Sum.inl (ca (mty (q + 1)), mlen (q + 1), Sum.inl _) = Sum.inl (ca (mty (q + 1)), mlen (q + 1), Sum.inl _)
    rw [zs_row ar i v (show q + 1 ≠ 0 by omega)]
/-- what the model's methods take and give: the classes are known, the cells hold ar -/
def mw (D : va_G) (ca : Nat → ClassId) (am : Nat → Nat) (ar : Nat → Nat → Nat) (U : State) : Prop := va_K D zC (zty ca) U ∧ va_P D zC (zl 28 am (mct ca am ar)) U.heap
def mA (am : Nat → Nat) : Nat → Prop := fun q => ∃ j, j < 28 ∧ am j = q
def mI (am : Nat → Nat) : Prop := ∀ i j, i < 28 → j < 28 → am i = am j → i = j
theorem mI_D {am : Nat → Nat} (h : mI am) : zD (mA am) 28 am := ⟨h, fun j hj => ⟨j, hj, rfl⟩⟩
theorem T_M_own (k : Nat) : (T_M k).1 = "SigmaDeskModel" := by
  unfold T_M
  split <;> rfl
theorem zn_fitb {v : Nat} (h : v < 2) : fits .boolean (.int (nI v)) = true := by
  rcases (show v = 0 ∨ v = 1 by omega) with rfl | rfl <;> rfl
theorem zn_narb {v : Nat} (h : v < 2) : narrow .boolean (.int (nI v)) = .int (nI v) := by
  rcases (show v = 0 ∨ v = 1 by omega) with rfl | rfl <;> rfl
section MW
variable {p : Program} {l : Launch} {e : Env} {R : Room} {s : State} {m : MethodId} {args : Array Value} {below : List Frame} {meth : Method} {c : Code} {H H0 : Heap} {locs : List Loc} {cells slots pc nL : Nat} {ls : Array Slot} {rest st0 : List Value} {cc : ByteArray} {Q : State → Prop} {A : Nat → Prop} {D : va_G} {ca : Nat → ClassId} {am : Nat → Nat} {ar : Nat → Nat → Nat} {own : String}
theorem mm_get (hx : p.tables.exec = Jvm.exec) (hb : c.code = cc) (hts : ∀ w ∈ zT, w.before args s = true) (hown : s.vm.findClass R_M = some m.cls) (hK : va_K D zC (zty ca) s) (hP : va_P D zC (zl 28 am (mct ca am ar)) H) {index : Nat} (k : Nat) (hk : k < 34) (w : Cond.fieldLink R_M index "SigmaDeskModel" (T_M k).2.1 (T_M k).2.2.1 ∈ zT) {v : Value} (hv : (mfs am ar)[k]? = some v) (hdg : decode cc pc = .ok (.getfield index, 3))
    (kk : W p l e R s m args below meth c H locs cells slots Q (F0 m (pc + 3) ls (v :: rest))) : W p l e R s m args below meth c H locs cells slots Q (F0 m pc ls (.ref (am 0) :: rest)) :=
  zz_get hx hb hts in_M hown hK hP (j := 0) (by decide) rfl rfl k hk (hts _ w) (fun _ h => by rw [T_M_own] at h; exact h) hv hdg kk
theorem mm_put (hx : p.tables.exec = Jvm.exec) (hb : c.code = cc) (hts : ∀ w ∈ zT, w.before args s = true) (hown : s.vm.findClass R_M = some m.cls) (hK : va_K D zC (zty ca) s) (hP : va_P D zC (zl 28 am (mct ca am ar)) H) (hD : zD A 28 am) (hS : va_S A H0 H locs) {index : Nat} (i : Nat) (hi : i < 7) (w : Cond.fieldLink R_M index "SigmaDeskModel" (T_M (27 + i)).2.1 (T_M (27 + i)).2.2.1 ∈ zT) {x : Int32} (v : Nat) (hv : x = nI v) (hn : narrow (ft_M (27 + i)) (.int (nI v)) = .int (nI v)) (hf : fits (ft_M (27 + i)) (.int (nI v)) = true) (hdg : decode cc pc = .ok (.putfield index, 3))
    (kk : ∀ (H1 : Heap) (locs1 : List Loc), va_P D zC (zl 28 am (mct ca am (zs ar 0 i v))) H1 → va_S A H0 H1 locs1 → W p l e R s m args below meth c H1 locs1 cells slots Q (F0 m (pc + 3) ls rest)) : W p l e R s m args below meth c H locs cells slots Q (F0 m pc ls (.int x :: .ref (am 0) :: rest)) := by
  subst hv
  refine zz_put hx hb hts in_M ft_M ft_M_ok fn_M hown hK hP hD hS (j := 0) (by decide) rfl rfl (27 + i) (by omega) (hts _ w) (fun _ h => by rw [T_M_own] at h; exact h) ?_ (ft_M_ok _ (by omega)) hn hf (show 27 + i < 34 by omega) hdg (fun H1 locs1 h1 h2 => kk H1 locs1 ?_ h2)
  · rcases (show i = 0 ∨ i = 1 ∨ i = 2 ∨ i = 3 ∨ i = 4 ∨ i = 5 ∨ i = 6 by omega) with rfl | rfl | rfl | rfl | rfl | rfl | rfl <;> rfl
  · rw [mct_setF ca am ar hi v] at h1; exact h1
theorem mm_ald (hx : p.tables.exec = Jvm.exec) (hb : c.code = cc) (hK : va_K D zC (zty ca) s) (hP : va_P D zC (zl 28 am (mct ca am ar)) H) (j : Nat) (hj : j + 1 < 28) (hty : mty (j + 1) = 0) {i : Int32} (k : Nat) (hi : i = nI k) (hk : k < mlen (j + 1)) (x : Nat) (hv : ar (j + 1) k = x) (hdg : decode cc pc = .ok (.iaload, 1))
    (kk : W p l e R s m args below meth c H locs cells slots Q (F0 m (pc + 1) ls (.int (nI x) :: rest))) : W p l e R s m args below meth c H locs cells slots Q (F0 m pc ls (.int i :: .ref (am (j + 1)) :: rest)) := by
  subst hv
  exact zz_iald hx hb hK hP hj 0 (cA := ca (mty (j + 1))) (N := mlen (j + 1)) (f := fun i => nI (ar (j + 1) i)) rfl (by rw [hty]; rfl) k hi hk (mlen_lt _) hdg kk
theorem mm_zald (hx : p.tables.exec = Jvm.exec) (hb : c.code = cc) (hK : va_K D zC (zty ca) s) (hP : va_P D zC (zl 28 am (mct ca am ar)) H) (j : Nat) (hj : j + 1 < 28) (hty : mty (j + 1) = 1) {i : Int32} (k : Nat) (hi : i = nI k) (hk : k < mlen (j + 1)) (x : Nat) (hv : ar (j + 1) k = x) (hdg : decode cc pc = .ok (.baload, 1))
    (kk : W p l e R s m args below meth c H locs cells slots Q (F0 m (pc + 1) ls (.int (nI x) :: rest))) : W p l e R s m args below meth c H locs cells slots Q (F0 m pc ls (.int i :: .ref (am (j + 1)) :: rest)) := by
  subst hv
  exact zz_zald hx hb hK hP hj 1 (cA := ca (mty (j + 1))) (N := mlen (j + 1)) (f := fun i => nI (ar (j + 1) i)) rfl (by rw [hty]; rfl) k hi hk (mlen_lt _) hdg kk
theorem mm_ast (hx : p.tables.exec = Jvm.exec) (hb : c.code = cc) (hK : va_K D zC (zty ca) s) (hP : va_P D zC (zl 28 am (mct ca am ar)) H) (hD : zD A 28 am) (hS : va_S A H0 H locs) (j : Nat) (hj : j + 1 < 28) (hty : mty (j + 1) = 0) {i x : Int32} (k : Nat) (hi : i = nI k) (hk : k < mlen (j + 1)) (v : Nat) (hv : x = nI v) (hdg : decode cc pc = .ok (.iastore, 1))
    (kk : ∀ (H1 : Heap) (locs1 : List Loc), va_P D zC (zl 28 am (mct ca am (zs ar (j + 1) k v))) H1 → va_S A H0 H1 locs1 → W p l e R s m args below meth c H1 locs1 cells slots Q (F0 m (pc + 1) ls rest)) : W p l e R s m args below meth c H locs cells slots Q (F0 m pc ls (.int x :: .int i :: .ref (am (j + 1)) :: rest)) := by
  subst hv
  exact zz_iast hx hb hK hP hD hS hj 0 (cA := ca (mty (j + 1))) (N := mlen (j + 1)) (f := fun i => nI (ar (j + 1) i)) rfl (by rw [hty]; rfl) k hi hk (mlen_lt _) hdg (fun H1 locs1 h1 h2 => kk H1 locs1 (by rw [mct_set] at h1; exact h1) h2)
theorem mm_zast (hx : p.tables.exec = Jvm.exec) (hb : c.code = cc) (hK : va_K D zC (zty ca) s) (hP : va_P D zC (zl 28 am (mct ca am ar)) H) (hD : zD A 28 am) (hS : va_S A H0 H locs) (j : Nat) (hj : j + 1 < 28) (hty : mty (j + 1) = 1) {i x : Int32} (k : Nat) (hi : i = nI k) (hk : k < mlen (j + 1)) (v : Nat) (hv : x = nI v) (hv2 : v < 2) (hdg : decode cc pc = .ok (.bastore, 1))
    (kk : ∀ (H1 : Heap) (locs1 : List Loc), va_P D zC (zl 28 am (mct ca am (zs ar (j + 1) k v))) H1 → va_S A H0 H1 locs1 → W p l e R s m args below meth c H1 locs1 cells slots Q (F0 m (pc + 1) ls rest)) : W p l e R s m args below meth c H locs cells slots Q (F0 m pc ls (.int x :: .int i :: .ref (am (j + 1)) :: rest)) := by
  subst hv
  exact zz_zast hx hb hK hP hD hS hj 1 (cA := ca (mty (j + 1))) (N := mlen (j + 1)) (f := fun i => nI (ar (j + 1) i)) rfl (by rw [hty]; rfl) k hi hk (mlen_lt _) (zn_bool hv2) hdg (fun H1 locs1 h1 h2 => kk H1 locs1 (by rw [mct_set] at h1; exact h1) h2)
/-- a call on the model: its start -/
theorem mm_pre {As : List Value} (hK : va_K D zC (zty ca) s) (hP : va_P D zC (zl 28 am (mct ca am ar)) H) : PreV s H R_M (am 0) (va_Pc (.ref (am 0) :: As) (mw D ca am ar)) As := by
  refine ⟨fun a U g mk q => ⟨q.1, va_K.moved (u := U) (U := U.calling g mk a) (Vm.Alike.refl U.vm) q.2.1, q.2.2⟩, ?_, fun U hU hW => ⟨rfl, va_K.moved hW.alike hK, by rw [hU]; exact hP⟩⟩
  exact va_recv hK hP (show zC[1]? = some (R_M, T_M, 34) from rfl) (zl_get (j := 0) (by decide))
/-- a method of the model that answers a number and changes the state by post -/
theorem mm_ci {index maxL n : Nat} {y : MethodName} {bytes : ByteArray} {ret : Option FieldType} {rm : Room} {As : List Value} {post : Int32 → (Nat → Nat → Nat) → Prop}
    (S : CallFix p m c cc nL s args zT own) (hM : Met l y (Cond.code y bytes maxL ret :: zT) rm (va_Pc (.ref (am 0) :: As) (mw D ca am ar)) (va_Qi post (mw D ca am) (mA am)) 0 0 (mA am))
    (w1 : Cond.methodLink own index y ∈ zT) (w2 : Cond.instanceMethod y ∈ zT) (w5 : Cond.selects R_M y y ∈ zT) (w3 : Cond.initialized y.cls ∈ zT) (w4 : Cond.code y bytes maxL ret ∈ zT)
    (hd : y.cls ≠ "java/lang/invoke/MethodHandle" ∧ y.cls ≠ "java/lang/invoke/VarHandle" ∧ (parseMethodDescriptor y.desc).map (fun d => d.parameters.length) = some n)
    (hz : rm.cells = 0 ∧ rm.slots = 0) (hR : rm.frames + 1 ≤ R.frames ∧ 8 + (maxL + 11) + rm.locals ≤ R.locals) (hK : va_K D zC (zty ca) s) (hP : va_P D zC (zl 28 am (mct ca am ar)) H) (hS : va_S A H0 H locs) (hA : ∀ q, mA am q → A q) (hn : As.length = n) (hsize : ls.size = nL)
    (hstack : st0 = As.reverse ++ .ref (am 0) :: rest) (hW : (rest.map fun v => v.category).sum ≤ 8) (hdg : decode cc pc = .ok (.invokevirtual index, 3)) (hf : cells ≤ R.cells ∧ slots ≤ R.slots)
    (kk : ∀ (r : Int32) (ar1 : Nat → Nat → Nat) (H1 : Heap) (locs1 : List Loc), post r ar1 → va_P D zC (zl 28 am (mct ca am ar1)) H1 → va_S A H0 H1 locs1 → W p l e R s m args below meth c H1 locs1 cells slots Q (F0 m (pc + 3) ls (.int r :: rest))) : W p l e R s m args below meth c H locs cells slots Q (F0 m pc ls st0) := by
  subst hstack
  exact va_calli (va_runV S hM ⟨zz_cb S.2.2.2.2 w1 w3 w4 hd hz hR, S.2.2.2.2 _ w2, S.2.2.2.2 _ w5⟩ (mm_pre hK hP) rfl hn hsize rfl (lv_room hW) hdg ⟨hf.1, hf.2⟩) hS (fun q _ h => hA q h) hA (fun r u t H1 locs1 ht hvm hpost hB _ _ hS1 => kk r u H1 locs1 hpost (by rw [← ht]; exact hB.2) hS1)
/-- one that answers nothing -/
theorem mm_cv {index maxL n : Nat} {y : MethodName} {bytes : ByteArray} {ret : Option FieldType} {rm : Room} {As : List Value} {post : (Nat → Nat → Nat) → Prop}
    (S : CallFix p m c cc nL s args zT own) (hM : Met l y (Cond.code y bytes maxL ret :: zT) rm (va_Pc (.ref (am 0) :: As) (mw D ca am ar)) (va_Qv post (mw D ca am) (mA am)) 0 0 (mA am))
    (w1 : Cond.methodLink own index y ∈ zT) (w2 : Cond.instanceMethod y ∈ zT) (w5 : Cond.selects R_M y y ∈ zT) (w3 : Cond.initialized y.cls ∈ zT) (w4 : Cond.code y bytes maxL ret ∈ zT)
    (hd : y.cls ≠ "java/lang/invoke/MethodHandle" ∧ y.cls ≠ "java/lang/invoke/VarHandle" ∧ (parseMethodDescriptor y.desc).map (fun d => d.parameters.length) = some n)
    (hz : rm.cells = 0 ∧ rm.slots = 0) (hR : rm.frames + 1 ≤ R.frames ∧ 8 + (maxL + 11) + rm.locals ≤ R.locals) (hK : va_K D zC (zty ca) s) (hP : va_P D zC (zl 28 am (mct ca am ar)) H) (hS : va_S A H0 H locs) (hA : ∀ q, mA am q → A q) (hn : As.length = n) (hsize : ls.size = nL)
    (hstack : st0 = As.reverse ++ .ref (am 0) :: rest) (hW : (rest.map fun v => v.category).sum ≤ 8) (hdg : decode cc pc = .ok (.invokevirtual index, 3)) (hf : cells ≤ R.cells ∧ slots ≤ R.slots)
    (kk : ∀ (ar1 : Nat → Nat → Nat) (H1 : Heap) (locs1 : List Loc), post ar1 → va_P D zC (zl 28 am (mct ca am ar1)) H1 → va_S A H0 H1 locs1 → W p l e R s m args below meth c H1 locs1 cells slots Q (F0 m (pc + 3) ls rest)) : W p l e R s m args below meth c H locs cells slots Q (F0 m pc ls st0) := by
  subst hstack
  exact va_callv (va_runV S hM ⟨zz_cb S.2.2.2.2 w1 w3 w4 hd hz hR, S.2.2.2.2 _ w2, S.2.2.2.2 _ w5⟩ (mm_pre hK hP) rfl hn hsize rfl (lv_room hW) hdg ⟨hf.1, hf.2⟩) hS (fun q _ h => hA q h) hA (fun u t H1 locs1 ht hvm hpost hB _ _ hS1 => kk u H1 locs1 hpost (by rw [← ht]; exact hB.2) hS1)
end MW
