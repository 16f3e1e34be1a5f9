/-! the desk's tree: node k's object is cell tt 3 k; tables tt (0 kind, 1 left, 2 right, 3 cell, 4 bases' cell, 5 elements' cell, 6 pairs, 7 size), bb ee (bases, elements by node), dd (0 number, 1 told, 2 witness, 3 nonce, 4 leftIsReal, 5 otherChallenge, 6 the transcript, 7 0 the drawing's state) -/
def ndC (ad : Nat → Nat) (tt dd : Nat → Nat → Nat) (k : Nat) : va_E := if tt 0 k = 0 then .inr (4, [.int 1, .ref (ad (tt 4 k)), .ref (ad (tt 5 k)), .int (nI (dd 0 k)), .int (nI (dd 1 k)), .int (nI (dd 2 k)), .int (nI (dd 3 k))]) else if tt 0 k = 1 then .inr (2, [.ref (ad (tt 3 (tt 1 k))), .ref (ad (tt 3 (tt 2 k))), .int (nI (tt 7 k))]) else .inr (3, [.ref (ad (tt 3 (tt 1 k))), .ref (ad (tt 3 (tt 2 k))), .int (nI (tt 7 k)), .int (nI (dd 4 k)), .int (nI (dd 5 k))])
/-- what stays: kinds, children, cells apart, the leaves' numbers in range -/
def tS (n : Nat) (tt bb ee : Nat → Nat → Nat) (jt kt jd N : Nat) : Prop := jt < n ∧ kt < n ∧ jd < n ∧ (∀ i k, i < N → k < N → tt 3 i = tt 3 k → i = k) ∧ ∀ k, k < N → tt 3 k < n ∧ tt 0 k ≤ 2 ∧ (tt 0 k ≠ 0 → tt 1 k < k ∧ tt 2 k < k) ∧ (tt 0 k = 0 → tt 4 k < n ∧ tt 5 k < n ∧ (tt 6 k = 1 ∨ tt 6 k = 2) ∧ (∀ i, i < tt 6 k → bb k i < 10007) ∧ ∀ i, i < tt 6 k → ee k i < 10007)
/-- the cells hold the tree, the transcript and the drawing -/
def tW (ca : Nat → ClassId) (ad : Nat → Nat) (tt bb ee : Nat → Nat → Nat) (jt kt jd N : Nat) (dd : Nat → Nat → Nat) (ct : Nat → va_E) : Prop := ct jt = .inr (5, [.ref (ad kt)]) ∧ ct kt = .inl (ca 0, 32, .inl (zf (dd 6))) ∧ ct jd = .inr (6, [.int (nI (dd 7 0))]) ∧ ∀ k, k < N → ct (tt 3 k) = ndC ad tt dd k ∧ (tt 0 k = 0 → ct (tt 4 k) = .inl (ca 0, tt 6 k, .inl (zf (bb k))) ∧ ct (tt 5 k) = .inl (ca 0, tt 6 k, .inl (zf (ee k))))
theorem ndC_0 {ad : Nat → Nat} {tt dd : Nat → Nat → Nat} {k : Nat} (h : tt 0 k = 0) : ndC ad tt dd k = .inr (4, [.int 1, .ref (ad (tt 4 k)), .ref (ad (tt 5 k)), .int (nI (dd 0 k)), .int (nI (dd 1 k)), .int (nI (dd 2 k)), .int (nI (dd 3 k))]) := if_pos h
theorem ndC_1 {ad : Nat → Nat} {tt dd : Nat → Nat → Nat} {k : Nat} (h : tt 0 k = 1) : ndC ad tt dd k = .inr (2, [.ref (ad (tt 3 (tt 1 k))), .ref (ad (tt 3 (tt 2 k))), .int (nI (tt 7 k))]) := by
  unfold ndC; rw [if_neg (by rw [h]; decide), if_pos h]
theorem ndC_2 {ad : Nat → Nat} {tt dd : Nat → Nat → Nat} {k : Nat} (h : tt 0 k = 2) : ndC ad tt dd k = .inr (3, [.ref (ad (tt 3 (tt 1 k))), .ref (ad (tt 3 (tt 2 k))), .int (nI (tt 7 k)), .int (nI (dd 4 k)), .int (nI (dd 5 k))]) := by
  unfold ndC; rw [if_neg (by rw [h]; decide), if_neg (by rw [h]; decide)]
/-- every node's cell is an object's -/
theorem ndC_obj (ad : Nat → Nat) (tt dd : Nat → Nat → Nat) (k : Nat) : ∃ o, ndC ad tt dd k = .inr o := by
  unfold ndC
  split
  · exact ⟨_, rfl⟩
  · split
    · exact ⟨_, rfl⟩
    · exact ⟨_, rfl⟩
theorem ndC_cls (ad : Nat → Nat) (tt dd : Nat → Nat → Nat) (k : Nat) : ∃ c fs, ndC ad tt dd k = .inr (c, fs) ∧ (c = 4 ∨ c = 2 ∨ c = 3) := by
  unfold ndC
  split
  · exact ⟨_, _, rfl, Or.inl rfl⟩
  · split
    · exact ⟨_, _, rfl, Or.inr (Or.inl rfl)⟩
    · exact ⟨_, _, rfl, Or.inr (Or.inr rfl)⟩
/-- a node's room: 3 + k levels -/
abbrev rmk (k : Nat) : Room := { frames := 3 + k, cells := 0, slots := 0, locals := 40 * (3 + k) }
theorem zGU {own C owner : String} {index : Nat} {x y : MethodName} {bytes : ByteArray} {maxL : Nat} {ret : Option FieldType} (w1 : Cond.methodLink own index x ∈ zT) (w2 : Cond.sameMethod x.cls owner x.name x.desc ∈ zT) (w3 : Cond.selects C x y ∈ zT) (w4 : Cond.instanceMethod y ∈ zT) (w5 : Cond.initialized y.cls ∈ zT) (w6 : Cond.code y bytes maxL ret ∈ zT) : GoodIn zT (va_wsU own index C owner x y (Cond.code y bytes maxL ret :: zT)) := by
  intro w hw
  unfold va_wsU at hw
  simp only [List.cons_append, List.nil_append, List.mem_cons] at hw
  rcases hw with rfl | rfl | rfl | rfl | rfl | rfl | hw
  · exact zT_all _ w1
  · exact zT_all _ w2
  · exact zT_all _ w3
  · exact zT_all _ w4
  · exact zT_all _ w5
  · exact zT_all _ w6
  · exact zT_all _ hw
section DU
variable {p : Program} {l : Launch} {e : Env} {R : Room} {s : State} {m : MethodId} {args : Array Value} {below : List Frame} {meth : Method} {c : Code} {H H0 : Heap} {locs : List Loc} {cells slots pc nL n : Nat} {ls : Array Slot} {rest st0 : List Value} {cc : ByteArray} {Q : State → Prop} {A : Nat → Prop} {D : va_G} {ca : Nat → ClassId} {ad : Nat → Nat} {ct : Nat → va_E} {own : String}
/-- a call of an abstract method: reads only -/
theorem zz_cU {index maxL k : Nat} {C owner : String} {b : Nat} {x y : MethodName} {bytes : ByteArray} {ret : Option FieldType} {rm : Room} {Pc : Array Value → State → Prop} {As : List Value} {r : Int32}
    (S : CallFix p m c cc nL s args zT own) (hM : Met l y (Cond.code y bytes maxL ret :: zT) rm Pc (QcRead r) 0 0 (fun _ => False)) (hN : zN s)
    (w1 : Cond.methodLink own index x ∈ zT) (w2 : Cond.sameMethod x.cls owner x.name x.desc ∈ zT) (w3 : Cond.selects C x y ∈ zT) (w4 : Cond.instanceMethod y ∈ zT) (w5 : Cond.initialized y.cls ∈ zT) (wd : Cond.declares ⟨owner, x.name, x.desc⟩ ∈ lw_tbl) (w6 : Cond.code y bytes maxL ret ∈ zT)
    (hd : owner ≠ "java/lang/invoke/MethodHandle" ∧ owner ≠ "java/lang/invoke/VarHandle" ∧ (parseMethodDescriptor x.desc).map (fun d => d.parameters.length) = some k)
    (hz : rm.cells = 0 ∧ rm.slots = 0) (hR : rm.frames + 1 ≤ R.frames ∧ 8 + (maxL + 11) + rm.locals ≤ R.locals) (hp : PreV s H C b Pc As) (hn : As.length = k) (hsize : ls.size = nL)
    (hstack : st0 = As.reverse ++ .ref b :: rest) (hW : (rest.map fun v => v.category).sum ≤ 8) (hdg : decode cc pc = .ok (.invokevirtual index, 3)) (hf : cells ≤ R.cells ∧ slots ≤ R.slots)
    (kk : W p l e R s m args below meth c H locs cells slots Q (F0 m (pc + 3) ls (.int r :: rest))) : W p l e R s m args below meth c H locs cells slots Q (F0 m pc ls st0) := by
  subst hstack
  exact W.callR (va_Run.run (va_runU S hM (va_cwA k S.2.2.2.2 (zGU w1 w2 w3 w4 w5 w6) rfl hz.1 hz.2 (hN _ wd rfl) hd hR) hp rfl hn hsize rfl (lv_room hW) hdg ⟨hf.1, hf.2⟩)) kk
theorem dd_cUv {index maxL k : Nat} {C owner : String} {b : Nat} {x y : MethodName} {bytes : ByteArray} {ret : Option FieldType} {rm : Room} {As : List Value} {post : (Nat → va_E) → Prop}
    (S : CallFix p m c cc nL s args zT own) (hM : Met l y (Cond.code y bytes maxL ret :: zT) rm (va_Pc (.ref b :: As) (dw D ca n ad ct)) (va_Qv post (dw D ca n ad) (dA n ad)) 0 0 (dA n ad)) (hN : zN s)
    (w1 : Cond.methodLink own index x ∈ zT) (w2 : Cond.sameMethod x.cls owner x.name x.desc ∈ zT) (w3 : Cond.selects C x y ∈ zT) (w4 : Cond.instanceMethod y ∈ zT) (w5 : Cond.initialized y.cls ∈ zT) (wd : Cond.declares ⟨owner, x.name, x.desc⟩ ∈ lw_tbl) (w6 : Cond.code y bytes maxL ret ∈ zT)
    (hd : owner ≠ "java/lang/invoke/MethodHandle" ∧ owner ≠ "java/lang/invoke/VarHandle" ∧ (parseMethodDescriptor x.desc).map (fun d => d.parameters.length) = some k)
    (hz : rm.cells = 0 ∧ rm.slots = 0) (hR : rm.frames + 1 ≤ R.frames ∧ 8 + (maxL + 11) + rm.locals ≤ R.locals) (hp : PreV s H C b (va_Pc (.ref b :: As) (dw D ca n ad ct)) As) (hS : va_S A H0 H locs) (hA : ∀ q, dA n ad q → A q) (hn : As.length = k) (hsize : ls.size = nL)
    (hstack : st0 = As.reverse ++ .ref b :: rest) (hW : (rest.map fun v => v.category).sum ≤ 8) (hdg : decode cc pc = .ok (.invokevirtual index, 3)) (hf : cells ≤ R.cells ∧ slots ≤ R.slots)
    (kk : ∀ (ct1 : Nat → va_E) (H1 : Heap) (locs1 : List Loc), post ct1 → va_P D zC (zl n ad ct1) H1 → va_S A H0 H1 locs1 → W p l e R s m args below meth c H1 locs1 cells slots Q (F0 m (pc + 3) ls rest)) : W p l e R s m args below meth c H locs cells slots Q (F0 m pc ls st0) := by
  subst hstack
  exact va_callv (va_runU S hM (va_cwA k S.2.2.2.2 (zGU w1 w2 w3 w4 w5 w6) rfl hz.1 hz.2 (hN _ wd rfl) hd hR) hp rfl hn hsize rfl (lv_room hW) hdg ⟨hf.1, hf.2⟩) hS (fun q _ h => hA q h) hA (fun u t H1 locs1 ht hvm hpost hB _ _ hS1 => kk u H1 locs1 hpost (by rw [← ht]; exact hB.2.2) hS1)
theorem dd_cUi {index maxL k : Nat} {C owner : String} {b : Nat} {x y : MethodName} {bytes : ByteArray} {ret : Option FieldType} {rm : Room} {As : List Value} {post : Int32 → (Nat → va_E) → Prop}
    (S : CallFix p m c cc nL s args zT own) (hM : Met l y (Cond.code y bytes maxL ret :: zT) rm (va_Pc (.ref b :: As) (dw D ca n ad ct)) (va_Qi post (dw D ca n ad) (dA n ad)) 0 0 (dA n ad)) (hN : zN s)
    (w1 : Cond.methodLink own index x ∈ zT) (w2 : Cond.sameMethod x.cls owner x.name x.desc ∈ zT) (w3 : Cond.selects C x y ∈ zT) (w4 : Cond.instanceMethod y ∈ zT) (w5 : Cond.initialized y.cls ∈ zT) (wd : Cond.declares ⟨owner, x.name, x.desc⟩ ∈ lw_tbl) (w6 : Cond.code y bytes maxL ret ∈ zT)
    (hd : owner ≠ "java/lang/invoke/MethodHandle" ∧ owner ≠ "java/lang/invoke/VarHandle" ∧ (parseMethodDescriptor x.desc).map (fun d => d.parameters.length) = some k)
    (hz : rm.cells = 0 ∧ rm.slots = 0) (hR : rm.frames + 1 ≤ R.frames ∧ 8 + (maxL + 11) + rm.locals ≤ R.locals) (hp : PreV s H C b (va_Pc (.ref b :: As) (dw D ca n ad ct)) As) (hS : va_S A H0 H locs) (hA : ∀ q, dA n ad q → A q) (hn : As.length = k) (hsize : ls.size = nL)
    (hstack : st0 = As.reverse ++ .ref b :: rest) (hW : (rest.map fun v => v.category).sum ≤ 8) (hdg : decode cc pc = .ok (.invokevirtual index, 3)) (hf : cells ≤ R.cells ∧ slots ≤ R.slots)
    (kk : ∀ (r : Int32) (ct1 : Nat → va_E) (H1 : Heap) (locs1 : List Loc), post r ct1 → va_P D zC (zl n ad ct1) H1 → va_S A H0 H1 locs1 → W p l e R s m args below meth c H1 locs1 cells slots Q (F0 m (pc + 3) ls (.int r :: rest))) : W p l e R s m args below meth c H locs cells slots Q (F0 m pc ls st0) := by
  subst hstack
  exact va_calli (va_runU S hM (va_cwA k S.2.2.2.2 (zGU w1 w2 w3 w4 w5 w6) rfl hz.1 hz.2 (hN _ wd rfl) hd hR) hp rfl hn hsize rfl (lv_room hW) hdg ⟨hf.1, hf.2⟩) hS (fun q _ h => hA q h) hA (fun r u t H1 locs1 ht hvm hpost hB _ _ hS1 => kk r u H1 locs1 hpost (by rw [← ht]; exact hB.2.2) hS1)
end DU
