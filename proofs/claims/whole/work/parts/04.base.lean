/-! calls of methods that change nothing -/
section ZZ
variable {p : Program} {l : Launch} {e : Env} {R : Room} {s : State} {m : MethodId} {args : Array Value} {below : List Frame} {meth : Method} {c : Code} {H H0 : Heap} {locs : List Loc} {cells slots pc nL : Nat} {ls : Array Slot} {rest st0 : List Value} {cc : ByteArray} {Q : State → Prop} {own : String}
theorem zz_as {x y : Int32} (h : x = y) (k : W p l e R s m args below meth c H locs cells slots Q (F0 m pc ls (.int y :: rest))) : W p l e R s m args below meth c H locs cells slots Q (F0 m pc ls (.int x :: rest)) := by
  rw [h]; exact k
theorem zz_asl {x y : Int64} (h : x = y) (k : W p l e R s m args below meth c H locs cells slots Q (F0 m pc ls (.long y :: rest))) : W p l e R s m args below meth c H locs cells slots Q (F0 m pc ls (.long x :: rest)) := by
  rw [h]; exact k
/-- the words and the room of a call, out of zT -/
theorem zz_cb {index maxL n mc ms : Nat} {y : MethodName} {bytes : ByteArray} {ret : Option FieldType} {rm : Room} (hts : ∀ w ∈ zT, w.before args s = true) (w1 : Cond.methodLink own index y ∈ zT) (w3 : Cond.initialized y.cls ∈ zT) (w4 : Cond.code y bytes maxL ret ∈ zT)
    (hd : y.cls ≠ "java/lang/invoke/MethodHandle" ∧ y.cls ≠ "java/lang/invoke/VarHandle" ∧ (parseMethodDescriptor y.desc).map (fun d => d.parameters.length) = some n)
    (hz : rm.cells = mc ∧ rm.slots = ms) (hR : rm.frames + 1 ≤ R.frames ∧ 8 + (maxL + 11) + rm.locals ≤ R.locals) : CallB R s args own index y bytes maxL ret (Cond.code y bytes maxL ret :: zT) rm mc ms n :=
  callB_of n hts (zG0 w4) rfl hz.1 hz.2 (hts _ w3) (hts _ w1) hd hR
/-- a static method that answers a number and changes nothing -/
theorem zz_cS {index maxL n : Nat} {y : MethodName} {bytes : ByteArray} {ret : Option FieldType} {rm : Room} {Pc : Array Value → State → Prop} {As : List Value} {r : Int32}
    (S : CallFix p m c cc nL s args zT own) (hM : Met l y (Cond.code y bytes maxL ret :: zT) rm Pc (QcRead r) 0 0 (fun _ => False))
    (w1 : Cond.methodLink own index y ∈ zT) (w2 : Cond.static y ∈ zT) (w3 : Cond.initialized y.cls ∈ zT) (w4 : Cond.code y bytes maxL ret ∈ zT)
    (hd : y.cls ≠ "java/lang/invoke/MethodHandle" ∧ y.cls ≠ "java/lang/invoke/VarHandle" ∧ (parseMethodDescriptor y.desc).map (fun d => d.parameters.length) = some n)
    (hz : rm.cells = 0 ∧ rm.slots = 0) (hR : rm.frames + 1 ≤ R.frames ∧ 8 + (maxL + 11) + rm.locals ≤ R.locals) (hp : PreS s H Pc As) (hn : As.length = n) (hsize : ls.size = nL)
    (hstack : st0 = As.reverse ++ rest) (hW : (rest.map fun v => v.category).sum ≤ 8) (hdg : decode cc pc = .ok (.invokestatic index, 3)) (hf : cells ≤ R.cells ∧ slots ≤ R.slots)
    (kk : W p l e R s m args below meth c H locs cells slots Q (F0 m (pc + 3) ls (.int r :: rest))) : W p l e R s m args below meth c H locs cells slots Q (F0 m pc ls st0) := by
  subst hstack
  exact W.callR (W.runS S hM ⟨zz_cb S.2.2.2.2 w1 w3 w4 hd hz hR, S.2.2.2.2 _ w2⟩ hp rfl hn hsize rfl (lv_room hW) hdg ⟨hf.1, hf.2⟩) kk
/-- a method of an object that answers a number and changes nothing -/
theorem zz_cV {index maxL n : Nat} {C : String} {b : Nat} {y : MethodName} {bytes : ByteArray} {ret : Option FieldType} {rm : Room} {Pc : Array Value → State → Prop} {As : List Value} {r : Int32}
    (S : CallFix p m c cc nL s args zT own) (hM : Met l y (Cond.code y bytes maxL ret :: zT) rm Pc (QcRead r) 0 0 (fun _ => False))
    (w1 : Cond.methodLink own index y ∈ zT) (w2 : Cond.instanceMethod y ∈ zT) (w5 : Cond.selects C y y ∈ zT) (w3 : Cond.initialized y.cls ∈ zT) (w4 : Cond.code y bytes maxL ret ∈ zT)
    (hd : y.cls ≠ "java/lang/invoke/MethodHandle" ∧ y.cls ≠ "java/lang/invoke/VarHandle" ∧ (parseMethodDescriptor y.desc).map (fun d => d.parameters.length) = some n)
    (hz : rm.cells = 0 ∧ rm.slots = 0) (hR : rm.frames + 1 ≤ R.frames ∧ 8 + (maxL + 11) + rm.locals ≤ R.locals) (hp : PreV s H C b Pc As) (hn : As.length = n) (hsize : ls.size = nL)
    (hstack : st0 = As.reverse ++ .ref b :: rest) (hW : (rest.map fun v => v.category).sum ≤ 8) (hdg : decode cc pc = .ok (.invokevirtual index, 3)) (hf : cells ≤ R.cells ∧ slots ≤ R.slots)
    (kk : W p l e R s m args below meth c H locs cells slots Q (F0 m (pc + 3) ls (.int r :: rest))) : W p l e R s m args below meth c H locs cells slots Q (F0 m pc ls st0) := by
  subst hstack
  exact W.callR (W.runV S hM ⟨zz_cb S.2.2.2.2 w1 w3 w4 hd hz hR, S.2.2.2.2 _ w2, S.2.2.2.2 _ w5⟩ hp rfl hn hsize rfl (lv_room hW) hdg ⟨hf.1, hf.2⟩) kk
/-- a static method of a nest mate that answers a number and changes nothing -/
theorem zz_cSN {index maxL n : Nat} {host : String} {y : MethodName} {bytes : ByteArray} {ret : Option FieldType} {rm : Room} {Pc : Array Value → State → Prop} {As : List Value} {r : Int32}
    (S : CallFix p m c cc nL s args zT own) (hM : Met l y (Cond.code y bytes maxL ret :: zT) rm Pc (QcRead r) 0 0 (fun _ => False))
    (hN : zN s) (w1 : Cond.methodLinkNest own index y host ∈ lw_tbl) (w2 : Cond.static y ∈ zT) (w3 : Cond.initialized y.cls ∈ zT) (w4 : Cond.code y bytes maxL ret ∈ zT)
    (hd : y.cls ≠ "java/lang/invoke/MethodHandle" ∧ y.cls ≠ "java/lang/invoke/VarHandle" ∧ (parseMethodDescriptor y.desc).map (fun d => d.parameters.length) = some n)
    (hz : rm.cells = 0 ∧ rm.slots = 0) (hR : rm.frames + 1 ≤ R.frames ∧ 8 + (maxL + 11) + rm.locals ≤ R.locals) (hp : PreS s H Pc As) (hn : As.length = n) (hsize : ls.size = nL)
    (hstack : st0 = As.reverse ++ rest) (hW : (rest.map fun v => v.category).sum ≤ 8) (hdg : decode cc pc = .ok (.invokestatic index, 3)) (hf : cells ≤ R.cells ∧ slots ≤ R.slots)
    (kk : W p l e R s m args below meth c H locs cells slots Q (F0 m (pc + 3) ls (.int r :: rest))) : W p l e R s m args below meth c H locs cells slots Q (F0 m pc ls st0) := by
  subst hstack
  have hts := S.2.2.2.2
  exact W.callR (va_Run.run (va_runSN S hM ⟨va_cnB n hts (zG0 w4) rfl hz.1 hz.2 (hN _ w1 rfl) (hts _ w3) hd hR, hts _ w2, trivial⟩ hp rfl hn hsize rfl (lv_room hW) hdg ⟨hf.1, hf.2⟩)) kk
end ZZ
