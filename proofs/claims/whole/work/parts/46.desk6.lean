/-! respondTo and numberLeaves over the tree; arrays of objects -/
def dq (tt : Nat → Nat → Nat) (k c : Nat) (dd : Nat → Nat → Nat) : Nat → Nat → Nat :=
  if tt 0 k = 0 then va_up dd 6 (va_up (va_up (dd 6) (dd 0 k * 4 + 2) c) (dd 0 k * 4 + 3) ((dd 3 k + c * dd 2 k) % 5003))
  else if h : tt 1 k < k ∧ tt 2 k < k then
    if tt 0 k = 1 then dq tt (tt 2 k) c (dq tt (tt 1 k) c dd)
    else if dd 4 k = 1 then dq tt (tt 1 k) (ls5 c (dd 5 k)) dd else dq tt (tt 2 k) (ls5 c (dd 5 k)) dd
  else dd
termination_by k
decreasing_by all_goals first | exact h.1 | exact h.2
theorem dq_leaf {tt : Nat → Nat → Nat} {k : Nat} (h0 : tt 0 k = 0) (c : Nat) (dd : Nat → Nat → Nat) : dq tt k c dd = va_up dd 6 (va_up (va_up (dd 6) (dd 0 k * 4 + 2) c) (dd 0 k * 4 + 3) ((dd 3 k + c * dd 2 k) % 5003)) := by rw [dq, if_pos h0]
theorem dq_and {tt : Nat → Nat → Nat} {k : Nat} (h0 : tt 0 k = 1) (hl : tt 1 k < k) (hr : tt 2 k < k) (c : Nat) (dd : Nat → Nat → Nat) : dq tt k c dd = dq tt (tt 2 k) c (dq tt (tt 1 k) c dd) := by
  rw [dq, if_neg (by rw [h0]; decide), dif_pos ⟨hl, hr⟩, if_pos h0]
theorem dq_orL {tt : Nat → Nat → Nat} {k : Nat} (h0 : tt 0 k = 2) (hl : tt 1 k < k) (hr : tt 2 k < k) (c : Nat) (dd : Nat → Nat → Nat) (h1 : dd 4 k = 1) : dq tt k c dd = dq tt (tt 1 k) (ls5 c (dd 5 k)) dd := by
  rw [dq, if_neg (by rw [h0]; decide), dif_pos ⟨hl, hr⟩, if_neg (by rw [h0]; decide), if_pos h1]
theorem dq_orR {tt : Nat → Nat → Nat} {k : Nat} (h0 : tt 0 k = 2) (hl : tt 1 k < k) (hr : tt 2 k < k) (c : Nat) (dd : Nat → Nat → Nat) (h1 : ¬ dd 4 k = 1) : dq tt k c dd = dq tt (tt 2 k) (ls5 c (dd 5 k)) dd := by
  rw [dq, if_neg (by rw [h0]; decide), dif_pos ⟨hl, hr⟩, if_neg (by rw [h0]; decide), if_neg h1]
theorem dq_row {tt : Nat → Nat → Nat} {j : Nat} (hj : j ≠ 6) : ∀ (k c : Nat) (dd : Nat → Nat → Nat), dq tt k c dd j = dd j := by
  intro k
  induction k using Nat.strongRecOn with
  | ind k ih =>
    intro c dd
    rw [dq]
    by_cases h0 : tt 0 k = 0
    · rw [if_pos h0, va_up_ne _ _ hj]
    · rw [if_neg h0]
      by_cases hc : tt 1 k < k ∧ tt 2 k < k
      · rw [dif_pos hc]
        by_cases h1 : tt 0 k = 1
        · rw [if_pos h1, ih _ hc.2, ih _ hc.1]
        · rw [if_neg h1]
          by_cases h2 : dd 4 k = 1
          · rw [if_pos h2, ih _ hc.1]
          · rw [if_neg h2, ih _ hc.2]
      · rw [dif_neg hc]
def gD (tt dd : Nat → Nat → Nat) (N : Nat) (G : Nat → Prop) : Prop := ∀ k, k < N → G k → (tt 0 k = 0 → dd 0 k < 8 ∧ dd 2 k < 5003 ∧ dd 3 k < 5003) ∧ (tt 0 k = 1 → G (tt 1 k) ∧ G (tt 2 k)) ∧ (tt 0 k = 2 → dd 5 k < 5003 ∧ dd 4 k < 2 ∧ (dd 4 k = 1 → G (tt 1 k)) ∧ (dd 4 k ≠ 1 → G (tt 2 k)))
theorem gD_of {tt dd d1 : Nat → Nat → Nat} {N : Nat} {G : Nat → Prop} (h : gD tt dd N G) (hr : ∀ j, j ≠ 6 → d1 j = dd j) : gD tt d1 N G := by
  unfold gD
  rw [hr 0 (by decide), hr 2 (by decide), hr 3 (by decide), hr 4 (by decide), hr 5 (by decide)]
  exact h

theorem d_A_respondTo_0 : decode c_A_respondTo 0 = .ok (.aload_n 0, 1) := by decide +kernel
theorem d_A_respondTo_1 : decode c_A_respondTo 1 = .ok (.getfield 9, 3) := by decide +kernel
theorem d_A_respondTo_4 : decode c_A_respondTo 4 = .ok (.iload_n 1, 1) := by decide +kernel
theorem d_A_respondTo_5 : decode c_A_respondTo 5 = .ok (.aload_n 2, 1) := by decide +kernel
theorem d_A_respondTo_6 : decode c_A_respondTo 6 = .ok (.invokevirtual 32, 3) := by decide +kernel
theorem d_A_respondTo_9 : decode c_A_respondTo 9 = .ok (.aload_n 0, 1) := by decide +kernel
theorem d_A_respondTo_10 : decode c_A_respondTo 10 = .ok (.getfield 21, 3) := by decide +kernel
theorem d_A_respondTo_13 : decode c_A_respondTo 13 = .ok (.iload_n 1, 1) := by decide +kernel
theorem d_A_respondTo_14 : decode c_A_respondTo 14 = .ok (.aload_n 2, 1) := by decide +kernel
theorem d_A_respondTo_15 : decode c_A_respondTo 15 = .ok (.invokevirtual 32, 3) := by decide +kernel
theorem d_A_respondTo_18 : decode c_A_respondTo 18 = .ok (.return_, 1) := by decide +kernel

theorem d_O_respondTo_0 : decode c_O_respondTo 0 = .ok (.aload_n 0, 1) := by decide +kernel
theorem d_O_respondTo_1 : decode c_O_respondTo 1 = .ok (.getfield 24, 3) := by decide +kernel
theorem d_O_respondTo_4 : decode c_O_respondTo 4 = .ok (.ifCond .eq 10, 3) := by decide +kernel
theorem d_O_respondTo_7 : decode c_O_respondTo 7 = .ok (.aload_n 0, 1) := by decide +kernel
theorem d_O_respondTo_8 : decode c_O_respondTo 8 = .ok (.getfield 9, 3) := by decide +kernel
theorem d_O_respondTo_11 : decode c_O_respondTo 11 = .ok (.goto 7, 3) := by decide +kernel
theorem d_O_respondTo_14 : decode c_O_respondTo 14 = .ok (.aload_n 0, 1) := by decide +kernel
theorem d_O_respondTo_15 : decode c_O_respondTo 15 = .ok (.getfield 21, 3) := by decide +kernel
theorem d_O_respondTo_18 : decode c_O_respondTo 18 = .ok (.astore_n 3, 1) := by decide +kernel
theorem d_O_respondTo_19 : decode c_O_respondTo 19 = .ok (.aload_n 3, 1) := by decide +kernel
theorem d_O_respondTo_20 : decode c_O_respondTo 20 = .ok (.iload_n 1, 1) := by decide +kernel
theorem d_O_respondTo_21 : decode c_O_respondTo 21 = .ok (.aload_n 0, 1) := by decide +kernel
theorem d_O_respondTo_22 : decode c_O_respondTo 22 = .ok (.getfield 34, 3) := by decide +kernel
theorem d_O_respondTo_25 : decode c_O_respondTo 25 = .ok (.invokestatic 46, 3) := by decide +kernel
theorem d_O_respondTo_28 : decode c_O_respondTo 28 = .ok (.aload_n 2, 1) := by decide +kernel
theorem d_O_respondTo_29 : decode c_O_respondTo 29 = .ok (.invokevirtual 50, 3) := by decide +kernel
theorem d_O_respondTo_32 : decode c_O_respondTo 32 = .ok (.return_, 1) := by decide +kernel

theorem d_J_numberLeaves_0 : decode c_J_numberLeaves 0 = .ok (.aload_n 0, 1) := by decide +kernel
theorem d_J_numberLeaves_1 : decode c_J_numberLeaves 1 = .ok (.getfield 17, 3) := by decide +kernel
theorem d_J_numberLeaves_4 : decode c_J_numberLeaves 4 = .ok (.aload_n 1, 1) := by decide +kernel
theorem d_J_numberLeaves_5 : decode c_J_numberLeaves 5 = .ok (.aload_n 0, 1) := by decide +kernel
theorem d_J_numberLeaves_6 : decode c_J_numberLeaves 6 = .ok (.getfield 11, 3) := by decide +kernel
theorem d_J_numberLeaves_9 : decode c_J_numberLeaves 9 = .ok (.aload_n 1, 1) := by decide +kernel
theorem d_J_numberLeaves_10 : decode c_J_numberLeaves 10 = .ok (.iload_n 2, 1) := by decide +kernel
theorem d_J_numberLeaves_11 : decode c_J_numberLeaves 11 = .ok (.invokevirtual 20, 3) := by decide +kernel
theorem d_J_numberLeaves_14 : decode c_J_numberLeaves 14 = .ok (.invokevirtual 20, 3) := by decide +kernel
theorem d_J_numberLeaves_17 : decode c_J_numberLeaves 17 = .ok (.ireturn, 1) := by decide +kernel

theorem d_F_numberLeaves_0 : decode c_F_numberLeaves 0 = .ok (.aload_n 0, 1) := by decide +kernel
theorem d_F_numberLeaves_1 : decode c_F_numberLeaves 1 = .ok (.iload_n 2, 1) := by decide +kernel
theorem d_F_numberLeaves_2 : decode c_F_numberLeaves 2 = .ok (.putfield 30, 3) := by decide +kernel
theorem d_F_numberLeaves_5 : decode c_F_numberLeaves 5 = .ok (.aload_n 1, 1) := by decide +kernel
theorem d_F_numberLeaves_6 : decode c_F_numberLeaves 6 = .ok (.iload_n 2, 1) := by decide +kernel
theorem d_F_numberLeaves_7 : decode c_F_numberLeaves 7 = .ok (.aload_n 0, 1) := by decide +kernel
theorem d_F_numberLeaves_8 : decode c_F_numberLeaves 8 = .ok (.aastore, 1) := by decide +kernel
theorem d_F_numberLeaves_9 : decode c_F_numberLeaves 9 = .ok (.iload_n 2, 1) := by decide +kernel
theorem d_F_numberLeaves_10 : decode c_F_numberLeaves 10 = .ok (.iconst 1, 1) := by decide +kernel
theorem d_F_numberLeaves_11 : decode c_F_numberLeaves 11 = .ok (.iadd, 1) := by decide +kernel
theorem d_F_numberLeaves_12 : decode c_F_numberLeaves 12 = .ok (.ireturn, 1) := by decide +kernel

def C_respond (l : Launch) (D : va_G) (ca : Nat → ClassId) (n : Nat) (ad : Nat → Nat) (tt bb ee : Nat → Nat → Nat) (jt kt jd N : Nat) (ct : Nat → va_E) (dd : Nat → Nat → Nat) (k c9 : Nat) : Prop := (tt 0 k = 0 → Met l y_F_respondTo (Cond.code y_F_respondTo c_F_respondTo 3 none :: zT) ({ frames := 2, cells := 0, slots := 0, locals := 80 }) (va_Pc [.ref (ad (tt 3 k)), .int (nI c9), .ref (ad jt)] (dw D ca n ad ct)) (va_Qv (fun ct1 => tW ca ad tt bb ee jt kt jd N (dq tt k c9 dd) ct1 ∧ fr tt kt jd N ct ct1) (dw D ca n ad) (dA n ad)) 0 0 (dA n ad)) ∧ (tt 0 k = 1 → Met l y_A_respondTo (Cond.code y_A_respondTo c_A_respondTo 3 none :: zT) (rmk k) (va_Pc [.ref (ad (tt 3 k)), .int (nI c9), .ref (ad jt)] (dw D ca n ad ct)) (va_Qv (fun ct1 => tW ca ad tt bb ee jt kt jd N (dq tt k c9 dd) ct1 ∧ fr tt kt jd N ct ct1) (dw D ca n ad) (dA n ad)) 0 0 (dA n ad)) ∧ (tt 0 k = 2 → Met l y_O_respondTo (Cond.code y_O_respondTo c_O_respondTo 4 none :: zT) (rmk k) (va_Pc [.ref (ad (tt 3 k)), .int (nI c9), .ref (ad jt)] (dw D ca n ad ct)) (va_Qv (fun ct1 => tW ca ad tt bb ee jt kt jd N (dq tt k c9 dd) ct1 ∧ fr tt kt jd N ct ct1) (dw D ca n ad) (dA n ad)) 0 0 (dA n ad))
section DS_respondTo
variable {p : Program} {l : Launch} {e : Env} {R : Room} {s : State} {m : MethodId} {args : Array Value} {below : List Frame} {meth : Method} {c : Code} {H H0 : Heap} {locs : List Loc} {cells slots pc nL : Nat} {ls : Array Slot} {rest : List Value} {cc : ByteArray} {Q : State → Prop} {A : Nat → Prop} {own : String} {D : va_G} {ca : Nat → ClassId} {n : Nat} {ad : Nat → Nat} {ct : Nat → va_E} {tt bb ee dd : Nat → Nat → Nat} {jt kt jd N : Nat}
set_option maxHeartbeats 4000000 in
set_option maxRecDepth 100000 in
theorem dsp_respondTo {k index : Nat} {c9 : Nat} (S : CallFix p m c cc nL s args zT own) (hN : zN s) (hK : va_K D zC (zty ca) s) (hP : va_P D zC (zl n ad ct) H) (hS : va_S A H0 H locs) (hA : ∀ q, dA n ad q → A q) (hTS : tS n tt bb ee jt kt jd N) (hTW : tW ca ad tt bb ee jt kt jd N dd ct) (hk : k < N) (hC : C_respond l D ca n ad tt bb ee jt kt jd N ct dd k c9) (w1 : Cond.methodLink own index y_S_respondTo ∈ zT) (hRf : 4 + k ≤ R.frames) (hRl : 40 * (4 + k) ≤ R.locals) (hsize : ls.size = nL) (hWc : (rest.map fun v => v.category).sum ≤ 8) (hdg : decode cc pc = .ok (.invokevirtual index, 3)) (hf : cells ≤ R.cells ∧ slots ≤ R.slots)
    (kk : ∀ (ct1 : Nat → va_E) (H1 : Heap) (locs1 : List Loc), (fun ct1 => tW ca ad tt bb ee jt kt jd N (dq tt k c9 dd) ct1 ∧ fr tt kt jd N ct ct1) ct1 → va_P D zC (zl n ad ct1) H1 → va_S A H0 H1 locs1 → W p l e R s m args below meth c H1 locs1 cells slots Q (F0 m (pc + 3) ls rest)) : W p l e R s m args below meth c H locs cells slots Q (F0 m pc ls (.ref (ad jt) :: .int (nI c9) :: .ref (ad (tt 3 k)) :: rest)) := by
  obtain ⟨t1, t2, t3, t4⟩ := hTS.2.2.2.2 k hk
  obtain ⟨hct, -⟩ := hTW.2.2.2 k hk
  rcases (show tt 0 k = 0 ∨ tt 0 k = 1 ∨ tt 0 k = 2 by omega) with h0 | h0 | h0
  · exact dd_cUv (As := [.int (nI c9), .ref (ad jt)]) (k := 2) (C := R_F) (owner := R_S) (x := y_S_respondTo) S (hC.1 h0) hN w1 mm_S_S_respondTo me_F_S_respondTo_F mo_F_respondTo mi_F md_S_respondTo mc_F_respondTo (by decide +kernel) ⟨rfl, rfl⟩ ⟨(show 2 + 1 ≤ R.frames by omega), (show 8 + (3 + 11) + 80 ≤ R.locals by omega)⟩ (dd_pre hN hK hP t1 (hct.trans (ndC_0 h0)) (r := (R_F, T_F, 7)) rfl) hS hA rfl hsize rfl hWc hdg hf kk
  · exact dd_cUv (As := [.int (nI c9), .ref (ad jt)]) (k := 2) (C := R_A) (owner := R_S) (x := y_S_respondTo) S (hC.2.1 h0) hN w1 mm_S_S_respondTo me_A_S_respondTo_A mo_A_respondTo mi_A md_S_respondTo mc_A_respondTo (by decide +kernel) ⟨rfl, rfl⟩ ⟨(show 3 + k + 1 ≤ R.frames by omega), (show 8 + (3 + 11) + 40 * (3 + k) ≤ R.locals by omega)⟩ (dd_pre hN hK hP t1 (hct.trans (ndC_1 h0)) (r := (R_A, T_A, 3)) rfl) hS hA rfl hsize rfl hWc hdg hf kk
  · exact dd_cUv (As := [.int (nI c9), .ref (ad jt)]) (k := 2) (C := R_O) (owner := R_S) (x := y_S_respondTo) S (hC.2.2 h0) hN w1 mm_S_S_respondTo me_O_S_respondTo_O mo_O_respondTo mi_O md_S_respondTo mc_O_respondTo (by decide +kernel) ⟨rfl, rfl⟩ ⟨(show 3 + k + 1 ≤ R.frames by omega), (show 8 + (4 + 11) + 40 * (3 + k) ≤ R.locals by omega)⟩ (dd_pre hN hK hP t1 (hct.trans (ndC_2 h0)) (r := (R_O, T_O, 5)) rfl) hS hA rfl hsize rfl hWc hdg hf kk
end DS_respondTo

set_option maxHeartbeats 4000000 in
set_option maxRecDepth 100000 in
theorem respond_all (l : Launch) {D : va_G} {ca : Nat → ClassId} {n : Nat} {ad : Nat → Nat} {tt bb ee : Nat → Nat → Nat} {jt kt jd N : Nat} (hI : dI n ad) (hTS : tS n tt bb ee jt kt jd N) (G : Nat → Prop) : ∀ k, k < N → G k → ∀ (ct : Nat → va_E) (dd : Nat → Nat → Nat), tW ca ad tt bb ee jt kt jd N dd ct → gD tt dd N G → ∀ c9, c9 < 5003 → C_respond l D ca n ad tt bb ee jt kt jd N ct dd k c9 := by
  intro k
  induction k using Nat.strongRecOn with
  | ind k ih =>
    intro hk gk ct dd hTW hBd c9 hc9
    obtain ⟨t1, t2, t3, t4⟩ := hTS.2.2.2.2 k hk
    obtain ⟨hct, hlf⟩ := hTW.2.2.2 k hk
    obtain ⟨q0, q1, q2⟩ := hBd k hk gk
    refine ⟨fun h0 => ?_, fun h0 => ?_, fun h0 => ?_⟩
    · obtain ⟨u1, u2, u3, u4, u5⟩ := t4 h0
      obtain ⟨v1, v2, v3⟩ := q0 h0
      have hM := k_respondToF l D ca n ad ct hI (tt 3 k) (tt 4 k) (tt 5 k) (tt 6 k) (bb k) (ee k) (dd 0 k) (dd 1 k) (dd 2 k) (dd 3 k) t1 u1 u2 u3 (hct.trans (ndC_0 h0)) (hlf h0).1 (hlf h0).2 jt kt (dd 6) hTS.1 hTS.2.1 hTW.1 hTW.2.1 v1 c9 hc9 v2 v3
      obtain ⟨c1, c2⟩ := tW_kt hTS hTW (va_up (va_up (dd 6) (dd 0 k * 4 + 2) c9) (dd 0 k * 4 + 3) ((dd 3 k + c9 * dd 2 k) % 5003))
      exact met_cv hM (fun ct1 q => by rw [q, dq_leaf h0]; exact ⟨c1, c2⟩)
    · obtain ⟨hlk, hrk⟩ := t3 (by rw [h0]; decide)
      refine Met.ofW (cc := c_A_respondTo) (maxL := 3) (ret := none) (by decide) rfl ?_
      intro p e s m args below meth c s₁ B hml hv
      obtain ⟨rfl, hN, hK, hP⟩ := hv
      have hx := B.exec
      have hb := B.bytes
      have hr := B.returns
      have hts0 := atoms_spec (ws := Cond.code y_A_respondTo c_A_respondTo 3 none :: zT) B.pre
      have hts := fun w h => hts0 w (List.mem_cons_of_mem _ h)
      have hown : s.vm.findClass R_A = some m.cls := findClass_of_methodNamed B.named
      have hlocks := B.notSynchronized
      have hD := dI_D hI
      have hS : va_S (dA n ad) s.heap s.heap [] := va_S.rf
      have hAA : ∀ q, dA n ad q → dA n ad q := fun _ h => h
      have hl := lv_entry ([.ref (ad (tt 3 k)), .int (nI c9), .ref (ad jt)]) (n := 3) (Nat.le_of_ble_eq_true rfl)
      rw [lg_entry_eq]
      generalize (lg_sl ([.ref (ad (tt 3 k)), .int (nI c9), .ref (ad jt)]) ++ List.replicate (3 - (lg_sl ([.ref (ad (tt 3 k)), .int (nI c9), .ref (ad jt)])).length) Slot.unset).toArray = ls at hl ⊢
      have hl : lv_has ls 3 [(0, .ref (ad (tt 3 k))), (1, .int (nI c9)), (2, .ref (ad jt))] := hl
      have c0 := (hTW.2.2.2 k hk).1.trans (ndC_1 h0)
      have c5 := hTW.2.2.1
      refine lv_aload_n hx hb d_A_respondTo_0 rfl (lv_at hl 0 rfl) ?_
      refine zz_get (j := tt 3 k) (ci := 2) (C := R_A) (T := T_A) (N := 3) hx hb hts in_A hown hK hP t1 c0 rfl 0 (by decide) (hts _ mf_A_9) (fun x h => u_same (hts _ mF_A_left) x h) (v := .ref (ad (tt 3 (tt 1 k)))) rfl d_A_respondTo_1 ?_
      refine lv_iload_n hx hb d_A_respondTo_4 rfl (lv_at hl 1 rfl) ?_
      refine lv_aload_n hx hb d_A_respondTo_5 rfl (lv_at hl 2 rfl) ?_
      refine dsp_respondTo (k := tt 1 k) (index := 32) (rest := []) ⟨hx, hb, hml, hown, hts⟩ hN hK hP hS hAA hTS hTW (by omega) (ih (tt 1 k) hlk (by omega) (q1 h0).1 ct dd hTW hBd c9 hc9) mk_A_32 (show 4 + tt 1 k ≤ 3 + k by omega) (show 40 * (4 + tt 1 k) ≤ 40 * (3 + k) by omega) hl.1 (Nat.le_of_ble_eq_true rfl) d_A_respondTo_6 ⟨Nat.zero_le _, Nat.zero_le _⟩ (fun ct1 H locs hct1 hP hS => ?_)
      obtain ⟨hTW1, hfr1⟩ := hct1
      obtain ⟨e1, he1⟩ : ∃ d, d = dq tt (tt 1 k) c9 dd := ⟨_, rfl⟩
      rw [← he1] at hTW1
      have hBd1 : gD tt e1 N G := gD_of hBd (fun j hj => by rw [he1]; exact dq_row hj _ _ _)
      have hfr1 := fr_tr fr_rf hfr1
      have c0 := (hTW1.2.2.2 k hk).1.trans (ndC_1 h0)
      have c5 := hTW1.2.2.1
      refine lv_aload_n hx hb d_A_respondTo_9 rfl (lv_at hl 0 rfl) ?_
      refine zz_get (j := tt 3 k) (ci := 2) (C := R_A) (T := T_A) (N := 3) hx hb hts in_A hown hK hP t1 c0 rfl 1 (by decide) (hts _ mf_A_21) (fun x h => u_same (hts _ mF_A_right) x h) (v := .ref (ad (tt 3 (tt 2 k)))) rfl d_A_respondTo_10 ?_
      refine lv_iload_n hx hb d_A_respondTo_13 rfl (lv_at hl 1 rfl) ?_
      refine lv_aload_n hx hb d_A_respondTo_14 rfl (lv_at hl 2 rfl) ?_
      refine dsp_respondTo (k := tt 2 k) (index := 32) (rest := []) ⟨hx, hb, hml, hown, hts⟩ hN hK hP hS hAA hTS hTW1 (by omega) (ih (tt 2 k) hrk (by omega) (q1 h0).2 ct1 e1 hTW1 hBd1 c9 hc9) mk_A_32 (show 4 + tt 2 k ≤ 3 + k by omega) (show 40 * (4 + tt 2 k) ≤ 40 * (3 + k) by omega) hl.1 (Nat.le_of_ble_eq_true rfl) d_A_respondTo_15 ⟨Nat.zero_le _, Nat.zero_le _⟩ (fun ct2 H locs hct2 hP hS => ?_)
      obtain ⟨hTW2, hfr2⟩ := hct2
      obtain ⟨e2, he2⟩ : ∃ d, d = dq tt (tt 2 k) c9 e1 := ⟨_, rfl⟩
      rw [← he2] at hTW2
      have hBd2 : gD tt e2 N G := gD_of hBd1 (fun j hj => by rw [he2]; exact dq_row hj _ _ _)
      have hfr2 := fr_tr hfr1 hfr2
      have c0 := (hTW2.2.2.2 k hk).1.trans (ndC_1 h0)
      have c5 := hTW2.2.2.1
      exact W.vret hx hb hr (fun t ht hW => ⟨⟨ct2, rfl, ⟨by rw [dq_and h0 hlk hrk, ← he1, ← he2]; exact hTW2, hfr2⟩, zN_warm hW hN, va_K.moved hW.alike hK, by rw [ht]; exact hP⟩, hS.F ht⟩) hS.2.2 d_A_respondTo_18
    · obtain ⟨hlk, hrk⟩ := t3 (by rw [h0]; decide)
      obtain ⟨v1, v2, v3, v4⟩ := q2 h0
      refine Met.ofW (cc := c_O_respondTo) (maxL := 4) (ret := none) (by decide) rfl ?_
      intro p e s m args below meth c s₁ B hml hv
      obtain ⟨rfl, hN, hK, hP⟩ := hv
      have hx := B.exec
      have hb := B.bytes
      have hr := B.returns
      have hts0 := atoms_spec (ws := Cond.code y_O_respondTo c_O_respondTo 4 none :: zT) B.pre
      have hts := fun w h => hts0 w (List.mem_cons_of_mem _ h)
      have hown : s.vm.findClass R_O = some m.cls := findClass_of_methodNamed B.named
      have hlocks := B.notSynchronized
      have hD := dI_D hI
      have hS : va_S (dA n ad) s.heap s.heap [] := va_S.rf
      have hAA : ∀ q, dA n ad q → dA n ad q := fun _ h => h
      have hl := lv_entry ([.ref (ad (tt 3 k)), .int (nI c9), .ref (ad jt)]) (n := 4) (Nat.le_of_ble_eq_true rfl)
      rw [lg_entry_eq]
      generalize (lg_sl ([.ref (ad (tt 3 k)), .int (nI c9), .ref (ad jt)]) ++ List.replicate (4 - (lg_sl ([.ref (ad (tt 3 k)), .int (nI c9), .ref (ad jt)])).length) Slot.unset).toArray = ls at hl ⊢
      have hl : lv_has ls 4 [(0, .ref (ad (tt 3 k))), (1, .int (nI c9)), (2, .ref (ad jt))] := hl
      have c0 := (hTW.2.2.2 k hk).1.trans (ndC_2 h0)
      have c5 := hTW.2.2.1
      refine lv_aload_n hx hb d_O_respondTo_0 rfl (lv_at hl 0 rfl) ?_
      refine zz_get (j := tt 3 k) (ci := 3) (C := R_O) (T := T_O) (N := 5) hx hb hts in_O hown hK hP t1 c0 rfl 3 (by decide) (hts _ mf_O_24) (fun _ h => h) (v := .int (nI (dd 4 k))) rfl d_O_respondTo_1 ?_
      refine lv_if_eq (tgt := 14) hx hb d_O_respondTo_4 rfl (fun h4 => ?_) (fun h4 => ?_)
      · skip
        have k1 : ¬ dd 4 k = 1 := by have := b_z v2 h4; omega
        refine lv_aload_n hx hb d_O_respondTo_14 rfl (lv_at hl 0 rfl) ?_
        refine zz_get (j := tt 3 k) (ci := 3) (C := R_O) (T := T_O) (N := 5) hx hb hts in_O hown hK hP t1 c0 rfl 1 (by decide) (hts _ mf_O_21) (fun x h => u_same (hts _ mF_O_right) x h) (v := .ref (ad (tt 3 (tt 2 k)))) rfl d_O_respondTo_15 ?_
        refine lv_astore_n (lv' := [(3, .ref (ad (tt 3 (tt 2 k)))), (0, .ref (ad (tt 3 k))), (1, .int (nI c9)), (2, .ref (ad jt))]) hx hb d_O_respondTo_18 rfl hl (by decide) rfl (fun ls hl => ?_)
        refine lv_aload_n hx hb d_O_respondTo_19 rfl (lv_at hl 0 rfl) ?_
        refine lv_iload_n hx hb d_O_respondTo_20 rfl (lv_at hl 2 rfl) ?_
        refine lv_aload_n hx hb d_O_respondTo_21 rfl (lv_at hl 1 rfl) ?_
        refine zz_get (j := tt 3 k) (ci := 3) (C := R_O) (T := T_O) (N := 5) hx hb hts in_O hown hK hP t1 c0 rfl 4 (by decide) (hts _ mf_O_34) (fun _ h => h) (v := .int (nI (dd 5 k))) rfl d_O_respondTo_22 ?_
        refine zz_cSN (index := 46) (n := 2) (As := [.int (nI c9), .int (nI (dd 5 k))]) (rest := [.ref (ad (tt 3 (tt 2 k)))]) ⟨hx, hb, hml, hown, hts⟩ (k_minus l c9 (dd 5 k) hc9 v1) hN mk_O_46 ms_D_minus mi_D mc_D_minus (by decide +kernel) ⟨rfl, rfl⟩ ⟨(by show 1 + 1 ≤ 3 + k; omega), (by show 8 + (_ + 11) + 40 ≤ 40 * (3 + k); omega)⟩ preEq rfl hl.1 rfl (Nat.le_of_ble_eq_true rfl) d_O_respondTo_25 ⟨Nat.zero_le _, Nat.zero_le _⟩ ?_
        refine lv_aload_n hx hb d_O_respondTo_28 rfl (lv_at hl 3 rfl) ?_
        refine dsp_respondTo (k := tt 2 k) (index := 50) (rest := []) ⟨hx, hb, hml, hown, hts⟩ hN hK hP hS hAA hTS hTW (by omega) (ih (tt 2 k) hrk (by omega) (v4 k1) ct dd hTW hBd (ls5 c9 (dd 5 k)) (ls5_lt _ _)) mk_O_50 (show 4 + tt 2 k ≤ 3 + k by omega) (show 40 * (4 + tt 2 k) ≤ 40 * (3 + k) by omega) hl.1 (Nat.le_of_ble_eq_true rfl) d_O_respondTo_29 ⟨Nat.zero_le _, Nat.zero_le _⟩ (fun ct1 H locs hct1 hP hS => ?_)
        obtain ⟨hTW1, hfr1⟩ := hct1
        obtain ⟨e1, he1⟩ : ∃ d, d = dq tt (tt 2 k) (ls5 c9 (dd 5 k)) dd := ⟨_, rfl⟩
        rw [← he1] at hTW1
        have hBd1 : gD tt e1 N G := gD_of hBd (fun j hj => by rw [he1]; exact dq_row hj _ _ _)
        have hfr1 := fr_tr fr_rf hfr1
        have c0 := (hTW1.2.2.2 k hk).1.trans (ndC_2 h0)
        have c5 := hTW1.2.2.1
        exact W.vret hx hb hr (fun t ht hW => ⟨⟨ct1, rfl, ⟨by rw [dq_orR h0 hlk hrk _ _ k1, ← he1]; exact hTW1, hfr1⟩, zN_warm hW hN, va_K.moved hW.alike hK, by rw [ht]; exact hP⟩, hS.F ht⟩) hS.2.2 d_O_respondTo_32
      · skip
        have k1 : dd 4 k = 1 := b_o v2 h4
        refine lv_aload_n hx hb d_O_respondTo_7 rfl (lv_at hl 0 rfl) ?_
        refine zz_get (j := tt 3 k) (ci := 3) (C := R_O) (T := T_O) (N := 5) hx hb hts in_O hown hK hP t1 c0 rfl 0 (by decide) (hts _ mf_O_9) (fun x h => u_same (hts _ mF_O_left) x h) (v := .ref (ad (tt 3 (tt 1 k)))) rfl d_O_respondTo_8 ?_
        refine lv_goto (tgt := 18) hx hb d_O_respondTo_11 rfl ?_
        refine lv_astore_n (lv' := [(3, .ref (ad (tt 3 (tt 1 k)))), (0, .ref (ad (tt 3 k))), (1, .int (nI c9)), (2, .ref (ad jt))]) hx hb d_O_respondTo_18 rfl hl (by decide) rfl (fun ls hl => ?_)
        refine lv_aload_n hx hb d_O_respondTo_19 rfl (lv_at hl 0 rfl) ?_
        refine lv_iload_n hx hb d_O_respondTo_20 rfl (lv_at hl 2 rfl) ?_
        refine lv_aload_n hx hb d_O_respondTo_21 rfl (lv_at hl 1 rfl) ?_
        refine zz_get (j := tt 3 k) (ci := 3) (C := R_O) (T := T_O) (N := 5) hx hb hts in_O hown hK hP t1 c0 rfl 4 (by decide) (hts _ mf_O_34) (fun _ h => h) (v := .int (nI (dd 5 k))) rfl d_O_respondTo_22 ?_
        refine zz_cSN (index := 46) (n := 2) (As := [.int (nI c9), .int (nI (dd 5 k))]) (rest := [.ref (ad (tt 3 (tt 1 k)))]) ⟨hx, hb, hml, hown, hts⟩ (k_minus l c9 (dd 5 k) hc9 v1) hN mk_O_46 ms_D_minus mi_D mc_D_minus (by decide +kernel) ⟨rfl, rfl⟩ ⟨(by show 1 + 1 ≤ 3 + k; omega), (by show 8 + (_ + 11) + 40 ≤ 40 * (3 + k); omega)⟩ preEq rfl hl.1 rfl (Nat.le_of_ble_eq_true rfl) d_O_respondTo_25 ⟨Nat.zero_le _, Nat.zero_le _⟩ ?_
        refine lv_aload_n hx hb d_O_respondTo_28 rfl (lv_at hl 3 rfl) ?_
        refine dsp_respondTo (k := tt 1 k) (index := 50) (rest := []) ⟨hx, hb, hml, hown, hts⟩ hN hK hP hS hAA hTS hTW (by omega) (ih (tt 1 k) hlk (by omega) (v3 k1) ct dd hTW hBd (ls5 c9 (dd 5 k)) (ls5_lt _ _)) mk_O_50 (show 4 + tt 1 k ≤ 3 + k by omega) (show 40 * (4 + tt 1 k) ≤ 40 * (3 + k) by omega) hl.1 (Nat.le_of_ble_eq_true rfl) d_O_respondTo_29 ⟨Nat.zero_le _, Nat.zero_le _⟩ (fun ct1 H locs hct1 hP hS => ?_)
        obtain ⟨hTW1, hfr1⟩ := hct1
        obtain ⟨e1, he1⟩ : ∃ d, d = dq tt (tt 1 k) (ls5 c9 (dd 5 k)) dd := ⟨_, rfl⟩
        rw [← he1] at hTW1
        have hBd1 : gD tt e1 N G := gD_of hBd (fun j hj => by rw [he1]; exact dq_row hj _ _ _)
        have hfr1 := fr_tr fr_rf hfr1
        have c0 := (hTW1.2.2.2 k hk).1.trans (ndC_2 h0)
        have c5 := hTW1.2.2.1
        exact W.vret hx hb hr (fun t ht hW => ⟨⟨ct1, rfl, ⟨by rw [dq_orL h0 hlk hrk _ _ k1, ← he1]; exact hTW1, hfr1⟩, zN_warm hW hN, va_K.moved hW.alike hK, by rw [ht]; exact hP⟩, hS.F ht⟩) hS.2.2 d_O_respondTo_32

section DQ
variable {p : Program} {l : Launch} {e : Env} {R : Room} {s : State} {m : MethodId} {args : Array Value} {below : List Frame} {meth : Method} {c : Code} {H H0 : Heap} {locs : List Loc} {cells slots pc n : Nat} {ls : Array Slot} {rest : List Value} {cc : ByteArray} {Q : State → Prop} {A : Nat → Prop} {D : va_G} {ca : Nat → ClassId} {ad : Nat → Nat} {ct : Nat → va_E}
theorem zty_q {D : va_G} {t0 : Nat} (ht : t0 = 2 ∨ t0 = 3) : ∃ C, (zty ca)[t0]? = some (ca t0, .object C) := by
  rcases ht with rfl | rfl
  · exact ⟨_, rfl⟩
  · exact ⟨_, rfl⟩
/-- a reference out of an array -/
theorem dd_aald (hexec : p.tables.exec = Jvm.exec) (hb : c.code = cc) (hK : va_K D zC (zty ca) s) (hP : va_P D zC (zl n ad ct) H) {j : Nat} (hj : j < n) {t0 N : Nat} (ht0 : t0 = 2 ∨ t0 = 3) {f : Nat → Option Nat} (ha : ct j = .inl (ca t0, N, .inr (.inr (.inr (.inr f))))) {i : Int32} (k : Nat) (hi : i = nI k) (hk : k < N) (hN : N < 2 ^ 31) {v : Value} (hv : va_rf (f k) = v) (hdg : decode cc pc = .ok (.aaload, 1))
    (kk : W p l e R s m args below meth c H locs cells slots Q (F0 m (pc + 1) ls (v :: rest))) : W p l e R s m args below meth c H locs cells slots Q (F0 m pc ls (.int i :: .ref (ad j) :: rest)) := by
  subst hi
  subst hv
  obtain ⟨C, hC⟩ := zty_q (D := D) (ca := ca) ht0
  refine va_aldq hexec hb hK hP j t0 ((zl_get hj).trans (by rw [ha])) hC (vp_in_nI hk hN) hdg ?_
  rw [nI_clamp (by omega)]; exact kk
/-- a Leaf into a Leaf[] -/
theorem dd_aastF (hexec : p.tables.exec = Jvm.exec) (hb : c.code = cc) (hK : va_K D zC (zty ca) s) (hP : va_P D zC (zl n ad ct) H) (hD : zD A n ad) (hS : va_S A H0 H locs) {j q : Nat} (hj : j < n) (hq : q < n) {N : Nat} {f : Nat → Option Nat} {vs : List Value} (ha : ct j = .inl (ca 3, N, .inr (.inr (.inr (.inr f))))) (hc : ct q = .inr (4, vs)) {i : Int32} (k : Nat) (hi : i = nI k) (hk : k < N) (hN : N < 2 ^ 31) (hdg : decode cc pc = .ok (.aastore, 1))
    (kk : ∀ (H1 : Heap) (locs1 : List Loc), va_P D zC (zl n ad (va_up ct j (.inl (ca 3, N, .inr (.inr (.inr (.inr (va_up f k (some (ad q)))))))))) H1 → va_S A H0 H1 locs1 → W p l e R s m args below meth c H1 locs1 cells slots Q (F0 m (pc + 1) ls rest)) : W p l e R s m args below meth c H locs cells slots Q (F0 m pc ls (.ref (ad q) :: .int i :: .ref (ad j) :: rest)) := by
  subst hi
  refine va_astq (r := (R_F, T_F, 7)) hexec hb hK hP (zD_to hD ct) hS j 3 q 4 ((zl_get hj).trans (by rw [ha])) rfl ((zl_get hq).trans (by rw [hc])) rfl (vp_in_nI hk hN) hdg (fun H1 locs1 h1 _ h3 => kk H1 locs1 ?_ h3)
  rw [zl_set, nI_clamp (by omega)] at h1; exact h1
/-- a statement into a Statement[] -/
theorem dd_aastS (hexec : p.tables.exec = Jvm.exec) (hb : c.code = cc) (hNs : zN s) (hK : va_K D zC (zty ca) s) (hP : va_P D zC (zl n ad ct) H) (hD : zD A n ad) (hS : va_S A H0 H locs) {j q ci : Nat} (hj : j < n) (hq : q < n) {N : Nat} {f : Nat → Option Nat} {vs : List Value} (ha : ct j = .inl (ca 2, N, .inr (.inr (.inr (.inr f))))) (hc : ct q = .inr (ci, vs)) (hci : ci = 4 ∨ ci = 2 ∨ ci = 3) {i : Int32} (k : Nat) (hi : i = nI k) (hk : k < N) (hN : N < 2 ^ 31) (hdg : decode cc pc = .ok (.aastore, 1))
    (kk : ∀ (H1 : Heap) (locs1 : List Loc), va_P D zC (zl n ad (va_up ct j (.inl (ca 2, N, .inr (.inr (.inr (.inr (va_up f k (some (ad q)))))))))) H1 → va_S A H0 H1 locs1 → W p l e R s m args below meth c H1 locs1 cells slots Q (F0 m (pc + 1) ls rest)) : W p l e R s m args below meth c H locs cells slots Q (F0 m pc ls (.ref (ad q) :: .int i :: .ref (ad j) :: rest)) := by
  subst hi
  have fin : ∀ (H1 : Heap) (locs1 : List Loc), va_P D zC ((zl n ad ct).set j (ad j, .inl (ca 2, N, .inr (.inr (.inr (.inr (va_up f (nI k).toNatClampNeg (some (ad q))))))))) H1 → va_S A H0 H1 locs1 → W p l e R s m args below meth c H1 locs1 cells slots Q (F0 m (pc + 1) ls rest) := fun H1 locs1 h1 h3 => kk H1 locs1 (by rw [zl_set, nI_clamp (by omega)] at h1; exact h1) h3
  rcases hci with rfl | rfl | rfl
  · exact va_astqO (E := R_S) (r := (R_F, T_F, 7)) hexec hb hK hP (zD_to hD ct) hS j 2 q 4 ((zl_get hj).trans (by rw [ha])) rfl (hNs _ mx_F_S rfl) ((zl_get hq).trans (by rw [hc])) rfl (vp_in_nI hk hN) hdg (fun H1 locs1 h1 _ h3 => fin H1 locs1 h1 h3)
  · exact va_astqO (E := R_S) (r := (R_A, T_A, 3)) hexec hb hK hP (zD_to hD ct) hS j 2 q 2 ((zl_get hj).trans (by rw [ha])) rfl (hNs _ mx_A_S rfl) ((zl_get hq).trans (by rw [hc])) rfl (vp_in_nI hk hN) hdg (fun H1 locs1 h1 _ h3 => fin H1 locs1 h1 h3)
  · exact va_astqO (E := R_S) (r := (R_O, T_O, 5)) hexec hb hK hP (zD_to hD ct) hS j 2 q 3 ((zl_get hj).trans (by rw [ha])) rfl (hNs _ mx_O_S rfl) ((zl_get hq).trans (by rw [hc])) rfl (vp_in_nI hk hN) hdg (fun H1 locs1 h1 _ h3 => fin H1 locs1 h1 h3)
/-- null into an array -/
theorem dd_aastN (hexec : p.tables.exec = Jvm.exec) (hb : c.code = cc) (hK : va_K D zC (zty ca) s) (hP : va_P D zC (zl n ad ct) H) (hD : zD A n ad) (hS : va_S A H0 H locs) {j : Nat} (hj : j < n) {N : Nat} {f : Nat → Option Nat} (ha : ct j = .inl (ca 2, N, .inr (.inr (.inr (.inr f))))) {i : Int32} (k : Nat) (hi : i = nI k) (hk : k < N) (hN : N < 2 ^ 31) (hdg : decode cc pc = .ok (.aastore, 1))
    (kk : ∀ (H1 : Heap) (locs1 : List Loc), va_P D zC (zl n ad (va_up ct j (.inl (ca 2, N, .inr (.inr (.inr (.inr (va_up f k none)))))))) H1 → va_S A H0 H1 locs1 → W p l e R s m args below meth c H1 locs1 cells slots Q (F0 m (pc + 1) ls rest)) : W p l e R s m args below meth c H locs cells slots Q (F0 m pc ls (.null :: .int i :: .ref (ad j) :: rest)) := by
  subst hi
  refine va_astqN (C := R_S) hexec hb hK hP (zD_to hD ct) hS j 2 ((zl_get hj).trans (by rw [ha])) rfl (vp_in_nI hk hN) hdg (fun H1 locs1 h1 _ h3 => kk H1 locs1 ?_ h3)
  rw [zl_set, nI_clamp (by omega)] at h1; exact h1
end DQ
