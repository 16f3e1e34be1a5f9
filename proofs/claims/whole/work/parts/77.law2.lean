/-! the law's start: the classes, the fresh desk, the fresh model -/
theorem arr_i {ty : FieldType} {args : Array Value} {s : State} (h : (Cond.arrayClass ty).before args s = true) : ∃ cA, ArrOfT s cA ty ∧ s.vm.findClass ("[" ++ ty.toString) = some cA := by
  obtain ⟨cA, kA, comp, h1, h2, h3⟩ := Cond.arrayClass_spec h
  exact ⟨cA, fun n z => ⟨(fun k h => by cases h), kA, h2, comp, h3⟩, h1⟩
theorem arr_o {C : String} {s : State} (h : va_AO C s) : ∃ cA, ArrOfT s cA (.object C) ∧ va_RA s cA (.object C) := by
  obtain ⟨comp, c, k, h1, -, h3, h4, h5⟩ := Cond.arrayOver_spec h
  exact ⟨c, fun n z => ⟨(fun k h => by cases h), k, h3, comp, h4⟩, k, comp, h3, h4, h1, h5⟩
theorem l_K {args : Array Value} {s : State} (hts : ∀ w ∈ zT, w.before args s = true) (hS : va_AO R_S s) (hF : va_AO R_F s) : ∃ (D : va_G) (ca : Nat → ClassId), va_K D zC (zty ca) s := by
  obtain ⟨c0, i0, h0⟩ := u_known hts in_D (hts _ mt_D)
  obtain ⟨c1, i1, h1⟩ := u_known hts in_M (hts _ mt_M)
  obtain ⟨c2, i2, h2⟩ := u_known hts in_A (hts _ mt_A)
  obtain ⟨c3, i3, h3⟩ := u_known hts in_O (hts _ mt_O)
  obtain ⟨c4, i4, h4⟩ := u_known hts in_F (hts _ mt_F)
  obtain ⟨c5, i5, h5⟩ := u_known hts in_T (hts _ mt_T)
  obtain ⟨c6, i6, h6⟩ := u_known hts in_G (hts _ mt_G)
  obtain ⟨a0, b0, e0⟩ := arr_i (hts _ ma_int)
  obtain ⟨a1, b1, e1⟩ := arr_i (hts _ ma_boolean)
  obtain ⟨a2, b2, e2⟩ := arr_o hS
  obtain ⟨a3, b3, e3⟩ := arr_o hF
  refine ⟨(fun k => [c0, c1, c2, c3, c4, c5, c6].getD k c0, fun k => [i0, i1, i2, i3, i4, i5, i6].getD k i0), fun k => [a0, a1, a2, a3].getD k a0, fun c q hq => ?_, fun k q hk => ?_⟩
  · have hl : c < 7 := (List.getElem?_eq_some_iff.mp hq).1
    rcases (show c = 0 ∨ c = 1 ∨ c = 2 ∨ c = 3 ∨ c = 4 ∨ c = 5 ∨ c = 6 by omega) with rfl | rfl | rfl | rfl | rfl | rfl | rfl <;> cases hq
    · exact h0
    · exact h1
    · exact h2
    · exact h3
    · exact h4
    · exact h5
    · exact h6
  · have hl : k < 4 := (List.getElem?_eq_some_iff.mp hk).1
    rcases (show k = 0 ∨ k = 1 ∨ k = 2 ∨ k = 3 by omega) with rfl | rfl | rfl | rfl <;> cases hk
    · exact ⟨b0, e0⟩
    · exact ⟨b1, e1⟩
    · exact ⟨b2, e2⟩
    · exact ⟨b3, e3⟩
section LS
variable {p : Program} {l : Launch} {e : Env} {s : State} {m : MethodId} {below : List Frame} {meth : Method} {c : Code} {b L : Nat} {ls : Array Slot} {Q : State → Prop} {D : va_G} {ca : Nat → ClassId} {xs : Nat → Int32}
set_option maxHeartbeats 4000000 in
set_option maxRecDepth 100000 in
theorem l_startD (X : lX p s m c b L xs D ca) (hoS : va_AO R_S s) (hoF : va_AO R_F s) (hl : lv_has ls 4 [(0, .ref b)]) (kk : ∀ (ad : Nat → Nat) (ct : Nat → va_E) (H : Heap) (locs : List Loc) (ls : Array Slot), va_P D zC (zl 8 ad ct) H → zD (lA s) 8 ad → va_S (lA s) s.heap H locs → Cp ca 8 ad ct (fun _ _ => 0) → lv_has ls 4 [(1, .ref (ad 0)), (0, .ref b)] → W p l e room_1 s m #[Value.ref b] below meth c H locs 8 91 Q (F0 m 8 ls [])) : W p l e room_1 s m #[Value.ref b] below meth c s.heap [] 0 0 Q (F0 m 0 ls []) := by
  obtain ⟨hx, hb, hml, hown, hts, hN, hK, hXs, hbl, hL⟩ := X
  have hA : ∀ q : Nat, s.heap.size ≤ q → lA s q := fun q h => h
  have hP : va_P D zC (zl 0 (fun _ => 0) (fun _ => .inr (0, []))) s.heap := zP_of (fun j hj => absurd hj (Nat.not_lt_zero _))
  have hD : zD (lA s) 0 (fun _ => 0) := ⟨fun i j hi => absurd hi (Nat.not_lt_zero _), fun j hj => absurd hj (Nat.not_lt_zero _)⟩
  have hS : va_S (lA s) s.heap s.heap [] := va_S.rf
  refine dd_newO (ci := 0) (C := R_D) (T := T_D) (N := 10) hx hb hts in_D ft_D ft_D_ok hown ml_L_7 mt_D mi_D hK hP hD hS hA rfl (fs := [.null, .int 0, .null, .null, .int 0, .null, .null, .null, .int 0, .int 0]) (fun j hj => by rcases (show j = 0 ∨ j = 1 ∨ j = 2 ∨ j = 3 ∨ j = 4 ∨ j = 5 ∨ j = 6 ∨ j = 7 ∨ j = 8 ∨ j = 9 by omega) with rfl | rfl | rfl | rfl | rfl | rfl | rfl | rfl | rfl | rfl <;> rfl) (by decide) (by decide) d_law_0 (fun ad1 H hag hP hD hS => ?_)
  refine lv_dup hx hb d_law_3 rfl ?_
  have hAA : ∀ q, nA 1 ad1 H.size q → lA s q := fun q h => h.elim (zD_A hD q) (fun h => Nat.le_trans hS.1 h)
  have hp : PreS s H (va_Pc [.ref (ad1 0)] (fun U => U.heap.size = H.size ∧ va_AO R_S U ∧ va_AO R_F U ∧ dw D ca 1 ad1 (va_up (fun _ => .inr (0, [])) 0 (.inr (0, [.null, .int 0, .null, .null, .int 0, .null, .null, .null, .int 0, .int 0]))) U)) [.ref (ad1 0)] :=
    ⟨fun a U g mk q => ⟨q.1, q.2.1, va_AO.moved (u := U) (U := U.calling g mk a) (Vm.Alike.refl U.vm) q.2.2.1, va_AO.moved (u := U) (U := U.calling g mk a) (Vm.Alike.refl U.vm) q.2.2.2.1, zN_same (u := U) (U := U.calling g mk a) rfl q.2.2.2.2.1, va_K.moved (u := U) (U := U.calling g mk a) (Vm.Alike.refl U.vm) q.2.2.2.2.2.1, q.2.2.2.2.2.2⟩, fun U hU hW => ⟨rfl, by rw [hU], va_AO.moved hW.alike hoS, va_AO.moved hW.alike hoF, zN_warm hW hN, va_K.moved hW.alike hK, by rw [hU]; exact hP⟩⟩
  refine va_callv (va_runI (index := 9) (n := 0) (As := []) (rest := [.ref (ad1 0)]) ⟨hx, hb, hml, hown, hts⟩ (k_initD l D ca ad1 _ hD.1 H.size (va_up_self _ _ _)) ⟨zz_cb hts mk_L_9 mi_D mc_D_init (by decide +kernel) ⟨rfl, rfl⟩ ⟨Nat.le_of_ble_eq_true rfl, Nat.le_of_ble_eq_true rfl⟩, rfl, hts _ mo_D_init⟩ hp rfl rfl hl.1 rfl (lv_room (Nat.le_of_ble_eq_true rfl)) d_law_4 ⟨by decide, by decide⟩) hS (fun q _ h => hAA q h) hAA (fun u t H1 locs1 ht hvm hpost hB _ _ hS1 => ?_)
  obtain ⟨u1, u2, u3, u4⟩ := hpost
  have hP1 : va_P D zC (zl u.1 u.2.1 u.2.2) H1 := by rw [← ht]; exact hB.2.2
  have hC := Cp_0 u1 u4.1 u4.2.1 u4.2.2.1 u4.2.2.2.1 u4.2.2.2.2.1 u4.2.2.2.2.2.1 u4.2.2.2.2.2.2.1 u4.2.2.2.2.2.2.2
  rw [u1] at hP1 hC
  refine lv_astore_n (lv' := [(1, .ref (ad1 0)), (0, .ref b)]) hx hb d_law_7 rfl hl (by decide) rfl (fun ls hl => ?_)
  rw [← u2] at hl
  exact kk u.2.1 u.2.2 H1 locs1 ls hP1 ⟨u3.1, fun j hj => hAA _ (u3.2 j hj)⟩ hS1 hC hl
theorem mfP0 (am am1 : Nat → Nat) : mfP am 0 = mfP am1 0 := by
  unfold mfP
  apply List.map_congr_left
  intro i _
  rw [if_neg (Nat.not_lt_zero _), if_neg (Nat.not_lt_zero _)]
theorem mfP_df : ∀ j, j < 34 → defaultValue (ft_M j) = vp_V (mfP (fun _ => 0) 0) j := fun j hj => by
  rcases (show j = 0 ∨ j = 1 ∨ j = 2 ∨ j = 3 ∨ j = 4 ∨ j = 5 ∨ j = 6 ∨ j = 7 ∨ j = 8 ∨ j = 9 ∨ j = 10 ∨ j = 11 ∨ j = 12 ∨ j = 13 ∨ j = 14 ∨ j = 15 ∨ j = 16 ∨ j = 17 ∨ j = 18 ∨ j = 19 ∨ j = 20 ∨ j = 21 ∨ j = 22 ∨ j = 23 ∨ j = 24 ∨ j = 25 ∨ j = 26 ∨ j = 27 ∨ j = 28 ∨ j = 29 ∨ j = 30 ∨ j = 31 ∨ j = 32 ∨ j = 33 by omega) with rfl | rfl | rfl | rfl | rfl | rfl | rfl | rfl | rfl | rfl | rfl | rfl | rfl | rfl | rfl | rfl | rfl | rfl | rfl | rfl | rfl | rfl | rfl | rfl | rfl | rfl | rfl | rfl | rfl | rfl | rfl | rfl | rfl | rfl <;> rfl
set_option maxHeartbeats 4000000 in
set_option maxRecDepth 100000 in
theorem l_startM (X : lX p s m c b L xs D ca) {ad : Nat → Nat} {ct : Nat → va_E} {H : Heap} {locs : List Loc} (hP : va_P D zC (zl 8 ad ct) H) (hD : zD (lA s) 8 ad) (hS : va_S (lA s) s.heap H locs) (hl : lv_has ls 4 [(1, .ref (ad 0)), (0, .ref b)]) (kk : ∀ (am : Nat → Nat) (H : Heap) (locs : List Loc) (ls : Array Slot), lJ D ca s H locs 8 ad ct am (fun _ _ => 0) → lv_has ls 4 [(3, .int (nI 0)), (2, .ref (am 0)), (1, .ref (ad 0)), (0, .ref b)] → W p l e room_1 s m #[Value.ref b] below meth c H locs 36 859 Q (F0 m 18 ls [])) : W p l e room_1 s m #[Value.ref b] below meth c H locs 8 91 Q (F0 m 8 ls []) := by
  obtain ⟨hx, hb, hml, hown, hts, hN, hK, hXs, hbl, hL⟩ := X
  have hA : ∀ q : Nat, s.heap.size ≤ q → lA s q := fun q h => h
  refine dd_newO (ci := 1) (C := R_M) (T := T_M) (N := 34) hx hb hts in_M ft_M ft_M_ok hown ml_L_10 mt_M mi_M hK hP hD hS hA rfl (fs := mfP (fun _ => 0) 0) mfP_df (by decide) (by decide) d_law_8 (fun ad1 H1 hag hP1 hD1 hS1 => ?_)
  refine lv_dup hx hb d_law_11 rfl ?_
  have hPd : va_P D zC (zl 8 ad ct) H1 := zP_of (fun j hj => by
    have h := zP_at hP1 (show j < 8 + 1 by omega)
    rw [va_up_ne _ _ (by omega), hag j hj] at h
    exact h)
  have hPm : va_P D zC (zl 1 (fun _ => ad1 8) (mcP ca (fun _ => ad1 8) 0)) H1 := zP_of (fun j hj => by
    have h := zP_at hP1 (show 8 < 8 + 1 by omega)
    rw [va_up_self, mfP0 _ (fun _ => ad1 8)] at h
    rw [show j = 0 by omega]
    exact h)
  have hAA : ∀ q, (q = ad1 8 ∨ H1.size ≤ q) → lA s q := fun q h => h.elim (fun h => h ▸ hD1.2 8 (by decide)) (fun h => Nat.le_trans hS1.1 h)
  have hp : PreS s H1 (va_Pc [.ref (ad1 8)] (fun U => U.heap.size = H1.size ∧ va_K D zC (zty ca) U ∧ va_P D zC (zl 1 (fun _ => ad1 8) (mcP ca (fun _ => ad1 8) 0)) U.heap)) [.ref (ad1 8)] :=
    ⟨fun a U g mk q => ⟨q.1, q.2.1, va_K.moved (u := U) (U := U.calling g mk a) (Vm.Alike.refl U.vm) q.2.2.1, q.2.2.2⟩, fun U hU hW => ⟨rfl, by rw [hU], va_K.moved hW.alike hK, by rw [hU]; exact hPm⟩⟩
  have hap : ∀ i, i < 8 → ¬ (ad i = ad1 8 ∨ H1.size ≤ ad i) := fun i hi h => by
    rcases h with h | h
    · rw [← hag i hi] at h
      have := hD1.1 i 8 (by omega) (by omega) h
      omega
    · have := zP_lt hPd hi; omega
  refine va_callv (va_runI (index := 12) (n := 0) (As := []) (rest := [.ref (ad1 8)]) ⟨hx, hb, hml, hown, hts⟩ (k_initM l D ca (ad1 8) H1.size) ⟨zz_cb hts mk_L_12 mi_M mc_M_init (by decide +kernel) ⟨rfl, rfl⟩ ⟨Nat.le_of_ble_eq_true rfl, Nat.le_of_ble_eq_true rfl⟩, rfl, hts _ mo_M_init⟩ hp rfl rfl hl.1 rfl (lv_room (Nat.le_of_ble_eq_true rfl)) d_law_12 ⟨by decide, by decide⟩) hS1 (fun q _ h => hAA q h) hAA (fun am t H2 locs2 ht hvm hpost hB _ hq hS2 => ?_)
  obtain ⟨h0, hz⟩ := hpost
  have hPm2 : va_P D zC (zl 28 am (mct ca am (fun _ _ => 0))) H2 := by rw [← ht]; exact hB.2
  refine lv_astore_n (lv' := [(2, .ref (ad1 8)), (1, .ref (ad 0)), (0, .ref b)]) hx hb d_law_15 rfl hl (by decide) rfl (fun ls hl => ?_)
  rw [← h0] at hl
  refine lv_iconst (v := nI 0) hx hb d_law_16 rfl ?_
  refine lv_istore_n (lv' := [(3, .int (nI 0)), (2, .ref (am 0)), (1, .ref (ad 0)), (0, .ref b)]) hx hb d_law_17 rfl hl (by decide) rfl (fun ls hl => ?_)
  refine kk am H2 locs2 ls ⟨zP_apart hPd hq (fun j hj h => hap j hj h), hPm2, hD, ⟨hz.1, fun j hj => hAA _ (hz.2 j hj)⟩, fun i j hi hj e => ?_, hS2⟩ hl
  have := hz.2 j hj
  rw [← e] at this
  exact hap i hi this
/-- the law's body, from its first instruction to its end -/
theorem l_law (X : lX p s m c b L xs D ca) (hoS : va_AO R_S s) (hoF : va_AO R_F s) (hl : lv_has ls 4 [(0, .ref b)]) (hexit : ∀ (H : Heap) (locs : List Loc) (cells slots : Nat) (ls : Array Slot), va_S (lA s) s.heap H locs → cells ≤ room_1.cells → slots ≤ room_1.slots → W p l e room_1 s m #[Value.ref b] below meth c H locs cells slots Q (F0 m 630 ls [])) : W p l e room_1 s m #[Value.ref b] below meth c s.heap [] 0 0 Q (F0 m 0 ls []) :=
  l_startD X hoS hoF hl (fun ad ct H locs ls hP hD hS hC hl => l_startM X hP hD hS hl (fun am H locs ls hJ hl => l_loop X hexit am (ad 0) L 0 8 ad ct (fun _ _ => 0) H locs 36 859 ls (by omega) (Nat.zero_le _) hJ hC rfl (by omega) (by omega) hl))
end LS
