/-! numberLeaves over the tree -/
abbrev rwC (ca : Nat → ClassId) (rw : Nat → Option Nat) : va_E := .inl (ca 3, 8, .inr (.inr (.inr (.inr rw))))
def fr3 (tt : Nat → Nat → Nat) (jr N : Nat) (ct ct1 : Nat → va_E) : Prop := ∀ q, q ≠ jr → (∀ i, i < N → q ≠ tt 3 i) → ct1 q = ct q
theorem fr3_tr {tt : Nat → Nat → Nat} {jr N : Nat} {a b c : Nat → va_E} (h1 : fr3 tt jr N a b) (h2 : fr3 tt jr N b c) : fr3 tt jr N a c := fun q x y => (h2 q x y).trans (h1 q x y)
def nlR (lo : Nat → Nat) (tt : Nat → Nat → Nat) (ad : Nat → Nat) (k : Nat) (dd d1 : Nat → Nat → Nat) (rw rw1 : Nat → Option Nat) : Prop := (∀ j i, j ≠ 0 ∨ i < lo k ∨ k < i ∨ tt 0 i ≠ 0 → d1 j i = dd j i) ∧ (∀ i, lo k ≤ i → i ≤ k → tt 0 i = 0 → d1 0 i = cl (tt 0) i ∧ rw1 (cl (tt 0) i) = some (ad (tt 3 i))) ∧ ∀ q, q < cl (tt 0) (lo k) ∨ cl (tt 0) (k + 1) ≤ q → rw1 q = rw q
theorem tW_jr {ca : Nat → ClassId} {ad : Nat → Nat} {ct : Nat → va_E} {tt bb ee dd : Nat → Nat → Nat} {jt kt jd N jr : Nat} {rw rw1 : Nat → Option Nat} (h : tW ca ad tt bb ee jt kt jd N dd ct) (hr : ct jr = rwC ca rw) : tW ca ad tt bb ee jt kt jd N dd (va_up ct jr (rwC ca rw1)) := by
  obtain ⟨h1, h2, h3, h4⟩ := h
  have key : ∀ q e, ct q = e → (∀ x, e ≠ .inl (ca 3, 8, .inr x)) → va_up ct jr (rwC ca rw1) q = e := by
    intro q e hq he
    rw [va_up_ne _ _ (fun z => by rw [z, hr] at hq; exact he _ hq.symm)]
    exact hq
  refine ⟨key _ _ h1 (fun x q => by cases q), key _ _ h2 (fun x q => by simp at q), key _ _ h3 (fun x q => by cases q), fun k hk => ⟨key _ _ (h4 k hk).1 (fun x q => ?_), fun h0 => ⟨key _ _ ((h4 k hk).2 h0).1 (fun x q => by simp at q), key _ _ ((h4 k hk).2 h0).2 (fun x q => by simp at q)⟩⟩⟩
  obtain ⟨o, e⟩ := ndC_obj ad tt dd k
  rw [e] at q
  cases q
theorem jr_nd {ca : Nat → ClassId} {ad : Nat → Nat} {ct : Nat → va_E} {tt bb ee dd : Nat → Nat → Nat} {jt kt jd N jr : Nat} {rw : Nat → Option Nat} (h : tW ca ad tt bb ee jt kt jd N dd ct) (hr : ct jr = rwC ca rw) {k : Nat} (hk : k < N) : jr ≠ tt 3 k := by
  intro q
  obtain ⟨o, e⟩ := ndC_obj ad tt dd k
  have := (h.2.2.2 k hk).1
  rw [← q, hr, e] at this
  cases this

def C_number (l : Launch) (D : va_G) (ca : Nat → ClassId) (n : Nat) (ad : Nat → Nat) (tt bb ee : Nat → Nat → Nat) (jt kt jd N : Nat) (lo : Nat → Nat) (jr : Nat) (ct : Nat → va_E) (dd : Nat → Nat → Nat) (rw : Nat → Option Nat) (k : Nat) : Prop := (tt 0 k = 0 → Met l y_F_numberLeaves (Cond.code y_F_numberLeaves c_F_numberLeaves 3 (some .int) :: zT) ({ frames := 1, cells := 0, slots := 0, locals := 40 }) (va_Pc [.ref (ad (tt 3 k)), .ref (ad jr), .int (nI (cl (tt 0) (lo k)))] (dw D ca n ad ct)) (va_Qi (fun r ct1 => r = nI (cl (tt 0) (k + 1)) ∧ ∃ (d1 : Nat → Nat → Nat) (rw1 : Nat → Option Nat), tW ca ad tt bb ee jt kt jd N d1 ct1 ∧ ct1 jr = rwC ca rw1 ∧ nlR lo tt ad k dd d1 rw rw1 ∧ fr3 tt jr N ct ct1) (dw D ca n ad) (dA n ad)) 0 0 (dA n ad)) ∧ (tt 0 k = 1 → Met l y_J_numberLeaves (Cond.code y_J_numberLeaves c_J_numberLeaves 3 (some .int) :: zT) (rmk k) (va_Pc [.ref (ad (tt 3 k)), .ref (ad jr), .int (nI (cl (tt 0) (lo k)))] (dw D ca n ad ct)) (va_Qi (fun r ct1 => r = nI (cl (tt 0) (k + 1)) ∧ ∃ (d1 : Nat → Nat → Nat) (rw1 : Nat → Option Nat), tW ca ad tt bb ee jt kt jd N d1 ct1 ∧ ct1 jr = rwC ca rw1 ∧ nlR lo tt ad k dd d1 rw rw1 ∧ fr3 tt jr N ct ct1) (dw D ca n ad) (dA n ad)) 0 0 (dA n ad)) ∧ (tt 0 k = 2 → Met l y_J_numberLeaves (Cond.code y_J_numberLeaves c_J_numberLeaves 3 (some .int) :: zT) (rmk k) (va_Pc [.ref (ad (tt 3 k)), .ref (ad jr), .int (nI (cl (tt 0) (lo k)))] (dw D ca n ad ct)) (va_Qi (fun r ct1 => r = nI (cl (tt 0) (k + 1)) ∧ ∃ (d1 : Nat → Nat → Nat) (rw1 : Nat → Option Nat), tW ca ad tt bb ee jt kt jd N d1 ct1 ∧ ct1 jr = rwC ca rw1 ∧ nlR lo tt ad k dd d1 rw rw1 ∧ fr3 tt jr N ct ct1) (dw D ca n ad) (dA n ad)) 0 0 (dA n ad))
section DS_numberLeaves
variable {p : Program} {l : Launch} {e : Env} {R : Room} {s : State} {m : MethodId} {args : Array Value} {below : List Frame} {meth : Method} {c : Code} {H H0 : Heap} {locs : List Loc} {cells slots pc nL : Nat} {ls : Array Slot} {rest : List Value} {cc : ByteArray} {Q : State → Prop} {A : Nat → Prop} {own : String} {D : va_G} {ca : Nat → ClassId} {n : Nat} {ad : Nat → Nat} {ct : Nat → va_E} {tt bb ee dd : Nat → Nat → Nat} {jt kt jd N : Nat}
set_option maxHeartbeats 4000000 in
set_option maxRecDepth 100000 in
theorem dsp_numberLeaves {k index : Nat} {lo : Nat → Nat} {jr : Nat} {rw : Nat → Option Nat} (S : CallFix p m c cc nL s args zT own) (hN : zN s) (hK : va_K D zC (zty ca) s) (hP : va_P D zC (zl n ad ct) H) (hS : va_S A H0 H locs) (hA : ∀ q, dA n ad q → A q) (hTS : tS n tt bb ee jt kt jd N) (hTW : tW ca ad tt bb ee jt kt jd N dd ct) (hk : k < N) (hC : C_number l D ca n ad tt bb ee jt kt jd N lo jr ct dd rw k) (w1 : Cond.methodLink own index y_S_numberLeaves ∈ zT) (hRf : 4 + k ≤ R.frames) (hRl : 40 * (4 + k) ≤ R.locals) (hsize : ls.size = nL) (hWc : (rest.map fun v => v.category).sum ≤ 8) (hdg : decode cc pc = .ok (.invokevirtual index, 3)) (hf : cells ≤ R.cells ∧ slots ≤ R.slots)
    (kk : ∀ (r : Int32) (ct1 : Nat → va_E) (H1 : Heap) (locs1 : List Loc), (fun r ct1 => r = nI (cl (tt 0) (k + 1)) ∧ ∃ (d1 : Nat → Nat → Nat) (rw1 : Nat → Option Nat), tW ca ad tt bb ee jt kt jd N d1 ct1 ∧ ct1 jr = rwC ca rw1 ∧ nlR lo tt ad k dd d1 rw rw1 ∧ fr3 tt jr N ct ct1) r ct1 → va_P D zC (zl n ad ct1) H1 → va_S A H0 H1 locs1 → W p l e R s m args below meth c H1 locs1 cells slots Q (F0 m (pc + 3) ls (.int r :: rest))) : W p l e R s m args below meth c H locs cells slots Q (F0 m pc ls (.int (nI (cl (tt 0) (lo k))) :: .ref (ad jr) :: .ref (ad (tt 3 k)) :: rest)) := by
  obtain ⟨t1, t2, t3, t4⟩ := hTS.2.2.2.2 k hk
  obtain ⟨hct, -⟩ := hTW.2.2.2 k hk
  rcases (show tt 0 k = 0 ∨ tt 0 k = 1 ∨ tt 0 k = 2 by omega) with h0 | h0 | h0
  · exact dd_cUi (As := [.ref (ad jr), .int (nI (cl (tt 0) (lo k)))]) (k := 2) (C := R_F) (owner := R_S) (x := y_S_numberLeaves) S (hC.1 h0) hN w1 mm_S_S_numberLeaves me_F_S_numberLeaves_F mo_F_numberLeaves mi_F md_S_numberLeaves mc_F_numberLeaves (by decide +kernel) ⟨rfl, rfl⟩ ⟨(show 1 + 1 ≤ R.frames by omega), (show 8 + (3 + 11) + 40 ≤ R.locals by omega)⟩ (dd_pre hN hK hP t1 (hct.trans (ndC_0 h0)) (r := (R_F, T_F, 7)) rfl) hS hA rfl hsize rfl hWc hdg hf kk
  · exact dd_cUi (As := [.ref (ad jr), .int (nI (cl (tt 0) (lo k)))]) (k := 2) (C := R_A) (owner := R_S) (x := y_S_numberLeaves) S (hC.2.1 h0) hN w1 mm_S_S_numberLeaves me_A_S_numberLeaves_J mo_J_numberLeaves mi_J md_S_numberLeaves mc_J_numberLeaves (by decide +kernel) ⟨rfl, rfl⟩ ⟨(show 3 + k + 1 ≤ R.frames by omega), (show 8 + (3 + 11) + 40 * (3 + k) ≤ R.locals by omega)⟩ (dd_pre hN hK hP t1 (hct.trans (ndC_1 h0)) (r := (R_A, T_A, 3)) rfl) hS hA rfl hsize rfl hWc hdg hf kk
  · exact dd_cUi (As := [.ref (ad jr), .int (nI (cl (tt 0) (lo k)))]) (k := 2) (C := R_O) (owner := R_S) (x := y_S_numberLeaves) S (hC.2.2 h0) hN w1 mm_S_S_numberLeaves me_O_S_numberLeaves_J mo_J_numberLeaves mi_J md_S_numberLeaves mc_J_numberLeaves (by decide +kernel) ⟨rfl, rfl⟩ ⟨(show 3 + k + 1 ≤ R.frames by omega), (show 8 + (3 + 11) + 40 * (3 + k) ≤ R.locals by omega)⟩ (dd_pre hN hK hP t1 (hct.trans (ndC_2 h0)) (r := (R_O, T_O, 5)) rfl) hS hA rfl hsize rfl hWc hdg hf kk
end DS_numberLeaves

theorem nlR_j {lo : Nat → Nat} {tt : Nat → Nat → Nat} {ad : Nat → Nat} {k : Nat} {dd d1 d2 : Nat → Nat → Nat} {rw rw1 rw2 : Nat → Option Nat} (h1 : nlR lo tt ad (tt 1 k) dd d1 rw rw1) (h2 : nlR lo tt ad (tt 2 k) d1 d2 rw1 rw2) (l1 : lo k = lo (tt 1 k)) (l2 : lo (tt 2 k) = tt 1 k + 1) (hlk : tt 1 k < k) (hrk : tt 2 k < k) (hl9 : lo (tt 1 k) ≤ tt 1 k) (hl8 : lo (tt 2 k) ≤ tt 2 k) (hkn : tt 0 k ≠ 0) (hro : tt 2 k + 1 = k) : nlR lo tt ad k dd d2 rw rw2 := by
  obtain ⟨a1, a2, a3⟩ := h1
  obtain ⟨b1, b2, b3⟩ := h2
  have m1 := cl_mono (kd := tt 0) (show lo (tt 1 k) ≤ tt 1 k + 1 by omega)
  have m2 := cl_mono (kd := tt 0) (show tt 1 k + 1 ≤ tt 2 k + 1 by omega)
  have m3 : cl (tt 0) (k + 1) = cl (tt 0) (tt 2 k + 1) := by rw [cl_join hkn, hro]
  refine ⟨fun j i hq => ?_, fun i i1 i2 i0 => ?_, fun q hq => ?_⟩
  · have h0 : j ≠ 0 ∨ i < lo (tt 1 k) ∨ k < i ∨ tt 0 i ≠ 0 := by rw [← l1]; exact hq
    rw [b1 j i (by omega), a1 j i (by omega)]
  · by_cases e : i = k
    · subst e; exact absurd i0 hkn
    · by_cases hi : i ≤ tt 1 k
      · obtain ⟨x, y⟩ := a2 i (by omega) hi i0
        have := cl_lt (kd := tt 0) (show i < tt 1 k + 1 by omega) i0
        refine ⟨?_, ?_⟩
        · rw [b1 0 i (by omega)]; exact x
        · rw [b3 _ (by rw [l2]; omega)]; exact y
      · exact b2 i (by omega) (by omega) i0
  · rw [b3 q (by rw [l2]; rw [m3, l1] at hq; omega), a3 q (by rw [m3, l1] at hq; omega)]

set_option maxHeartbeats 4000000 in
set_option maxRecDepth 100000 in
theorem number_all (l : Launch) {D : va_G} {ca : Nat → ClassId} {n : Nat} {ad : Nat → Nat} {tt bb ee : Nat → Nat → Nat} {jt kt jd N : Nat} (lo : Nat → Nat) (jr : Nat) (hI : dI n ad) (hTS : tS n tt bb ee jt kt jd N) (hjr : jr < n) (hO : tOK (tt 0) lo N) (hch : ∀ k, k < N → tt 0 k ≠ 0 → tt 1 k = lo (k - 1) - 1 ∧ tt 2 k = k - 1) (hcl : cl (tt 0) N ≤ 8) : ∀ k, k < N → ∀ (ct : Nat → va_E) (dd : Nat → Nat → Nat) (rw : Nat → Option Nat), tW ca ad tt bb ee jt kt jd N dd ct → ct jr = rwC ca rw → C_number l D ca n ad tt bb ee jt kt jd N lo jr ct dd rw k := by
  intro k
  induction k using Nat.strongRecOn with
  | ind k ih =>
    intro hk ct dd rw hTW hrw
    obtain ⟨t1, t2, t3, t4⟩ := hTS.2.2.2.2 k hk
    obtain ⟨hct, hlf⟩ := hTW.2.2.2 k hk
    have hj3 := jr_nd hTW hrw hk
    refine ⟨fun h0 => ?_, fun h0 => ?_, fun h0 => ?_⟩
    · have hlo : lo k = k := by
        rcases hO k hk with q | q
        · exact q.2
        · omega
      have hc8 := cl_lt (kd := tt 0) (show k < N from hk) h0
      rw [← hlo] at hc8
      have c0 := hct.trans (ndC_0 h0)
      have c9 := hrw
      refine Met.ofW (cc := c_F_numberLeaves) (maxL := 3) (ret := (some .int)) (by decide) rfl ?_
      intro p e s m args below meth c s₁ B hml hv
      obtain ⟨rfl, hN, hK, hP⟩ := hv
      have hx := B.exec
      have hb := B.bytes
      have hr := B.returns
      have hts0 := atoms_spec (ws := Cond.code y_F_numberLeaves c_F_numberLeaves 3 (some .int) :: zT) B.pre
      have hts := fun w h => hts0 w (List.mem_cons_of_mem _ h)
      have hown : s.vm.findClass R_F = some m.cls := findClass_of_methodNamed B.named
      have hlocks := B.notSynchronized
      have hD := dI_D hI
      have hS : va_S (dA n ad) s.heap s.heap [] := va_S.rf
      have hAA : ∀ q, dA n ad q → dA n ad q := fun _ h => h
      have hl := lv_entry ([.ref (ad (tt 3 k)), .ref (ad jr), .int (nI (cl (tt 0) (lo k)))]) (n := 3) (Nat.le_of_ble_eq_true rfl)
      rw [lg_entry_eq]
      generalize (lg_sl ([.ref (ad (tt 3 k)), .ref (ad jr), .int (nI (cl (tt 0) (lo k)))]) ++ List.replicate (3 - (lg_sl ([.ref (ad (tt 3 k)), .ref (ad jr), .int (nI (cl (tt 0) (lo k)))])).length) Slot.unset).toArray = ls at hl ⊢
      have hl : lv_has ls 3 [(0, .ref (ad (tt 3 k))), (1, .ref (ad jr)), (2, .int (nI (cl (tt 0) (lo k))))] := hl
      refine lv_aload_n hx hb d_F_numberLeaves_0 rfl (lv_at hl 0 rfl) ?_
      refine lv_iload_n hx hb d_F_numberLeaves_1 rfl (lv_at hl 2 rfl) ?_
      refine zz_put (j := tt 3 k) (ci := 4) (C := R_F) (T := T_F) (N := 7) (v := .int (nI (cl (tt 0) (lo k)))) (ty := ft_F 3) hx hb hts in_F ft_F ft_F_ok fn_F hown hK hP hD hS t1 c0 rfl 3 (by decide) (hts _ mf_F_30) (fun _ h => h) rfl (ft_F_ok 3 (by decide)) rfl rfl (Nat.le_of_ble_eq_true rfl) d_F_numberLeaves_2 (fun H locs hP hS => ?_)
      have hP : va_P D zC (zl n ad (va_up ct (tt 3 k) (.inr (4, [.int 1, .ref (ad (tt 4 k)), .ref (ad (tt 5 k)), .int (nI (cl (tt 0) (lo k))), .int (nI (dd 1 k)), .int (nI (dd 2 k)), .int (nI (dd 3 k))])))) H := hP
      obtain ⟨ct1, hct1⟩ : ∃ c, c = va_up ct (tt 3 k) (.inr (4, [.int 1, .ref (ad (tt 4 k)), .ref (ad (tt 5 k)), .int (nI (cl (tt 0) (lo k))), .int (nI (dd 1 k)), .int (nI (dd 2 k)), .int (nI (dd 3 k))])) := ⟨_, rfl⟩
      rw [← hct1] at hP
      have c9 : ct1 jr = .inl (ca 3, 8, .inr (.inr (.inr (.inr rw)))) := by rw [hct1]; exact (va_up_ne _ _ hj3).trans c9
      have c0 : ct1 (tt 3 k) = .inr (4, [.int 1, .ref (ad (tt 4 k)), .ref (ad (tt 5 k)), .int (nI (cl (tt 0) (lo k))), .int (nI (dd 1 k)), .int (nI (dd 2 k)), .int (nI (dd 3 k))]) := by rw [hct1]; exact va_up_self _ _ _
      refine lv_aload_n hx hb d_F_numberLeaves_5 rfl (lv_at hl 1 rfl) ?_
      refine lv_iload_n hx hb d_F_numberLeaves_6 rfl (lv_at hl 2 rfl) ?_
      refine lv_aload_n hx hb d_F_numberLeaves_7 rfl (lv_at hl 0 rfl) ?_
      refine dd_aastF hx hb hK hP hD hS (j := jr) (q := tt 3 k) hjr t1 c9 c0 (cl (tt 0) (lo k)) rfl (by omega) (by decide) d_F_numberLeaves_8 (fun H locs hP hS => ?_)
      obtain ⟨ct2, hct2⟩ : ∃ c, c = va_up ct1 jr (rwC ca (va_up rw (cl (tt 0) (lo k)) (some (ad (tt 3 k))))) := ⟨_, rfl⟩
      rw [← hct2] at hP
      refine lv_iload_n hx hb d_F_numberLeaves_9 rfl (lv_at hl 2 rfl) ?_
      refine lv_iconst (v := 1) hx hb d_F_numberLeaves_10 rfl ?_
      refine lv_iadd hx hb d_F_numberLeaves_11 ?_
      refine zz_as (y := nI ((cl (tt 0) (lo k)) + 1)) (nI_add (cl (tt 0) (lo k)) 1) ?_
      have hTF := tW_nd hTS hTW hk (d1 := zs dd 0 k (cl (tt 0) (lo k))) (fun j q hq => by rw [zs_at, if_neg (by omega)]) (e := .inr (4, [.int 1, .ref (ad (tt 4 k)), .ref (ad (tt 5 k)), .int (nI (cl (tt 0) (lo k))), .int (nI (dd 1 k)), .int (nI (dd 2 k)), .int (nI (dd 3 k))])) (by rw [ndC_0 h0]; simp [zs_at])
      rw [← hct1] at hTF
      have hTW2 := tW_jr (rw1 := va_up rw (cl (tt 0) (lo k)) (some (ad (tt 3 k)))) hTF.1 c9
      rw [← hct2] at hTW2
      have hR : nlR lo tt ad k dd (zs dd 0 k (cl (tt 0) (lo k))) rw (va_up rw (cl (tt 0) (lo k)) (some (ad (tt 3 k)))) := by
        refine ⟨fun j i hq => by rw [zs_at, if_neg (by rintro ⟨rfl, rfl⟩; omega)], fun i i1 i2 _ => ?_, fun q hq => va_up_ne _ _ (by rw [cl_leaf h0] at hq; rw [hlo] at hq ⊢; omega)⟩
        obtain rfl : i = k := by omega
        rw [hlo]
        exact ⟨zs_eq _ _ _ _, va_up_self _ _ _⟩
      have hF : fr3 tt jr N ct ct2 := fun q x y => by rw [hct2, hct1, va_up_ne _ _ x, va_up_ne _ _ (y k hk)]
      exact W.iret hx hb hr (fun t ht hW => ⟨⟨_, ct2, rfl, ⟨by rw [hlo, cl_leaf h0], zs dd 0 k (cl (tt 0) (lo k)), va_up rw (cl (tt 0) (lo k)) (some (ad (tt 3 k))), hTW2, by rw [hct2]; exact va_up_self _ _ _, hR, hF⟩, zN_warm hW hN, va_K.moved hW.alike hK, by rw [ht]; exact hP⟩, hS.F ht⟩) hS.2.2 d_F_numberLeaves_12
    · obtain ⟨hlk, hrk⟩ := t3 (by rw [h0]; decide)
      have hkn : tt 0 k ≠ 0 := by rw [h0]; decide
      obtain ⟨e1, e2⟩ := hch k hk hkn
      rcases hO k hk with ⟨q, -⟩ | ⟨-, o1, o2, o3⟩
      · exact absurd q hkn
      have hl9 := tOK_le hO (tt 1 k) (by omega)
      have hl8 := tOK_le hO (tt 2 k) (by omega)
      have l1 : lo k = lo (tt 1 k) := by rw [e1]; exact o3
      have l2 : lo (tt 2 k) = tt 1 k + 1 := by rw [e1, e2]; omega
      have hro : tt 2 k + 1 = k := by omega
      have l3 : cl (tt 0) (k + 1) = cl (tt 0) (tt 2 k + 1) := by rw [cl_join hkn, hro]
      have c0 := hct.trans (ndC_1 h0)
      refine Met.ofW (cc := c_J_numberLeaves) (maxL := 3) (ret := (some .int)) (by decide) rfl ?_
      intro p e s m args below meth c s₁ B hml hv
      obtain ⟨rfl, hN, hK, hP⟩ := hv
      have hx := B.exec
      have hb := B.bytes
      have hr := B.returns
      have hts0 := atoms_spec (ws := Cond.code y_J_numberLeaves c_J_numberLeaves 3 (some .int) :: zT) B.pre
      have hts := fun w h => hts0 w (List.mem_cons_of_mem _ h)
      have hown : s.vm.findClass R_J = some m.cls := findClass_of_methodNamed B.named
      have hlocks := B.notSynchronized
      have hD := dI_D hI
      have hS : va_S (dA n ad) s.heap s.heap [] := va_S.rf
      have hAA : ∀ q, dA n ad q → dA n ad q := fun _ h => h
      have hl := lv_entry ([.ref (ad (tt 3 k)), .ref (ad jr), .int (nI (cl (tt 0) (lo k)))]) (n := 3) (Nat.le_of_ble_eq_true rfl)
      rw [lg_entry_eq]
      generalize (lg_sl ([.ref (ad (tt 3 k)), .ref (ad jr), .int (nI (cl (tt 0) (lo k)))]) ++ List.replicate (3 - (lg_sl ([.ref (ad (tt 3 k)), .ref (ad jr), .int (nI (cl (tt 0) (lo k)))])).length) Slot.unset).toArray = ls at hl ⊢
      have hl : lv_has ls 3 [(0, .ref (ad (tt 3 k))), (1, .ref (ad jr)), (2, .int (nI (cl (tt 0) (lo k))))] := hl
      refine lv_aload_n hx hb d_J_numberLeaves_0 rfl (lv_at hl 0 rfl) ?_
      refine zz_get (j := tt 3 k) (ci := 2) (C := R_A) (T := T_A) (N := 3) hx hb hts in_A hown hK hP t1 c0 rfl 1 (by decide) (hts _ mf_J_17) (fun _ h => h) (v := .ref (ad (tt 3 (tt 2 k)))) rfl d_J_numberLeaves_1 ?_
      refine lv_aload_n hx hb d_J_numberLeaves_4 rfl (lv_at hl 1 rfl) ?_
      refine lv_aload_n hx hb d_J_numberLeaves_5 rfl (lv_at hl 0 rfl) ?_
      refine zz_get (j := tt 3 k) (ci := 2) (C := R_A) (T := T_A) (N := 3) hx hb hts in_A hown hK hP t1 c0 rfl 0 (by decide) (hts _ mf_J_11) (fun _ h => h) (v := .ref (ad (tt 3 (tt 1 k)))) rfl d_J_numberLeaves_6 ?_
      refine lv_aload_n hx hb d_J_numberLeaves_9 rfl (lv_at hl 1 rfl) ?_
      refine lv_iload_n hx hb d_J_numberLeaves_10 rfl (lv_at hl 2 rfl) ?_
      refine zz_as (y := nI (cl (tt 0) (lo (tt 1 k)))) (by rw [l1]) ?_
      refine dsp_numberLeaves (k := tt 1 k) (index := 20) (rest := [.ref (ad jr), .ref (ad (tt 3 (tt 2 k)))]) ⟨hx, hb, hml, hown, hts⟩ hN hK hP hS hAA hTS hTW (by omega) (ih (tt 1 k) hlk (by omega) ct dd rw hTW hrw) mk_J_20 (show 4 + tt 1 k ≤ 3 + k by omega) (show 40 * (4 + tt 1 k) ≤ 40 * (3 + k) by omega) hl.1 (Nat.le_of_ble_eq_true rfl) d_J_numberLeaves_11 ⟨Nat.zero_le _, Nat.zero_le _⟩ (fun r ct1 H locs hct1 hP hS => ?_)
      obtain ⟨hr1, d1, rw1, hTW1, hrw1, hR1, hF1⟩ := hct1
      subst hr1
      refine zz_as (y := nI (cl (tt 0) (lo (tt 2 k)))) (by rw [l2]) ?_
      refine dsp_numberLeaves (k := tt 2 k) (index := 20) (rest := []) ⟨hx, hb, hml, hown, hts⟩ hN hK hP hS hAA hTS hTW1 (by omega) (ih (tt 2 k) hrk (by omega) ct1 d1 rw1 hTW1 hrw1) mk_J_20 (show 4 + tt 2 k ≤ 3 + k by omega) (show 40 * (4 + tt 2 k) ≤ 40 * (3 + k) by omega) hl.1 (Nat.le_of_ble_eq_true rfl) d_J_numberLeaves_14 ⟨Nat.zero_le _, Nat.zero_le _⟩ (fun r ct2 H locs hct2 hP hS => ?_)
      obtain ⟨hr2, d2, rw2, hTW2, hrw2, hR2, hF2⟩ := hct2
      subst hr2
      refine zz_as (y := nI (cl (tt 0) (k + 1))) (by rw [l3]) ?_
      have hR : nlR lo tt ad k dd d2 rw rw2 := nlR_j hR1 hR2 l1 l2 hlk hrk hl9 hl8 hkn hro
      exact W.iret hx hb hr (fun t ht hW => ⟨⟨_, ct2, rfl, ⟨rfl, d2, rw2, hTW2, hrw2, hR, fr3_tr hF1 hF2⟩, zN_warm hW hN, va_K.moved hW.alike hK, by rw [ht]; exact hP⟩, hS.F ht⟩) hS.2.2 d_J_numberLeaves_17
    · obtain ⟨hlk, hrk⟩ := t3 (by rw [h0]; decide)
      have hkn : tt 0 k ≠ 0 := by rw [h0]; decide
      obtain ⟨e1, e2⟩ := hch k hk hkn
      rcases hO k hk with ⟨q, -⟩ | ⟨-, o1, o2, o3⟩
      · exact absurd q hkn
      have hl9 := tOK_le hO (tt 1 k) (by omega)
      have hl8 := tOK_le hO (tt 2 k) (by omega)
      have l1 : lo k = lo (tt 1 k) := by rw [e1]; exact o3
      have l2 : lo (tt 2 k) = tt 1 k + 1 := by rw [e1, e2]; omega
      have hro : tt 2 k + 1 = k := by omega
      have l3 : cl (tt 0) (k + 1) = cl (tt 0) (tt 2 k + 1) := by rw [cl_join hkn, hro]
      have c0 := hct.trans (ndC_2 h0)
      refine Met.ofW (cc := c_J_numberLeaves) (maxL := 3) (ret := (some .int)) (by decide) rfl ?_
      intro p e s m args below meth c s₁ B hml hv
      obtain ⟨rfl, hN, hK, hP⟩ := hv
      have hx := B.exec
      have hb := B.bytes
      have hr := B.returns
      have hts0 := atoms_spec (ws := Cond.code y_J_numberLeaves c_J_numberLeaves 3 (some .int) :: zT) B.pre
      have hts := fun w h => hts0 w (List.mem_cons_of_mem _ h)
      have hown : s.vm.findClass R_J = some m.cls := findClass_of_methodNamed B.named
      have hlocks := B.notSynchronized
      have hD := dI_D hI
      have hS : va_S (dA n ad) s.heap s.heap [] := va_S.rf
      have hAA : ∀ q, dA n ad q → dA n ad q := fun _ h => h
      have hl := lv_entry ([.ref (ad (tt 3 k)), .ref (ad jr), .int (nI (cl (tt 0) (lo k)))]) (n := 3) (Nat.le_of_ble_eq_true rfl)
      rw [lg_entry_eq]
      generalize (lg_sl ([.ref (ad (tt 3 k)), .ref (ad jr), .int (nI (cl (tt 0) (lo k)))]) ++ List.replicate (3 - (lg_sl ([.ref (ad (tt 3 k)), .ref (ad jr), .int (nI (cl (tt 0) (lo k)))])).length) Slot.unset).toArray = ls at hl ⊢
      have hl : lv_has ls 3 [(0, .ref (ad (tt 3 k))), (1, .ref (ad jr)), (2, .int (nI (cl (tt 0) (lo k))))] := hl
      refine lv_aload_n hx hb d_J_numberLeaves_0 rfl (lv_at hl 0 rfl) ?_
      refine zz_get (j := tt 3 k) (ci := 3) (C := R_O) (T := T_O) (N := 5) hx hb hts in_O hown hK hP t1 c0 rfl 1 (by decide) (hts _ mf_J_17) (fun _ h => h) (v := .ref (ad (tt 3 (tt 2 k)))) rfl d_J_numberLeaves_1 ?_
      refine lv_aload_n hx hb d_J_numberLeaves_4 rfl (lv_at hl 1 rfl) ?_
      refine lv_aload_n hx hb d_J_numberLeaves_5 rfl (lv_at hl 0 rfl) ?_
      refine zz_get (j := tt 3 k) (ci := 3) (C := R_O) (T := T_O) (N := 5) hx hb hts in_O hown hK hP t1 c0 rfl 0 (by decide) (hts _ mf_J_11) (fun _ h => h) (v := .ref (ad (tt 3 (tt 1 k)))) rfl d_J_numberLeaves_6 ?_
      refine lv_aload_n hx hb d_J_numberLeaves_9 rfl (lv_at hl 1 rfl) ?_
      refine lv_iload_n hx hb d_J_numberLeaves_10 rfl (lv_at hl 2 rfl) ?_
      refine zz_as (y := nI (cl (tt 0) (lo (tt 1 k)))) (by rw [l1]) ?_
      refine dsp_numberLeaves (k := tt 1 k) (index := 20) (rest := [.ref (ad jr), .ref (ad (tt 3 (tt 2 k)))]) ⟨hx, hb, hml, hown, hts⟩ hN hK hP hS hAA hTS hTW (by omega) (ih (tt 1 k) hlk (by omega) ct dd rw hTW hrw) mk_J_20 (show 4 + tt 1 k ≤ 3 + k by omega) (show 40 * (4 + tt 1 k) ≤ 40 * (3 + k) by omega) hl.1 (Nat.le_of_ble_eq_true rfl) d_J_numberLeaves_11 ⟨Nat.zero_le _, Nat.zero_le _⟩ (fun r ct1 H locs hct1 hP hS => ?_)
      obtain ⟨hr1, d1, rw1, hTW1, hrw1, hR1, hF1⟩ := hct1
      subst hr1
      refine zz_as (y := nI (cl (tt 0) (lo (tt 2 k)))) (by rw [l2]) ?_
      refine dsp_numberLeaves (k := tt 2 k) (index := 20) (rest := []) ⟨hx, hb, hml, hown, hts⟩ hN hK hP hS hAA hTS hTW1 (by omega) (ih (tt 2 k) hrk (by omega) ct1 d1 rw1 hTW1 hrw1) mk_J_20 (show 4 + tt 2 k ≤ 3 + k by omega) (show 40 * (4 + tt 2 k) ≤ 40 * (3 + k) by omega) hl.1 (Nat.le_of_ble_eq_true rfl) d_J_numberLeaves_14 ⟨Nat.zero_le _, Nat.zero_le _⟩ (fun r ct2 H locs hct2 hP hS => ?_)
      obtain ⟨hr2, d2, rw2, hTW2, hrw2, hR2, hF2⟩ := hct2
      subst hr2
      refine zz_as (y := nI (cl (tt 0) (k + 1))) (by rw [l3]) ?_
      have hR : nlR lo tt ad k dd d2 rw rw2 := nlR_j hR1 hR2 l1 l2 hlk hrk hl9 hl8 hkn hro
      exact W.iret hx hb hr (fun t ht hW => ⟨⟨_, ct2, rfl, ⟨rfl, d2, rw2, hTW2, hrw2, hR, fr3_tr hF1 hF2⟩, zN_warm hW hN, va_K.moved hW.alike hK, by rw [ht]; exact hP⟩, hS.F ht⟩) hS.2.2 d_J_numberLeaves_17
