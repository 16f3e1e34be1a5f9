/-! the model's isAccepted, verify, challenge, save, sameCommitments, extract -/
def accP (ar : Nat → Nat → Nat) (old b : Bool) : Prop := ∃ h : Nat → Nat, vOK ar (cR old) h (ar 0 1) ∧ vB h (ar 0 1) ∧ b = (decide (h (ar 0 1 - 1) < 2147483648) && acAll ar old (ar 0 2))
theorem acB_up (ar : Nat → Nat → Nat) (h : Nat → Nat) (old : Bool) (n : Nat) : acB (va_up ar 26 h) old n = acB ar old n := by cases old <;> rfl
theorem zs_upn (ar : Nat → Nat → Nat) {i j : Nat} (h : Nat → Nat) (k v : Nat) (hij : j ≠ i) : zs (va_up ar i h) j k v = va_up (zs ar j k v) i h := by
  funext q
  by_cases e : q = i
  · subst e; rw [va_up_self, zs_row _ _ _ (Ne.symm hij), va_up_self]
  · rw [va_up_ne _ _ e]
    unfold zs
    by_cases e2 : q = j
    · subst e2; rw [va_up_self, va_up_self, va_up_ne _ _ e]
    · rw [va_up_ne _ _ e2, va_up_ne _ _ e2, va_up_ne _ _ e]
def smB (ar : Nat → Nat → Nat) (n : Nat) : Bool := decide (ar 14 (2 * n) = ar 17 (2 * n)) && (!decide (0 < ar 11 (2 * n + 1)) || decide (ar 14 (2 * n + 1) = ar 17 (2 * n + 1)))
def smAll (ar : Nat → Nat → Nat) : Nat → Bool
  | 0 => true
  | n + 1 => smAll ar n && smB ar n
def exV (ar : Nat → Nat → Nat) (n : Nat) : Nat := ls5 (ar 16 n) (ar 19 n) * (ls5 (ar 15 n) (ar 18 n) ^ 5001 % 5003) % 5003
def exR (ar : Nat → Nat → Nat) : Nat → Nat → Nat
  | 0 => ar 13
  | n + 1 => if ls5 (ar 15 n) (ar 18 n) = 0 then exR ar n else va_up (exR ar n) n (exV ar n)
def exN (ar : Nat → Nat → Nat) : Nat → Nat
  | 0 => 0
  | n + 1 => if ls5 (ar 15 n) (ar 18 n) = 0 then exN ar n else exN ar n + 1
theorem exN_le (ar : Nat → Nat → Nat) : ∀ n, exN ar n ≤ n := by
  intro n
  induction n with
  | zero => exact Nat.le_refl _
  | succ n ih => unfold exN; split <;> omega

theorem d_M_isAccepted_0 : decode c_M_isAccepted 0 = .ok (.aload_n 0, 1) := by decide +kernel
theorem d_M_isAccepted_1 : decode c_M_isAccepted 1 = .ok (.iload_n 1, 1) := by decide +kernel
theorem d_M_isAccepted_2 : decode c_M_isAccepted 2 = .ok (.invokevirtual 189, 3) := by decide +kernel
theorem d_M_isAccepted_5 : decode c_M_isAccepted 5 = .ok (.ifCond .lt 7, 3) := by decide +kernel
theorem d_M_isAccepted_8 : decode c_M_isAccepted 8 = .ok (.iconst 1, 1) := by decide +kernel
theorem d_M_isAccepted_9 : decode c_M_isAccepted 9 = .ok (.goto 4, 3) := by decide +kernel
theorem d_M_isAccepted_12 : decode c_M_isAccepted 12 = .ok (.iconst 0, 1) := by decide +kernel
theorem d_M_isAccepted_13 : decode c_M_isAccepted 13 = .ok (.istore_n 2, 1) := by decide +kernel
theorem d_M_isAccepted_14 : decode c_M_isAccepted 14 = .ok (.iconst 0, 1) := by decide +kernel
theorem d_M_isAccepted_15 : decode c_M_isAccepted 15 = .ok (.istore_n 3, 1) := by decide +kernel
theorem d_M_isAccepted_16 : decode c_M_isAccepted 16 = .ok (.iload_n 3, 1) := by decide +kernel
theorem d_M_isAccepted_17 : decode c_M_isAccepted 17 = .ok (.aload_n 0, 1) := by decide +kernel
theorem d_M_isAccepted_18 : decode c_M_isAccepted 18 = .ok (.getfield 125, 3) := by decide +kernel
theorem d_M_isAccepted_21 : decode c_M_isAccepted 21 = .ok (.if_icmp .ge 28, 3) := by decide +kernel
theorem d_M_isAccepted_24 : decode c_M_isAccepted 24 = .ok (.iload_n 2, 1) := by decide +kernel
theorem d_M_isAccepted_25 : decode c_M_isAccepted 25 = .ok (.ifCond .eq 16, 3) := by decide +kernel
theorem d_M_isAccepted_28 : decode c_M_isAccepted 28 = .ok (.aload_n 0, 1) := by decide +kernel
theorem d_M_isAccepted_29 : decode c_M_isAccepted 29 = .ok (.iload_n 3, 1) := by decide +kernel
theorem d_M_isAccepted_30 : decode c_M_isAccepted 30 = .ok (.iload_n 1, 1) := by decide +kernel
theorem d_M_isAccepted_31 : decode c_M_isAccepted 31 = .ok (.invokevirtual 193, 3) := by decide +kernel
theorem d_M_isAccepted_34 : decode c_M_isAccepted 34 = .ok (.ifCond .eq 7, 3) := by decide +kernel
theorem d_M_isAccepted_37 : decode c_M_isAccepted 37 = .ok (.iconst 1, 1) := by decide +kernel
theorem d_M_isAccepted_38 : decode c_M_isAccepted 38 = .ok (.goto 4, 3) := by decide +kernel
theorem d_M_isAccepted_41 : decode c_M_isAccepted 41 = .ok (.iconst 0, 1) := by decide +kernel
theorem d_M_isAccepted_42 : decode c_M_isAccepted 42 = .ok (.istore_n 2, 1) := by decide +kernel
theorem d_M_isAccepted_43 : decode c_M_isAccepted 43 = .ok (.iinc 3 1, 3) := by decide +kernel
theorem d_M_isAccepted_46 : decode c_M_isAccepted 46 = .ok (.goto (-30), 3) := by decide +kernel
theorem d_M_isAccepted_49 : decode c_M_isAccepted 49 = .ok (.iload_n 2, 1) := by decide +kernel
theorem d_M_isAccepted_50 : decode c_M_isAccepted 50 = .ok (.ireturn, 1) := by decide +kernel

section MA
variable {p : Program} {l : Launch} {e : Env} {R : Room} {s : State} {m : MethodId} {args : Array Value} {below : List Frame} {meth : Method} {c : Code} {H0 : Heap} {cells slots : Nat} {Q : State → Prop} {A : Nat → Prop} {D : va_G} {ca : Nat → ClassId} {am : Nat → Nat} {ar : Nat → Nat → Nat}
set_option maxHeartbeats 4000000 in
set_option maxRecDepth 100000 in
theorem isAcc_loop (hx : p.tables.exec = Jvm.exec) (hb : c.code = c_M_isAccepted) (hml : c.maxLocals = 4) (hown : s.vm.findClass R_M = some m.cls) (hts : ∀ w ∈ zT, w.before args s = true) (hK : va_K D zC (zty ca) s) (hD : zD A 28 am) (hI : mI am) (hAA : ∀ q, mA am q → A q) (hRf : 4 ≤ R.frames) (hRl : 160 ≤ R.locals) (hc : cells ≤ R.cells) (hsl : slots ≤ R.slots) (old g0 : Bool) {h : Nat → Nat} (hl2 : ar 0 2 ≤ 8) (hN8 : tN ar) (hbs : ∀ i, i < 16 → ar 11 i < 10007) (his : ∀ i, i < 16 → ar 12 i < 10007) {H : Heap} {locs : List Loc} (hP : va_P D zC (zl 28 am (mct ca am (va_up ar 26 h))) H) (kk : ∀ (ls : Array Slot), lv_has ls 4 [(2, .int (zb (g0 && acAll ar old (ar 0 2))))] → W p l e R s m args below meth c H locs cells slots Q (F0 m 49 ls [])) : ∀ (j k : Nat), k + j = ar 0 2 → ∀ (ls : Array Slot), lv_has ls 4 [(3, .int (nI k)), (2, .int (zb (g0 && acAll ar old k))), (1, .int (zb old)), (0, .ref (am 0))] → W p l e R s m args below meth c H locs cells slots Q (F0 m 16 ls []) := by
  intro j
  induction j with
  | zero =>
    intro k hk ls hl
    obtain rfl : k = ar 0 2 := by omega
    refine lv_iload_n hx hb d_M_isAccepted_16 rfl (lv_at hl 0 rfl) ?_
    refine lv_aload_n hx hb d_M_isAccepted_17 rfl (lv_at hl 3 rfl) ?_
    refine mm_get hx hb hts hown hK hP (index := 125) 29 (by decide) mf_M_125 (v := .int (nI (ar 0 2))) rfl d_M_isAccepted_18 ?_
    refine lv_icmp_ge (tgt := 49) hx hb d_M_isAccepted_21 rfl (fun h21 => ?_) (fun h21 => absurd (Int32.le_refl _) h21)
    have hl := lv_sub (l' := [(2, .int (zb (g0 && acAll ar old (ar 0 2))))]) hl [1] rfl
    exact kk ls hl
  | succ j ih =>
    intro k hk ls hl
    have hN : k < ar 0 2 := by omega
    refine lv_iload_n hx hb d_M_isAccepted_16 rfl (lv_at hl 0 rfl) ?_
    refine lv_aload_n hx hb d_M_isAccepted_17 rfl (lv_at hl 3 rfl) ?_
    refine mm_get hx hb hts hown hK hP (index := 125) 29 (by decide) mf_M_125 (v := .int (nI (ar 0 2))) rfl d_M_isAccepted_18 ?_
    refine lv_icmp_ge (tgt := 49) hx hb d_M_isAccepted_21 rfl (fun h21 => absurd h21 (nI_ge hN (by omega))) (fun h21 => ?_)
    refine lv_iload_n hx hb d_M_isAccepted_24 rfl (lv_at hl 1 rfl) ?_
    refine lv_if_eq (tgt := 41) hx hb d_M_isAccepted_25 rfl (fun h25 => ?_) (fun h25 => ?_)
    · skip
      have hq : (g0 && acAll ar old (k + 1)) = false := by show (g0 && (acAll ar old k && acB ar old k)) = false; rw [← Bool.and_assoc, zb_eq h25, Bool.false_and]
      refine lv_iconst (v := 0) hx hb d_M_isAccepted_41 rfl ?_
      refine lv_istore_n (lv' := [(2, .int 0), (3, .int (nI k)), (1, .int (zb old)), (0, .ref (am 0))]) hx hb d_M_isAccepted_42 rfl hl (by decide) rfl (fun ls hl => ?_)
      have hl : lv_has ls 4 [(2, .int (zb (g0 && acAll ar old (k + 1)))), (3, .int (nI k)), (1, .int (zb old)), (0, .ref (am 0))] := by rw [hq]; exact hl
      refine lv_iinc (k := 1) (v := nI (k + 1)) (lv' := [(3, .int (nI (k + 1))), (2, .int (zb (g0 && acAll ar old (k + 1)))), (1, .int (zb old)), (0, .ref (am 0))]) hx hb d_M_isAccepted_43 hl rfl (nI_1 _) (by decide) rfl (fun ls hl => ?_)
      refine lv_goto (tgt := 16) hx hb d_M_isAccepted_46 rfl ?_
      have hl := lv_sub (l' := [(3, .int (nI (k + 1))), (2, .int (zb (g0 && acAll ar old (k + 1)))), (1, .int (zb old)), (0, .ref (am 0))]) hl [0, 1, 2, 3] rfl
      exact ih (k + 1) (by omega) ls hl
    · skip
      refine lv_aload_n hx hb d_M_isAccepted_28 rfl (lv_at hl 3 rfl) ?_
      refine lv_iload_n hx hb d_M_isAccepted_29 rfl (lv_at hl 0 rfl) ?_
      refine lv_iload_n hx hb d_M_isAccepted_30 rfl (lv_at hl 2 rfl) ?_
      refine zz_cV (index := 193) (n := 2) (As := [.int (nI k), .int (zb old)]) (rest := []) ⟨hx, hb, hml, hown, hts⟩ (k_acceptsM l D ca am (va_up ar 26 h) k old hN hl2 hN8 hbs his) mk_M_193 mo_M_accepts me_M_M_accepts_M mi_M mc_M_accepts (by decide +kernel) ⟨rfl, rfl⟩ ⟨Nat.le_trans (by decide) hRf, Nat.le_trans (by decide) hRl⟩ (mm_pre hK hP) rfl hl.1 rfl (Nat.le_of_ble_eq_true rfl) d_M_isAccepted_31 ⟨hc, hsl⟩ ?_
      refine zz_as (y := zb (acB ar old k)) (congrArg zb (acB_up ..)) ?_
      refine lv_if_eq (tgt := 41) hx hb d_M_isAccepted_34 rfl (fun h34 => ?_) (fun h34 => ?_)
      · skip
        have hq : (g0 && acAll ar old (k + 1)) = false := by show (g0 && (acAll ar old k && acB ar old k)) = false; rw [zb_eq h34, Bool.and_false, Bool.and_false]
        refine lv_iconst (v := 0) hx hb d_M_isAccepted_41 rfl ?_
        refine lv_istore_n (lv' := [(2, .int 0), (3, .int (nI k)), (1, .int (zb old)), (0, .ref (am 0))]) hx hb d_M_isAccepted_42 rfl hl (by decide) rfl (fun ls hl => ?_)
        have hl : lv_has ls 4 [(2, .int (zb (g0 && acAll ar old (k + 1)))), (3, .int (nI k)), (1, .int (zb old)), (0, .ref (am 0))] := by rw [hq]; exact hl
        refine lv_iinc (k := 1) (v := nI (k + 1)) (lv' := [(3, .int (nI (k + 1))), (2, .int (zb (g0 && acAll ar old (k + 1)))), (1, .int (zb old)), (0, .ref (am 0))]) hx hb d_M_isAccepted_43 hl rfl (nI_1 _) (by decide) rfl (fun ls hl => ?_)
        refine lv_goto (tgt := 16) hx hb d_M_isAccepted_46 rfl ?_
        have hl := lv_sub (l' := [(3, .int (nI (k + 1))), (2, .int (zb (g0 && acAll ar old (k + 1)))), (1, .int (zb old)), (0, .ref (am 0))]) hl [0, 1, 2, 3] rfl
        exact ih (k + 1) (by omega) ls hl
      · skip
        have hq : (g0 && acAll ar old (k + 1)) = true := by show (g0 && (acAll ar old k && acB ar old k)) = true; rw [← Bool.and_assoc, zb_ne h25, zb_ne h34]; rfl
        refine lv_iconst (v := 1) hx hb d_M_isAccepted_37 rfl ?_
        refine lv_goto (tgt := 42) hx hb d_M_isAccepted_38 rfl ?_
        refine lv_istore_n (lv' := [(2, .int 1), (3, .int (nI k)), (1, .int (zb old)), (0, .ref (am 0))]) hx hb d_M_isAccepted_42 rfl hl (by decide) rfl (fun ls hl => ?_)
        have hl : lv_has ls 4 [(2, .int (zb (g0 && acAll ar old (k + 1)))), (3, .int (nI k)), (1, .int (zb old)), (0, .ref (am 0))] := by rw [hq]; exact hl
        refine lv_iinc (k := 1) (v := nI (k + 1)) (lv' := [(3, .int (nI (k + 1))), (2, .int (zb (g0 && acAll ar old (k + 1)))), (1, .int (zb old)), (0, .ref (am 0))]) hx hb d_M_isAccepted_43 hl rfl (nI_1 _) (by decide) rfl (fun ls hl => ?_)
        refine lv_goto (tgt := 16) hx hb d_M_isAccepted_46 rfl ?_
        have hl := lv_sub (l' := [(3, .int (nI (k + 1))), (2, .int (zb (g0 && acAll ar old (k + 1)))), (1, .int (zb old)), (0, .ref (am 0))]) hl [0, 1, 2, 3] rfl
        exact ih (k + 1) (by omega) ls hl
end MA

set_option maxHeartbeats 4000000 in
set_option maxRecDepth 100000 in
/-- isAccepted(old) -/
theorem k_isAcceptedM (l : Launch) (D : va_G) (ca : Nat → ClassId) (am : Nat → Nat) (ar : Nat → Nat → Nat) (hI : mI am) (old : Bool) (hT : tT ar) (hN8 : tN ar) (hsz : 0 < ar 0 1) (hbs : ∀ i, i < 16 → ar 11 i < 10007) (his : ∀ i, i < 16 → ar 12 i < 10007) : Met l y_M_isAccepted (Cond.code y_M_isAccepted c_M_isAccepted 4 (some .boolean) :: zT) ({ frames := 4, cells := 0, slots := 0, locals := 160 }) (va_Pc [.ref (am 0), .int (zb old)] (mw D ca am ar)) (va_Qi (fun r ar1 => ∃ (h : Nat → Nat) (b : Bool), accP ar old b ∧ ar1 = va_up ar 26 h ∧ r = zb b) (mw D ca am) (mA am)) 0 0 (mA am) := by
  refine Met.ofW (cc := c_M_isAccepted) (maxL := 4) (ret := (some .boolean)) (by decide) rfl ?_
  intro p e s m args below meth c s₁ B hml hv
  obtain ⟨rfl, hK, hP⟩ := hv
  have hx := B.exec
  have hb := B.bytes
  have hr := B.returns
  have hts0 := atoms_spec (ws := Cond.code y_M_isAccepted c_M_isAccepted 4 (some .boolean) :: zT) B.pre
  have hts := fun w h => hts0 w (List.mem_cons_of_mem _ h)
  have hown : s.vm.findClass R_M = some m.cls := findClass_of_methodNamed B.named
  have hlocks := B.notSynchronized
  have hD := mI_D hI
  have hS : va_S (mA am) s.heap s.heap [] := va_S.rf
  have hAA : ∀ q, mA am q → mA am q := fun _ h => h
  have hl := lv_entry ([.ref (am 0), .int (zb old)]) (n := 4) (Nat.le_of_ble_eq_true rfl)
  rw [lg_entry_eq]
  generalize (lg_sl ([.ref (am 0), .int (zb old)]) ++ List.replicate (4 - (lg_sl ([.ref (am 0), .int (zb old)])).length) Slot.unset).toArray = ls at hl ⊢
  have hl : lv_has ls 4 [(0, .ref (am 0)), (1, .int (zb old))] := hl
  skip
  refine lv_aload_n hx hb d_M_isAccepted_0 rfl (lv_at hl 0 rfl) ?_
  refine lv_iload_n hx hb d_M_isAccepted_1 rfl (lv_at hl 1 rfl) ?_
  refine mm_ci (index := 189) (n := 1) (As := [.int (zb old)]) (rest := []) ⟨hx, hb, hml, hown, hts⟩ (k_joinedM l D ca am (ar) hI old hT hN8 hsz) mk_M_189 mo_M_joined me_M_M_joined_M mi_M mc_M_joined (by decide +kernel) ⟨rfl, rfl⟩ ⟨by decide, by decide⟩ hK hP hS hAA rfl hl.1 rfl (Nat.le_of_ble_eq_true rfl) d_M_isAccepted_2 ⟨Nat.zero_le _, Nat.zero_le _⟩ (fun r ar1 H locs hpost hP hS => ?_)
  obtain ⟨h, hk, hh, rfl, rfl⟩ := hpost
  have hs1 := hT.1
  have hb1 := hh (ar 0 1 - 1) (by omega)
  refine lv_if_lt (tgt := 12) hx hb d_M_isAccepted_5 rfl (fun h5 => ?_) (fun h5 => ?_)
  · skip
    have g0 : decide (h (ar 0 1 - 1) < 2147483648) = false := decide_eq_false (by have := (zn_lt0 (by omega)).mp h5; omega)
    refine lv_iconst (v := 0) hx hb d_M_isAccepted_12 rfl ?_
    refine lv_istore_n (lv' := [(2, .int 0), (0, .ref (am 0)), (1, .int (zb old))]) hx hb d_M_isAccepted_13 rfl hl (by decide) rfl (fun ls hl => ?_)
    refine lv_iconst (v := 0) hx hb d_M_isAccepted_14 rfl ?_
    refine lv_istore_n (lv' := [(3, .int 0), (2, .int 0), (0, .ref (am 0)), (1, .int (zb old))]) hx hb d_M_isAccepted_15 rfl hl (by decide) rfl (fun ls hl => ?_)
    have hl : lv_has ls 4 [(3, .int (nI 0)), (2, .int (zb (false && acAll ar old 0))), (1, .int (zb old)), (0, .ref (am 0))] := lv_sub hl [0, 1, 3, 2] rfl
    refine isAcc_loop hx hb hml hown hts hK hD hI hAA (by decide) (by decide) (Nat.zero_le _) (Nat.zero_le _) old false hT.2.1 hN8 hbs his hP (fun ls hl => ?_) (ar 0 2) 0 (Nat.zero_add _) ls hl
    refine lv_iload_n hx hb d_M_isAccepted_49 rfl (lv_at hl 0 rfl) ?_
    exact W.zret hx hb hr (zb_nar _) (fun t ht hW => ⟨⟨_, va_up ar 26 h, rfl, ⟨h, _, ⟨h, hk, hh, rfl⟩, rfl, by rw [g0]⟩, va_K.moved hW.alike hK, by rw [ht]; exact hP⟩, hS.F ht⟩) hS.2.2 d_M_isAccepted_50
  · skip
    have g0 : decide (h (ar 0 1 - 1) < 2147483648) = true := decide_eq_true (by have := mt (zn_lt0 (by omega)).mpr h5; omega)
    refine lv_iconst (v := 1) hx hb d_M_isAccepted_8 rfl ?_
    refine lv_goto (tgt := 13) hx hb d_M_isAccepted_9 rfl ?_
    refine lv_istore_n (lv' := [(2, .int 1), (0, .ref (am 0)), (1, .int (zb old))]) hx hb d_M_isAccepted_13 rfl hl (by decide) rfl (fun ls hl => ?_)
    refine lv_iconst (v := 0) hx hb d_M_isAccepted_14 rfl ?_
    refine lv_istore_n (lv' := [(3, .int 0), (2, .int 1), (0, .ref (am 0)), (1, .int (zb old))]) hx hb d_M_isAccepted_15 rfl hl (by decide) rfl (fun ls hl => ?_)
    have hl : lv_has ls 4 [(3, .int (nI 0)), (2, .int (zb (true && acAll ar old 0))), (1, .int (zb old)), (0, .ref (am 0))] := lv_sub hl [0, 1, 3, 2] rfl
    refine isAcc_loop hx hb hml hown hts hK hD hI hAA (by decide) (by decide) (Nat.zero_le _) (Nat.zero_le _) old true hT.2.1 hN8 hbs his hP (fun ls hl => ?_) (ar 0 2) 0 (Nat.zero_add _) ls hl
    refine lv_iload_n hx hb d_M_isAccepted_49 rfl (lv_at hl 0 rfl) ?_
    exact W.zret hx hb hr (zb_nar _) (fun t ht hW => ⟨⟨_, va_up ar 26 h, rfl, ⟨h, _, ⟨h, hk, hh, rfl⟩, rfl, by rw [g0]⟩, va_K.moved hW.alike hK, by rw [ht]; exact hP⟩, hS.F ht⟩) hS.2.2 d_M_isAccepted_50

theorem d_M_verify_0 : decode c_M_verify 0 = .ok (.aload_n 0, 1) := by decide +kernel
theorem d_M_verify_1 : decode c_M_verify 1 = .ok (.getfield 122, 3) := by decide +kernel
theorem d_M_verify_4 : decode c_M_verify 4 = .ok (.ifCond .le 15, 3) := by decide +kernel
theorem d_M_verify_7 : decode c_M_verify 7 = .ok (.aload_n 0, 1) := by decide +kernel
theorem d_M_verify_8 : decode c_M_verify 8 = .ok (.iconst 0, 1) := by decide +kernel
theorem d_M_verify_9 : decode c_M_verify 9 = .ok (.invokevirtual 197, 3) := by decide +kernel
theorem d_M_verify_12 : decode c_M_verify 12 = .ok (.ifCond .eq 7, 3) := by decide +kernel
theorem d_M_verify_15 : decode c_M_verify 15 = .ok (.iconst 1, 1) := by decide +kernel
theorem d_M_verify_16 : decode c_M_verify 16 = .ok (.goto 4, 3) := by decide +kernel
theorem d_M_verify_19 : decode c_M_verify 19 = .ok (.iconst 0, 1) := by decide +kernel
theorem d_M_verify_20 : decode c_M_verify 20 = .ok (.ireturn, 1) := by decide +kernel

set_option maxHeartbeats 4000000 in
set_option maxRecDepth 100000 in
/-- verify() -/
theorem k_verifyM (l : Launch) (D : va_G) (ca : Nat → ClassId) (am : Nat → Nat) (ar : Nat → Nat → Nat) (hI : mI am) (hT : tT ar) (hN8 : tN ar) (hbs : ∀ i, i < 16 → ar 11 i < 10007) (his : ∀ i, i < 16 → ar 12 i < 10007) : Met l y_M_verify (Cond.code y_M_verify c_M_verify 1 (some .boolean) :: zT) ({ frames := 5, cells := 0, slots := 0, locals := 200 }) (va_Pc [.ref (am 0)] (mw D ca am ar)) (va_Qi (fun r ar1 => (ar 0 1 = 0 ∧ r = 0 ∧ ar1 = ar) ∨ (0 < ar 0 1 ∧ ∃ (h : Nat → Nat) (b : Bool), accP ar false b ∧ ar1 = va_up ar 26 h ∧ r = zb b)) (mw D ca am) (mA am)) 0 0 (mA am) := by
  refine Met.ofW (cc := c_M_verify) (maxL := 1) (ret := (some .boolean)) (by decide) rfl ?_
  intro p e s m args below meth c s₁ B hml hv
  obtain ⟨rfl, hK, hP⟩ := hv
  have hx := B.exec
  have hb := B.bytes
  have hr := B.returns
  have hts0 := atoms_spec (ws := Cond.code y_M_verify c_M_verify 1 (some .boolean) :: zT) B.pre
  have hts := fun w h => hts0 w (List.mem_cons_of_mem _ h)
  have hown : s.vm.findClass R_M = some m.cls := findClass_of_methodNamed B.named
  have hlocks := B.notSynchronized
  have hD := mI_D hI
  have hS : va_S (mA am) s.heap s.heap [] := va_S.rf
  have hAA : ∀ q, mA am q → mA am q := fun _ h => h
  have hl := lv_entry ([.ref (am 0)]) (n := 1) (Nat.le_of_ble_eq_true rfl)
  rw [lg_entry_eq]
  generalize (lg_sl ([.ref (am 0)]) ++ List.replicate (1 - (lg_sl ([.ref (am 0)])).length) Slot.unset).toArray = ls at hl ⊢
  have hl : lv_has ls 1 [(0, .ref (am 0))] := hl
  skip
  refine lv_aload_n hx hb d_M_verify_0 rfl (lv_at hl 0 rfl) ?_
  refine mm_get hx hb hts hown hK hP (index := 122) 28 (by decide) mf_M_122 (v := .int (nI (ar 0 1))) rfl d_M_verify_1 ?_
  refine lv_if_le (tgt := 19) hx hb d_M_verify_4 rfl (fun h4 => ?_) (fun h4 => ?_)
  · skip
    have z : ar 0 1 = 0 := by
      have hs1 := hT.1
      rcases Nat.eq_zero_or_pos (ar 0 1) with q | q
      · exact q
      · exact absurd h4 (nI_nle q (by omega))
    refine lv_iconst (v := 0) hx hb d_M_verify_19 rfl ?_
    exact W.zret hx hb hr (rfl) (fun t ht hW => ⟨⟨_, ar, rfl, Or.inl ⟨z, rfl, rfl⟩, va_K.moved hW.alike hK, by rw [ht]; exact hP⟩, hS.F ht⟩) hS.2.2 d_M_verify_20
  · skip
    have z : 0 < ar 0 1 := by
      rcases Nat.eq_zero_or_pos (ar 0 1) with q | q
      · exact absurd (by rw [q]; decide) h4
      · exact q
    refine lv_aload_n hx hb d_M_verify_7 rfl (lv_at hl 0 rfl) ?_
    refine lv_iconst (v := 0) hx hb d_M_verify_8 rfl ?_
    refine mm_ci (index := 197) (n := 1) (As := [.int 0]) (rest := []) ⟨hx, hb, hml, hown, hts⟩ (k_isAcceptedM l D ca am (ar) hI false hT hN8 z hbs his) mk_M_197 mo_M_isAccepted me_M_M_isAccepted_M mi_M mc_M_isAccepted (by decide +kernel) ⟨rfl, rfl⟩ ⟨by decide, by decide⟩ hK hP hS hAA rfl hl.1 rfl (Nat.le_of_ble_eq_true rfl) d_M_verify_9 ⟨Nat.zero_le _, Nat.zero_le _⟩ (fun r ar1 H locs hpost hP hS => ?_)
    obtain ⟨h, b, hb1, rfl, rfl⟩ := hpost
    refine lv_if_eq (tgt := 19) hx hb d_M_verify_12 rfl (fun h12 => ?_) (fun h12 => ?_)
    · skip
      obtain rfl := zb_eq h12
      refine lv_iconst (v := 0) hx hb d_M_verify_19 rfl ?_
      exact W.zret hx hb hr (rfl) (fun t ht hW => ⟨⟨_, va_up ar 26 h, rfl, Or.inr ⟨z, h, _, hb1, rfl, rfl⟩, va_K.moved hW.alike hK, by rw [ht]; exact hP⟩, hS.F ht⟩) hS.2.2 d_M_verify_20
    · skip
      obtain rfl := zb_ne h12
      refine lv_iconst (v := 1) hx hb d_M_verify_15 rfl ?_
      refine lv_goto (tgt := 20) hx hb d_M_verify_16 rfl ?_
      exact W.zret hx hb hr (rfl) (fun t ht hW => ⟨⟨_, va_up ar 26 h, rfl, Or.inr ⟨z, h, _, hb1, rfl, rfl⟩, va_K.moved hW.alike hK, by rw [ht]; exact hP⟩, hS.F ht⟩) hS.2.2 d_M_verify_20

theorem d_M_challenge_0 : decode c_M_challenge 0 = .ok (.aload_n 0, 1) := by decide +kernel
theorem d_M_challenge_1 : decode c_M_challenge 1 = .ok (.getfield 122, 3) := by decide +kernel
theorem d_M_challenge_4 : decode c_M_challenge 4 = .ok (.ifCond .ne 6, 3) := by decide +kernel
theorem d_M_challenge_7 : decode c_M_challenge 7 = .ok (.bipush (-2), 2) := by decide +kernel
theorem d_M_challenge_9 : decode c_M_challenge 9 = .ok (.ireturn, 1) := by decide +kernel
theorem d_M_challenge_10 : decode c_M_challenge 10 = .ok (.aload_n 0, 1) := by decide +kernel
theorem d_M_challenge_11 : decode c_M_challenge 11 = .ok (.iconst 0, 1) := by decide +kernel
theorem d_M_challenge_12 : decode c_M_challenge 12 = .ok (.invokevirtual 189, 3) := by decide +kernel
theorem d_M_challenge_15 : decode c_M_challenge 15 = .ok (.istore_n 1, 1) := by decide +kernel
theorem d_M_challenge_16 : decode c_M_challenge 16 = .ok (.iload_n 1, 1) := by decide +kernel
theorem d_M_challenge_17 : decode c_M_challenge 17 = .ok (.ifCond .ge 8, 3) := by decide +kernel
theorem d_M_challenge_20 : decode c_M_challenge 20 = .ok (.bipush (-4), 2) := by decide +kernel
theorem d_M_challenge_22 : decode c_M_challenge 22 = .ok (.goto 4, 3) := by decide +kernel
theorem d_M_challenge_25 : decode c_M_challenge 25 = .ok (.iload_n 1, 1) := by decide +kernel
theorem d_M_challenge_26 : decode c_M_challenge 26 = .ok (.ireturn, 1) := by decide +kernel

set_option maxHeartbeats 4000000 in
set_option maxRecDepth 100000 in
/-- challenge() -/
theorem k_challengeM (l : Launch) (D : va_G) (ca : Nat → ClassId) (am : Nat → Nat) (ar : Nat → Nat → Nat) (hI : mI am) (hT : tT ar) (hN8 : tN ar) : Met l y_M_challenge (Cond.code y_M_challenge c_M_challenge 2 (some .int) :: zT) ({ frames := 2, cells := 0, slots := 0, locals := 80 }) (va_Pc [.ref (am 0)] (mw D ca am ar)) (va_Qi (fun r ar1 => (ar 0 1 = 0 ∧ r = -2 ∧ ar1 = ar) ∨ (0 < ar 0 1 ∧ ∃ h : Nat → Nat, vOK ar 15 h (ar 0 1) ∧ vB h (ar 0 1) ∧ ar1 = va_up ar 26 h ∧ r = if h (ar 0 1 - 1) < 2147483648 then nI (h (ar 0 1 - 1)) else -4)) (mw D ca am) (mA am)) 0 0 (mA am) := by
  refine Met.ofW (cc := c_M_challenge) (maxL := 2) (ret := (some .int)) (by decide) rfl ?_
  intro p e s m args below meth c s₁ B hml hv
  obtain ⟨rfl, hK, hP⟩ := hv
  have hx := B.exec
  have hb := B.bytes
  have hr := B.returns
  have hts0 := atoms_spec (ws := Cond.code y_M_challenge c_M_challenge 2 (some .int) :: zT) B.pre
  have hts := fun w h => hts0 w (List.mem_cons_of_mem _ h)
  have hown : s.vm.findClass R_M = some m.cls := findClass_of_methodNamed B.named
  have hlocks := B.notSynchronized
  have hD := mI_D hI
  have hS : va_S (mA am) s.heap s.heap [] := va_S.rf
  have hAA : ∀ q, mA am q → mA am q := fun _ h => h
  have hl := lv_entry ([.ref (am 0)]) (n := 2) (Nat.le_of_ble_eq_true rfl)
  rw [lg_entry_eq]
  generalize (lg_sl ([.ref (am 0)]) ++ List.replicate (2 - (lg_sl ([.ref (am 0)])).length) Slot.unset).toArray = ls at hl ⊢
  have hl : lv_has ls 2 [(0, .ref (am 0))] := hl
  skip
  refine lv_aload_n hx hb d_M_challenge_0 rfl (lv_at hl 0 rfl) ?_
  refine mm_get hx hb hts hown hK hP (index := 122) 28 (by decide) mf_M_122 (v := .int (nI (ar 0 1))) rfl d_M_challenge_1 ?_
  refine lv_if_ne (tgt := 10) hx hb d_M_challenge_4 rfl (fun h4 => ?_) (fun h4 => ?_)
  · skip
    have z : ¬ ar 0 1 = 0 := fun q => h4 (by rw [q]; rfl)
    refine lv_aload_n hx hb d_M_challenge_10 rfl (lv_at hl 0 rfl) ?_
    refine lv_iconst (v := 0) hx hb d_M_challenge_11 rfl ?_
    refine mm_ci (index := 189) (n := 1) (As := [.int 0]) (rest := []) ⟨hx, hb, hml, hown, hts⟩ (k_joinedM l D ca am (ar) hI false hT hN8 (by omega)) mk_M_189 mo_M_joined me_M_M_joined_M mi_M mc_M_joined (by decide +kernel) ⟨rfl, rfl⟩ ⟨by decide, by decide⟩ hK hP hS hAA rfl hl.1 rfl (Nat.le_of_ble_eq_true rfl) d_M_challenge_12 ⟨Nat.zero_le _, Nat.zero_le _⟩ (fun r ar1 H locs hpost hP hS => ?_)
    obtain ⟨h, hk, hh, rfl, rfl⟩ := hpost
    have hb1 := hh (ar 0 1 - 1) (by omega)
    refine lv_istore_n (lv' := [(1, .int (nI (h (ar 0 1 - 1)))), (0, .ref (am 0))]) hx hb d_M_challenge_15 rfl hl (by decide) rfl (fun ls hl => ?_)
    refine lv_iload_n hx hb d_M_challenge_16 rfl (lv_at hl 0 rfl) ?_
    refine lv_if_ge (tgt := 25) hx hb d_M_challenge_17 rfl (fun h17 => ?_) (fun h17 => ?_)
    · skip
      have v : h (ar 0 1 - 1) < 2147483648 := (zn_ge0 (by omega)).mp h17
      refine lv_iload_n hx hb d_M_challenge_25 rfl (lv_at hl 0 rfl) ?_
      exact W.iret hx hb hr (fun t ht hW => ⟨⟨_, va_up ar 26 h, rfl, Or.inr ⟨by omega, h, hk, hh, rfl, by rw [if_pos v]⟩, va_K.moved hW.alike hK, by rw [ht]; exact hP⟩, hS.F ht⟩) hS.2.2 d_M_challenge_26
    · skip
      have v : ¬ h (ar 0 1 - 1) < 2147483648 := mt (zn_ge0 (by omega)).mpr h17
      refine lv_bipush (v := (-4)) hx hb d_M_challenge_20 rfl ?_
      refine lv_goto (tgt := 26) hx hb d_M_challenge_22 rfl ?_
      exact W.iret hx hb hr (fun t ht hW => ⟨⟨_, va_up ar 26 h, rfl, Or.inr ⟨by omega, h, hk, hh, rfl, by rw [if_neg v]⟩, va_K.moved hW.alike hK, by rw [ht]; exact hP⟩, hS.F ht⟩) hS.2.2 d_M_challenge_26
  · skip
    have z : ar 0 1 = 0 := (zn_inj (by have := hT.1; omega) (by decide)).mp h4
    refine lv_bipush (v := (-2)) hx hb d_M_challenge_7 rfl ?_
    exact W.iret hx hb hr (fun t ht hW => ⟨⟨_, ar, rfl, Or.inl ⟨z, rfl, rfl⟩, va_K.moved hW.alike hK, by rw [ht]; exact hP⟩, hS.F ht⟩) hS.2.2 d_M_challenge_9

theorem d_M_save_0 : decode c_M_save 0 = .ok (.aload_n 0, 1) := by decide +kernel
theorem d_M_save_1 : decode c_M_save 1 = .ok (.getfield 122, 3) := by decide +kernel
theorem d_M_save_4 : decode c_M_save 4 = .ok (.ifCond .ne 5, 3) := by decide +kernel
theorem d_M_save_7 : decode c_M_save 7 = .ok (.iconst 0, 1) := by decide +kernel
theorem d_M_save_8 : decode c_M_save 8 = .ok (.ireturn, 1) := by decide +kernel
theorem d_M_save_9 : decode c_M_save 9 = .ok (.iconst 0, 1) := by decide +kernel
theorem d_M_save_10 : decode c_M_save 10 = .ok (.istore_n 1, 1) := by decide +kernel
theorem d_M_save_11 : decode c_M_save 11 = .ok (.iload_n 1, 1) := by decide +kernel
theorem d_M_save_12 : decode c_M_save 12 = .ok (.bipush 16, 2) := by decide +kernel
theorem d_M_save_14 : decode c_M_save 14 = .ok (.if_icmp .ge 21, 3) := by decide +kernel
theorem d_M_save_17 : decode c_M_save 17 = .ok (.aload_n 0, 1) := by decide +kernel
theorem d_M_save_18 : decode c_M_save 18 = .ok (.getfield 58, 3) := by decide +kernel
theorem d_M_save_21 : decode c_M_save 21 = .ok (.iload_n 1, 1) := by decide +kernel
theorem d_M_save_22 : decode c_M_save 22 = .ok (.aload_n 0, 1) := by decide +kernel
theorem d_M_save_23 : decode c_M_save 23 = .ok (.getfield 49, 3) := by decide +kernel
theorem d_M_save_26 : decode c_M_save 26 = .ok (.iload_n 1, 1) := by decide +kernel
theorem d_M_save_27 : decode c_M_save 27 = .ok (.iaload, 1) := by decide +kernel
theorem d_M_save_28 : decode c_M_save 28 = .ok (.iastore, 1) := by decide +kernel
theorem d_M_save_29 : decode c_M_save 29 = .ok (.iinc 1 1, 3) := by decide +kernel
theorem d_M_save_32 : decode c_M_save 32 = .ok (.goto (-21), 3) := by decide +kernel
theorem d_M_save_35 : decode c_M_save 35 = .ok (.iconst 0, 1) := by decide +kernel
theorem d_M_save_36 : decode c_M_save 36 = .ok (.istore_n 1, 1) := by decide +kernel
theorem d_M_save_37 : decode c_M_save 37 = .ok (.iload_n 1, 1) := by decide +kernel
theorem d_M_save_38 : decode c_M_save 38 = .ok (.bipush 8, 2) := by decide +kernel
theorem d_M_save_40 : decode c_M_save 40 = .ok (.if_icmp .ge 33, 3) := by decide +kernel
theorem d_M_save_43 : decode c_M_save 43 = .ok (.aload_n 0, 1) := by decide +kernel
theorem d_M_save_44 : decode c_M_save 44 = .ok (.getfield 61, 3) := by decide +kernel
theorem d_M_save_47 : decode c_M_save 47 = .ok (.iload_n 1, 1) := by decide +kernel
theorem d_M_save_48 : decode c_M_save 48 = .ok (.aload_n 0, 1) := by decide +kernel
theorem d_M_save_49 : decode c_M_save 49 = .ok (.getfield 52, 3) := by decide +kernel
theorem d_M_save_52 : decode c_M_save 52 = .ok (.iload_n 1, 1) := by decide +kernel
theorem d_M_save_53 : decode c_M_save 53 = .ok (.iaload, 1) := by decide +kernel
theorem d_M_save_54 : decode c_M_save 54 = .ok (.iastore, 1) := by decide +kernel
theorem d_M_save_55 : decode c_M_save 55 = .ok (.aload_n 0, 1) := by decide +kernel
theorem d_M_save_56 : decode c_M_save 56 = .ok (.getfield 64, 3) := by decide +kernel
theorem d_M_save_59 : decode c_M_save 59 = .ok (.iload_n 1, 1) := by decide +kernel
theorem d_M_save_60 : decode c_M_save 60 = .ok (.aload_n 0, 1) := by decide +kernel
theorem d_M_save_61 : decode c_M_save 61 = .ok (.getfield 55, 3) := by decide +kernel
theorem d_M_save_64 : decode c_M_save 64 = .ok (.iload_n 1, 1) := by decide +kernel
theorem d_M_save_65 : decode c_M_save 65 = .ok (.iaload, 1) := by decide +kernel
theorem d_M_save_66 : decode c_M_save 66 = .ok (.iastore, 1) := by decide +kernel
theorem d_M_save_67 : decode c_M_save 67 = .ok (.iinc 1 1, 3) := by decide +kernel
theorem d_M_save_70 : decode c_M_save 70 = .ok (.goto (-33), 3) := by decide +kernel
theorem d_M_save_73 : decode c_M_save 73 = .ok (.aload_n 0, 1) := by decide +kernel
theorem d_M_save_74 : decode c_M_save 74 = .ok (.iconst 1, 1) := by decide +kernel
theorem d_M_save_75 : decode c_M_save 75 = .ok (.putfield 128, 3) := by decide +kernel
theorem d_M_save_78 : decode c_M_save 78 = .ok (.iconst 1, 1) := by decide +kernel
theorem d_M_save_79 : decode c_M_save 79 = .ok (.ireturn, 1) := by decide +kernel

theorem up_eq {h g : Nat → Nat} {k : Nat} (hh : ∀ i, i < k → h i = g i) : ∀ i, i < k + 1 → va_up h k (g k) i = g i := by
  intro i hi
  by_cases e : i = k
  · subst e; rw [va_up_self]
  · rw [va_up_ne _ _ e]; exact hh i (by omega)

section MV
variable {p : Program} {l : Launch} {e : Env} {R : Room} {s : State} {m : MethodId} {args : Array Value} {below : List Frame} {meth : Method} {c : Code} {H0 : Heap} {cells slots : Nat} {Q : State → Prop} {A : Nat → Prop} {D : va_G} {ca : Nat → ClassId} {am : Nat → Nat} {ar : Nat → Nat → Nat}
set_option maxHeartbeats 4000000 in
set_option maxRecDepth 100000 in
theorem save_l1 (hx : p.tables.exec = Jvm.exec) (hb : c.code = c_M_save) (hml : c.maxLocals = 2) (hown : s.vm.findClass R_M = some m.cls) (hts : ∀ w ∈ zT, w.before args s = true) (hK : va_K D zC (zty ca) s) (hD : zD A 28 am) (kk : ∀ (h : Nat → Nat) (H : Heap) (locs : List Loc) (ls : Array Slot), (∀ i, i < 16 → h i = ar 14 i) → va_P D zC (zl 28 am (mct ca am (va_up ar 17 h))) H → va_S A H0 H locs → lv_has ls 2 [(0, .ref (am 0))] → W p l e R s m args below meth c H locs cells slots Q (F0 m 35 ls [])) : ∀ (j k : Nat), k + j = 16 → ∀ (h : Nat → Nat) (H : Heap) (locs : List Loc) (ls : Array Slot), (∀ i, i < k → h i = ar 14 i) → va_P D zC (zl 28 am (mct ca am (va_up ar 17 h))) H → va_S A H0 H locs → lv_has ls 2 [(1, .int (nI k)), (0, .ref (am 0))] → W p l e R s m args below meth c H locs cells slots Q (F0 m 11 ls []) := by
  intro j
  induction j with
  | zero =>
    intro k hk h H locs ls hh hP hS hl
    obtain rfl : k = 16 := by omega
    refine lv_iload_n hx hb d_M_save_11 rfl (lv_at hl 0 rfl) ?_
    refine lv_bipush (v := 16) hx hb d_M_save_12 rfl ?_
    refine lv_icmp_ge (tgt := 35) hx hb d_M_save_14 rfl (fun h14 => ?_) (fun h14 => absurd (by decide) h14)
    have hl := lv_sub (l' := [(0, .ref (am 0))]) hl [1] rfl
    exact kk h H locs ls hh hP hS hl
  | succ j ih =>
    intro k hk h H locs ls hh hP hS hl
    refine lv_iload_n hx hb d_M_save_11 rfl (lv_at hl 0 rfl) ?_
    refine lv_bipush (v := 16) hx hb d_M_save_12 rfl ?_
    refine lv_icmp_ge (tgt := 35) hx hb d_M_save_14 rfl (fun h14 => absurd h14 (nI_ge (b := 16) (by omega) (by decide))) (fun h14 => ?_)
    refine lv_aload_n hx hb d_M_save_17 rfl (lv_at hl 1 rfl) ?_
    refine mm_get hx hb hts hown hK hP (index := 58) 16 (by decide) mf_M_58 (v := .ref (am 17)) rfl d_M_save_18 ?_
    refine lv_iload_n hx hb d_M_save_21 rfl (lv_at hl 0 rfl) ?_
    refine lv_aload_n hx hb d_M_save_22 rfl (lv_at hl 1 rfl) ?_
    refine mm_get hx hb hts hown hK hP (index := 49) 13 (by decide) mf_M_49 (v := .ref (am 14)) rfl d_M_save_23 ?_
    refine lv_iload_n hx hb d_M_save_26 rfl (lv_at hl 0 rfl) ?_
    refine mm_ald hx hb hK hP 13 (by decide) rfl (k) rfl (show k < 16 from by omega) (ar 14 k) (rfl) d_M_save_27 ?_
    refine mm_ast hx hb hK hP hD hS 16 (by decide) rfl (k) rfl (show k < 16 from by omega) (ar 14 k) (rfl) d_M_save_28 (fun H locs hP hS => ?_)
    refine lv_iinc (k := 0) (v := nI (k + 1)) (lv' := [(1, .int (nI (k + 1))), (0, .ref (am 0))]) hx hb d_M_save_29 hl rfl (nI_1 _) (by decide) rfl (fun ls hl => ?_)
    refine lv_goto (tgt := 11) hx hb d_M_save_32 rfl ?_
    rw [zs_up] at hP
    have hl := lv_sub (l' := [(1, .int (nI (k + 1))), (0, .ref (am 0))]) hl [0, 1] rfl
    exact ih (k + 1) (by omega) (va_up h k (ar 14 k)) H locs ls (up_eq hh) hP hS hl
set_option maxHeartbeats 4000000 in
set_option maxRecDepth 100000 in
theorem save_l2 (hx : p.tables.exec = Jvm.exec) (hb : c.code = c_M_save) (hml : c.maxLocals = 2) (hown : s.vm.findClass R_M = some m.cls) (hts : ∀ w ∈ zT, w.before args s = true) (hK : va_K D zC (zty ca) s) (hD : zD A 28 am) {h : Nat → Nat} (kk : ∀ (h2 h3 : Nat → Nat) (H : Heap) (locs : List Loc) (ls : Array Slot), (∀ i, i < 8 → h2 i = ar 15 i) → (∀ i, i < 8 → h3 i = ar 16 i) → va_P D zC (zl 28 am (mct ca am (va_up (va_up (va_up ar 17 h) 18 h2) 19 h3))) H → va_S A H0 H locs → lv_has ls 2 [(0, .ref (am 0))] → W p l e R s m args below meth c H locs cells slots Q (F0 m 73 ls [])) : ∀ (j k : Nat), k + j = 8 → ∀ (h2 h3 : Nat → Nat) (H : Heap) (locs : List Loc) (ls : Array Slot), (∀ i, i < k → h2 i = ar 15 i) → (∀ i, i < k → h3 i = ar 16 i) → va_P D zC (zl 28 am (mct ca am (va_up (va_up (va_up ar 17 h) 18 h2) 19 h3))) H → va_S A H0 H locs → lv_has ls 2 [(1, .int (nI k)), (0, .ref (am 0))] → W p l e R s m args below meth c H locs cells slots Q (F0 m 37 ls []) := by
  intro j
  induction j with
  | zero =>
    intro k hk h2 h3 H locs ls hh2 hh3 hP hS hl
    obtain rfl : k = 8 := by omega
    refine lv_iload_n hx hb d_M_save_37 rfl (lv_at hl 0 rfl) ?_
    refine lv_bipush (v := 8) hx hb d_M_save_38 rfl ?_
    refine lv_icmp_ge (tgt := 73) hx hb d_M_save_40 rfl (fun h40 => ?_) (fun h40 => absurd (by decide) h40)
    have hl := lv_sub (l' := [(0, .ref (am 0))]) hl [1] rfl
    exact kk h2 h3 H locs ls hh2 hh3 hP hS hl
  | succ j ih =>
    intro k hk h2 h3 H locs ls hh2 hh3 hP hS hl
    refine lv_iload_n hx hb d_M_save_37 rfl (lv_at hl 0 rfl) ?_
    refine lv_bipush (v := 8) hx hb d_M_save_38 rfl ?_
    refine lv_icmp_ge (tgt := 73) hx hb d_M_save_40 rfl (fun h40 => absurd h40 (nI_ge (b := 8) (by omega) (by decide))) (fun h40 => ?_)
    refine lv_aload_n hx hb d_M_save_43 rfl (lv_at hl 1 rfl) ?_
    refine mm_get hx hb hts hown hK hP (index := 61) 17 (by decide) mf_M_61 (v := .ref (am 18)) rfl d_M_save_44 ?_
    refine lv_iload_n hx hb d_M_save_47 rfl (lv_at hl 0 rfl) ?_
    refine lv_aload_n hx hb d_M_save_48 rfl (lv_at hl 1 rfl) ?_
    refine mm_get hx hb hts hown hK hP (index := 52) 14 (by decide) mf_M_52 (v := .ref (am 15)) rfl d_M_save_49 ?_
    refine lv_iload_n hx hb d_M_save_52 rfl (lv_at hl 0 rfl) ?_
    refine mm_ald hx hb hK hP 14 (by decide) rfl (k) rfl (show k < 8 from by omega) (ar 15 k) (rfl) d_M_save_53 ?_
    refine mm_ast hx hb hK hP hD hS 17 (by decide) rfl (k) rfl (show k < 8 from by omega) (ar 15 k) (rfl) d_M_save_54 (fun H locs hP hS => ?_)
    refine lv_aload_n hx hb d_M_save_55 rfl (lv_at hl 1 rfl) ?_
    refine mm_get hx hb hts hown hK hP (index := 64) 18 (by decide) mf_M_64 (v := .ref (am 19)) rfl d_M_save_56 ?_
    refine lv_iload_n hx hb d_M_save_59 rfl (lv_at hl 0 rfl) ?_
    refine lv_aload_n hx hb d_M_save_60 rfl (lv_at hl 1 rfl) ?_
    refine mm_get hx hb hts hown hK hP (index := 55) 15 (by decide) mf_M_55 (v := .ref (am 16)) rfl d_M_save_61 ?_
    refine lv_iload_n hx hb d_M_save_64 rfl (lv_at hl 0 rfl) ?_
    refine mm_ald hx hb hK hP 15 (by decide) rfl (k) rfl (show k < 8 from by omega) (ar 16 k) (rfl) d_M_save_65 ?_
    refine mm_ast hx hb hK hP hD hS 18 (by decide) rfl (k) rfl (show k < 8 from by omega) (ar 16 k) (rfl) d_M_save_66 (fun H locs hP hS => ?_)
    refine lv_iinc (k := 0) (v := nI (k + 1)) (lv' := [(1, .int (nI (k + 1))), (0, .ref (am 0))]) hx hb d_M_save_67 hl rfl (nI_1 _) (by decide) rfl (fun ls hl => ?_)
    refine lv_goto (tgt := 37) hx hb d_M_save_70 rfl ?_
    rw [zs_upn (i := 19) (j := 18) _ _ _ _ (by decide), zs_up, zs_up] at hP
    have hl := lv_sub (l' := [(1, .int (nI (k + 1))), (0, .ref (am 0))]) hl [0, 1] rfl
    exact ih (k + 1) (by omega) (va_up h2 k (ar 15 k)) (va_up h3 k (ar 16 k)) H locs ls (up_eq hh2) (up_eq hh3) hP hS hl
end MV

set_option maxHeartbeats 4000000 in
set_option maxRecDepth 100000 in
/-- save() -/
theorem k_saveM (l : Launch) (D : va_G) (ca : Nat → ClassId) (am : Nat → Nat) (ar : Nat → Nat → Nat) (hI : mI am) (hT : tT ar) : Met l y_M_save (Cond.code y_M_save c_M_save 2 (some .boolean) :: zT) ({ frames := 1, cells := 0, slots := 0, locals := 40 }) (va_Pc [.ref (am 0)] (mw D ca am ar)) (va_Qi (fun r ar1 => (ar 0 1 = 0 ∧ r = 0 ∧ ar1 = ar) ∨ (0 < ar 0 1 ∧ r = 1 ∧ ∃ h h2 h3 : Nat → Nat, (∀ i, i < 16 → h i = ar 14 i) ∧ (∀ i, i < 8 → h2 i = ar 15 i) ∧ (∀ i, i < 8 → h3 i = ar 16 i) ∧ ar1 = zs (va_up (va_up (va_up ar 17 h) 18 h2) 19 h3) 0 3 1)) (mw D ca am) (mA am)) 0 0 (mA am) := by
  refine Met.ofW (cc := c_M_save) (maxL := 2) (ret := (some .boolean)) (by decide) rfl ?_
  intro p e s m args below meth c s₁ B hml hv
  obtain ⟨rfl, hK, hP⟩ := hv
  have hx := B.exec
  have hb := B.bytes
  have hr := B.returns
  have hts0 := atoms_spec (ws := Cond.code y_M_save c_M_save 2 (some .boolean) :: zT) B.pre
  have hts := fun w h => hts0 w (List.mem_cons_of_mem _ h)
  have hown : s.vm.findClass R_M = some m.cls := findClass_of_methodNamed B.named
  have hlocks := B.notSynchronized
  have hD := mI_D hI
  have hS : va_S (mA am) s.heap s.heap [] := va_S.rf
  have hAA : ∀ q, mA am q → mA am q := fun _ h => h
  have hl := lv_entry ([.ref (am 0)]) (n := 2) (Nat.le_of_ble_eq_true rfl)
  rw [lg_entry_eq]
  generalize (lg_sl ([.ref (am 0)]) ++ List.replicate (2 - (lg_sl ([.ref (am 0)])).length) Slot.unset).toArray = ls at hl ⊢
  have hl : lv_has ls 2 [(0, .ref (am 0))] := hl
  skip
  refine lv_aload_n hx hb d_M_save_0 rfl (lv_at hl 0 rfl) ?_
  refine mm_get hx hb hts hown hK hP (index := 122) 28 (by decide) mf_M_122 (v := .int (nI (ar 0 1))) rfl d_M_save_1 ?_
  refine lv_if_ne (tgt := 9) hx hb d_M_save_4 rfl (fun h4 => ?_) (fun h4 => ?_)
  · skip
    have z : ¬ ar 0 1 = 0 := fun q => h4 (by rw [q]; rfl)
    refine lv_iconst (v := 0) hx hb d_M_save_9 rfl ?_
    refine lv_istore_n (lv' := [(1, .int 0), (0, .ref (am 0))]) hx hb d_M_save_10 rfl hl (by decide) rfl (fun ls hl => ?_)
    have hP : va_P D zC (zl 28 am (mct ca am (va_up ar 17 (ar 17)))) s.heap := by rw [va_up_row]; exact hP
    refine save_l1 hx hb hml hown hts hK hD (fun h H locs ls hh hP hS hl => ?_) 16 0 rfl (ar 17) s.heap [] ls (fun _ q => absurd q (Nat.not_lt_zero _)) hP hS hl
    refine lv_iconst (v := 0) hx hb d_M_save_35 rfl ?_
    refine lv_istore_n (lv' := [(1, .int 0), (0, .ref (am 0))]) hx hb d_M_save_36 rfl hl (by decide) rfl (fun ls hl => ?_)
    have hP : va_P D zC (zl 28 am (mct ca am (va_up (va_up (va_up ar 17 h) 18 (ar 18)) 19 (ar 19)))) H := by
      rw [show ar 18 = (va_up ar 17 h) 18 from rfl, va_up_row, show ar 19 = (va_up ar 17 h) 19 from rfl, va_up_row]; exact hP
    refine save_l2 hx hb hml hown hts hK hD (fun h2 h3 H locs ls hh2 hh3 hP hS hl => ?_) 8 0 rfl (ar 18) (ar 19) H locs ls (fun _ q => absurd q (Nat.not_lt_zero _)) (fun _ q => absurd q (Nat.not_lt_zero _)) hP hS hl
    refine lv_aload_n hx hb d_M_save_73 rfl (lv_at hl 0 rfl) ?_
    refine lv_iconst (v := 1) hx hb d_M_save_74 rfl ?_
    refine mm_put hx hb hts hown hK hP hD hS (index := 128) 3 (by decide) mf_M_128 (1) (rfl) (zn_narb (by decide)) (zn_fitb (by decide)) d_M_save_75 (fun H locs hP hS => ?_)
    refine lv_iconst (v := 1) hx hb d_M_save_78 rfl ?_
    exact W.zret hx hb hr (rfl) (fun t ht hW => ⟨⟨_, zs (va_up (va_up (va_up ar 17 h) 18 h2) 19 h3) 0 3 1, rfl, Or.inr ⟨by omega, rfl, h, h2, h3, hh, hh2, hh3, rfl⟩, va_K.moved hW.alike hK, by rw [ht]; exact hP⟩, hS.F ht⟩) hS.2.2 d_M_save_79
  · skip
    have z : ar 0 1 = 0 := (zn_inj (by have := hT.1; omega) (by decide)).mp h4
    refine lv_iconst (v := 0) hx hb d_M_save_7 rfl ?_
    exact W.zret hx hb hr (rfl) (fun t ht hW => ⟨⟨_, ar, rfl, Or.inl ⟨z, rfl, rfl⟩, va_K.moved hW.alike hK, by rw [ht]; exact hP⟩, hS.F ht⟩) hS.2.2 d_M_save_8

theorem d_M_sameCommitments_0 : decode c_M_sameCommitments 0 = .ok (.iconst 1, 1) := by decide +kernel
theorem d_M_sameCommitments_1 : decode c_M_sameCommitments 1 = .ok (.istore_n 1, 1) := by decide +kernel
theorem d_M_sameCommitments_2 : decode c_M_sameCommitments 2 = .ok (.iconst 0, 1) := by decide +kernel
theorem d_M_sameCommitments_3 : decode c_M_sameCommitments 3 = .ok (.istore_n 2, 1) := by decide +kernel
theorem d_M_sameCommitments_4 : decode c_M_sameCommitments 4 = .ok (.iload_n 2, 1) := by decide +kernel
theorem d_M_sameCommitments_5 : decode c_M_sameCommitments 5 = .ok (.aload_n 0, 1) := by decide +kernel
theorem d_M_sameCommitments_6 : decode c_M_sameCommitments 6 = .ok (.getfield 125, 3) := by decide +kernel
theorem d_M_sameCommitments_9 : decode c_M_sameCommitments 9 = .ok (.if_icmp .ge 70, 3) := by decide +kernel
theorem d_M_sameCommitments_12 : decode c_M_sameCommitments 12 = .ok (.iload_n 1, 1) := by decide +kernel
theorem d_M_sameCommitments_13 : decode c_M_sameCommitments 13 = .ok (.ifCond .eq 58, 3) := by decide +kernel
theorem d_M_sameCommitments_16 : decode c_M_sameCommitments 16 = .ok (.aload_n 0, 1) := by decide +kernel
theorem d_M_sameCommitments_17 : decode c_M_sameCommitments 17 = .ok (.getfield 49, 3) := by decide +kernel
theorem d_M_sameCommitments_20 : decode c_M_sameCommitments 20 = .ok (.iconst 2, 1) := by decide +kernel
theorem d_M_sameCommitments_21 : decode c_M_sameCommitments 21 = .ok (.iload_n 2, 1) := by decide +kernel
theorem d_M_sameCommitments_22 : decode c_M_sameCommitments 22 = .ok (.imul, 1) := by decide +kernel
theorem d_M_sameCommitments_23 : decode c_M_sameCommitments 23 = .ok (.iaload, 1) := by decide +kernel
theorem d_M_sameCommitments_24 : decode c_M_sameCommitments 24 = .ok (.aload_n 0, 1) := by decide +kernel
theorem d_M_sameCommitments_25 : decode c_M_sameCommitments 25 = .ok (.getfield 58, 3) := by decide +kernel
theorem d_M_sameCommitments_28 : decode c_M_sameCommitments 28 = .ok (.iconst 2, 1) := by decide +kernel
theorem d_M_sameCommitments_29 : decode c_M_sameCommitments 29 = .ok (.iload_n 2, 1) := by decide +kernel
theorem d_M_sameCommitments_30 : decode c_M_sameCommitments 30 = .ok (.imul, 1) := by decide +kernel
theorem d_M_sameCommitments_31 : decode c_M_sameCommitments 31 = .ok (.iaload, 1) := by decide +kernel
theorem d_M_sameCommitments_32 : decode c_M_sameCommitments 32 = .ok (.if_icmp .ne 39, 3) := by decide +kernel
theorem d_M_sameCommitments_35 : decode c_M_sameCommitments 35 = .ok (.aload_n 0, 1) := by decide +kernel
theorem d_M_sameCommitments_36 : decode c_M_sameCommitments 36 = .ok (.iload_n 2, 1) := by decide +kernel
theorem d_M_sameCommitments_37 : decode c_M_sameCommitments 37 = .ok (.iconst 1, 1) := by decide +kernel
theorem d_M_sameCommitments_38 : decode c_M_sameCommitments 38 = .ok (.invokevirtual 138, 3) := by decide +kernel
theorem d_M_sameCommitments_41 : decode c_M_sameCommitments 41 = .ok (.ifCond .eq 26, 3) := by decide +kernel
theorem d_M_sameCommitments_44 : decode c_M_sameCommitments 44 = .ok (.aload_n 0, 1) := by decide +kernel
theorem d_M_sameCommitments_45 : decode c_M_sameCommitments 45 = .ok (.getfield 49, 3) := by decide +kernel
theorem d_M_sameCommitments_48 : decode c_M_sameCommitments 48 = .ok (.iconst 2, 1) := by decide +kernel
theorem d_M_sameCommitments_49 : decode c_M_sameCommitments 49 = .ok (.iload_n 2, 1) := by decide +kernel
theorem d_M_sameCommitments_50 : decode c_M_sameCommitments 50 = .ok (.imul, 1) := by decide +kernel
theorem d_M_sameCommitments_51 : decode c_M_sameCommitments 51 = .ok (.iconst 1, 1) := by decide +kernel
theorem d_M_sameCommitments_52 : decode c_M_sameCommitments 52 = .ok (.iadd, 1) := by decide +kernel
theorem d_M_sameCommitments_53 : decode c_M_sameCommitments 53 = .ok (.iaload, 1) := by decide +kernel
theorem d_M_sameCommitments_54 : decode c_M_sameCommitments 54 = .ok (.aload_n 0, 1) := by decide +kernel
theorem d_M_sameCommitments_55 : decode c_M_sameCommitments 55 = .ok (.getfield 58, 3) := by decide +kernel
theorem d_M_sameCommitments_58 : decode c_M_sameCommitments 58 = .ok (.iconst 2, 1) := by decide +kernel
theorem d_M_sameCommitments_59 : decode c_M_sameCommitments 59 = .ok (.iload_n 2, 1) := by decide +kernel
theorem d_M_sameCommitments_60 : decode c_M_sameCommitments 60 = .ok (.imul, 1) := by decide +kernel
theorem d_M_sameCommitments_61 : decode c_M_sameCommitments 61 = .ok (.iconst 1, 1) := by decide +kernel
theorem d_M_sameCommitments_62 : decode c_M_sameCommitments 62 = .ok (.iadd, 1) := by decide +kernel
theorem d_M_sameCommitments_63 : decode c_M_sameCommitments 63 = .ok (.iaload, 1) := by decide +kernel
theorem d_M_sameCommitments_64 : decode c_M_sameCommitments 64 = .ok (.if_icmp .ne 7, 3) := by decide +kernel
theorem d_M_sameCommitments_67 : decode c_M_sameCommitments 67 = .ok (.iconst 1, 1) := by decide +kernel
theorem d_M_sameCommitments_68 : decode c_M_sameCommitments 68 = .ok (.goto 4, 3) := by decide +kernel
theorem d_M_sameCommitments_71 : decode c_M_sameCommitments 71 = .ok (.iconst 0, 1) := by decide +kernel
theorem d_M_sameCommitments_72 : decode c_M_sameCommitments 72 = .ok (.istore_n 1, 1) := by decide +kernel
theorem d_M_sameCommitments_73 : decode c_M_sameCommitments 73 = .ok (.iinc 2 1, 3) := by decide +kernel
theorem d_M_sameCommitments_76 : decode c_M_sameCommitments 76 = .ok (.goto (-72), 3) := by decide +kernel
theorem d_M_sameCommitments_79 : decode c_M_sameCommitments 79 = .ok (.iload_n 1, 1) := by decide +kernel
theorem d_M_sameCommitments_80 : decode c_M_sameCommitments 80 = .ok (.ireturn, 1) := by decide +kernel

section MQ
variable {p : Program} {l : Launch} {e : Env} {R : Room} {s : State} {m : MethodId} {args : Array Value} {below : List Frame} {meth : Method} {c : Code} {H0 : Heap} {cells slots : Nat} {Q : State → Prop} {A : Nat → Prop} {D : va_G} {ca : Nat → ClassId} {am : Nat → Nat} {ar : Nat → Nat → Nat}
set_option maxHeartbeats 4000000 in
set_option maxRecDepth 100000 in
theorem same_loop (hx : p.tables.exec = Jvm.exec) (hb : c.code = c_M_sameCommitments) (hml : c.maxLocals = 3) (hown : s.vm.findClass R_M = some m.cls) (hts : ∀ w ∈ zT, w.before args s = true) (hK : va_K D zC (zty ca) s) (hD : zD A 28 am) (hI : mI am) (hAA : ∀ q, mA am q → A q) (hRf : 3 ≤ R.frames) (hRl : 120 ≤ R.locals) (hc : cells ≤ R.cells) (hsl : slots ≤ R.slots) (hl2 : ar 0 2 ≤ 8) (hN8 : tN ar) (hbs : ∀ i, i < 16 → ar 11 i < 10007) {H : Heap} {locs : List Loc} (hP : va_P D zC (zl 28 am (mct ca am (ar))) H) (kk : ∀ (ls : Array Slot), lv_has ls 3 [(1, .int (zb (smAll ar (ar 0 2))))] → W p l e R s m args below meth c H locs cells slots Q (F0 m 79 ls [])) : ∀ (j k : Nat), k + j = ar 0 2 → ∀ (ls : Array Slot), lv_has ls 3 [(2, .int (nI k)), (1, .int (zb (smAll ar k))), (0, .ref (am 0))] → W p l e R s m args below meth c H locs cells slots Q (F0 m 4 ls []) := by
  intro j
  induction j with
  | zero =>
    intro k hk ls hl
    obtain rfl : k = ar 0 2 := by omega
    refine lv_iload_n hx hb d_M_sameCommitments_4 rfl (lv_at hl 0 rfl) ?_
    refine lv_aload_n hx hb d_M_sameCommitments_5 rfl (lv_at hl 2 rfl) ?_
    refine mm_get hx hb hts hown hK hP (index := 125) 29 (by decide) mf_M_125 (v := .int (nI (ar 0 2))) rfl d_M_sameCommitments_6 ?_
    refine lv_icmp_ge (tgt := 79) hx hb d_M_sameCommitments_9 rfl (fun h9 => ?_) (fun h9 => absurd (Int32.le_refl _) h9)
    have hl := lv_sub (l' := [(1, .int (zb (smAll ar (ar 0 2))))]) hl [1] rfl
    exact kk ls hl
  | succ j ih =>
    intro k hk ls hl
    have hN : k < ar 0 2 := by omega
    have t0 := hN8.1 (2 * k) (by omega)
    have t1 := hN8.1 (2 * k + 1) (by omega)
    refine lv_iload_n hx hb d_M_sameCommitments_4 rfl (lv_at hl 0 rfl) ?_
    refine lv_aload_n hx hb d_M_sameCommitments_5 rfl (lv_at hl 2 rfl) ?_
    refine mm_get hx hb hts hown hK hP (index := 125) 29 (by decide) mf_M_125 (v := .int (nI (ar 0 2))) rfl d_M_sameCommitments_6 ?_
    refine lv_icmp_ge (tgt := 79) hx hb d_M_sameCommitments_9 rfl (fun h9 => absurd h9 (nI_ge hN (by omega))) (fun h9 => ?_)
    refine lv_iload_n hx hb d_M_sameCommitments_12 rfl (lv_at hl 1 rfl) ?_
    refine lv_if_eq (tgt := 71) hx hb d_M_sameCommitments_13 rfl (fun h13 => ?_) (fun h13 => ?_)
    · skip
      have hq : smAll ar (k + 1) = false := by show (smAll ar k && smB ar k) = false; rw [zb_eq h13, Bool.false_and]
      refine lv_iconst (v := 0) hx hb d_M_sameCommitments_71 rfl ?_
      refine lv_istore_n (lv' := [(1, .int 0), (2, .int (nI k)), (0, .ref (am 0))]) hx hb d_M_sameCommitments_72 rfl hl (by decide) rfl (fun ls hl => ?_)
      have hl : lv_has ls 3 [(1, .int (zb (smAll ar (k + 1)))), (2, .int (nI k)), (0, .ref (am 0))] := by rw [hq]; exact hl
      refine lv_iinc (k := 1) (v := nI (k + 1)) (lv' := [(2, .int (nI (k + 1))), (1, .int (zb (smAll ar (k + 1)))), (0, .ref (am 0))]) hx hb d_M_sameCommitments_73 hl rfl (nI_1 _) (by decide) rfl (fun ls hl => ?_)
      refine lv_goto (tgt := 4) hx hb d_M_sameCommitments_76 rfl ?_
      have hl := lv_sub (l' := [(2, .int (nI (k + 1))), (1, .int (zb (smAll ar (k + 1)))), (0, .ref (am 0))]) hl [0, 1, 2] rfl
      exact ih (k + 1) (by omega) ls hl
    · skip
      have hs := zb_ne h13
      refine lv_aload_n hx hb d_M_sameCommitments_16 rfl (lv_at hl 2 rfl) ?_
      refine mm_get hx hb hts hown hK hP (index := 49) 13 (by decide) mf_M_49 (v := .ref (am 14)) rfl d_M_sameCommitments_17 ?_
      refine lv_iconst (v := 2) hx hb d_M_sameCommitments_20 rfl ?_
      refine lv_iload_n hx hb d_M_sameCommitments_21 rfl (lv_at hl 0 rfl) ?_
      refine lv_imul hx hb d_M_sameCommitments_22 ?_
      refine zz_as (y := nI (2 * k)) (pk_mul 2 k) ?_
      refine mm_ald hx hb hK hP 13 (by decide) rfl (2 * k) rfl (show 2 * k < 16 from by omega) (ar 14 (2 * k)) (rfl) d_M_sameCommitments_23 ?_
      refine lv_aload_n hx hb d_M_sameCommitments_24 rfl (lv_at hl 2 rfl) ?_
      refine mm_get hx hb hts hown hK hP (index := 58) 16 (by decide) mf_M_58 (v := .ref (am 17)) rfl d_M_sameCommitments_25 ?_
      refine lv_iconst (v := 2) hx hb d_M_sameCommitments_28 rfl ?_
      refine lv_iload_n hx hb d_M_sameCommitments_29 rfl (lv_at hl 0 rfl) ?_
      refine lv_imul hx hb d_M_sameCommitments_30 ?_
      refine zz_as (y := nI (2 * k)) (pk_mul 2 k) ?_
      refine mm_ald hx hb hK hP 16 (by decide) rfl (2 * k) rfl (show 2 * k < 16 from by omega) (ar 17 (2 * k)) (rfl) d_M_sameCommitments_31 ?_
      refine lv_icmp_ne (tgt := 71) hx hb d_M_sameCommitments_32 rfl (fun h32 => ?_) (fun h32 => ?_)
      · skip
        have e0 : ¬ ar 14 (2 * k) = ar 17 (2 * k) := fun q => h32 (by rw [q])
        have hq : smAll ar (k + 1) = false := by show (smAll ar k && smB ar k) = false; unfold smB; rw [decide_eq_false e0, Bool.false_and, Bool.and_false]
        refine lv_iconst (v := 0) hx hb d_M_sameCommitments_71 rfl ?_
        refine lv_istore_n (lv' := [(1, .int 0), (2, .int (nI k)), (0, .ref (am 0))]) hx hb d_M_sameCommitments_72 rfl hl (by decide) rfl (fun ls hl => ?_)
        have hl : lv_has ls 3 [(1, .int (zb (smAll ar (k + 1)))), (2, .int (nI k)), (0, .ref (am 0))] := by rw [hq]; exact hl
        refine lv_iinc (k := 1) (v := nI (k + 1)) (lv' := [(2, .int (nI (k + 1))), (1, .int (zb (smAll ar (k + 1)))), (0, .ref (am 0))]) hx hb d_M_sameCommitments_73 hl rfl (nI_1 _) (by decide) rfl (fun ls hl => ?_)
        refine lv_goto (tgt := 4) hx hb d_M_sameCommitments_76 rfl ?_
        have hl := lv_sub (l' := [(2, .int (nI (k + 1))), (1, .int (zb (smAll ar (k + 1)))), (0, .ref (am 0))]) hl [0, 1, 2] rfl
        exact ih (k + 1) (by omega) ls hl
      · skip
        have e0 : ar 14 (2 * k) = ar 17 (2 * k) := (zn_inj (by omega) (by omega)).mp h32
        refine lv_aload_n hx hb d_M_sameCommitments_35 rfl (lv_at hl 2 rfl) ?_
        refine lv_iload_n hx hb d_M_sameCommitments_36 rfl (lv_at hl 0 rfl) ?_
        refine lv_iconst (v := 1) hx hb d_M_sameCommitments_37 rfl ?_
        refine zz_cV (index := 138) (n := 2) (As := [.int (nI k), .int 1]) (rest := []) ⟨hx, hb, hml, hown, hts⟩ (k_isPairM l D ca am (ar) k 1 (by omega) (by decide) hl2 hbs) mk_M_138 mo_M_isPair me_M_M_isPair_M mi_M mc_M_isPair (by decide +kernel) ⟨rfl, rfl⟩ ⟨Nat.le_trans (by decide) hRf, Nat.le_trans (by decide) hRl⟩ (mm_pre hK hP) rfl hl.1 rfl (Nat.le_of_ble_eq_true rfl) d_M_sameCommitments_38 ⟨hc, hsl⟩ ?_
        refine lv_if_eq (tgt := 67) hx hb d_M_sameCommitments_41 rfl (fun h41 => ?_) (fun h41 => ?_)
        · skip
          have hp := pairB_f hN (zb_eq h41)
          have hq : smAll ar (k + 1) = true := by show (smAll ar k && smB ar k) = true; unfold smB; rw [hs, decide_eq_true e0, decide_eq_false hp]; rfl
          refine lv_iconst (v := 1) hx hb d_M_sameCommitments_67 rfl ?_
          refine lv_goto (tgt := 72) hx hb d_M_sameCommitments_68 rfl ?_
          refine lv_istore_n (lv' := [(1, .int 1), (2, .int (nI k)), (0, .ref (am 0))]) hx hb d_M_sameCommitments_72 rfl hl (by decide) rfl (fun ls hl => ?_)
          have hl : lv_has ls 3 [(1, .int (zb (smAll ar (k + 1)))), (2, .int (nI k)), (0, .ref (am 0))] := by rw [hq]; exact hl
          refine lv_iinc (k := 1) (v := nI (k + 1)) (lv' := [(2, .int (nI (k + 1))), (1, .int (zb (smAll ar (k + 1)))), (0, .ref (am 0))]) hx hb d_M_sameCommitments_73 hl rfl (nI_1 _) (by decide) rfl (fun ls hl => ?_)
          refine lv_goto (tgt := 4) hx hb d_M_sameCommitments_76 rfl ?_
          have hl := lv_sub (l' := [(2, .int (nI (k + 1))), (1, .int (zb (smAll ar (k + 1)))), (0, .ref (am 0))]) hl [0, 1, 2] rfl
          exact ih (k + 1) (by omega) ls hl
        · skip
          have hp := (pairB_t (zb_ne h41)).2
          refine lv_aload_n hx hb d_M_sameCommitments_44 rfl (lv_at hl 2 rfl) ?_
          refine mm_get hx hb hts hown hK hP (index := 49) 13 (by decide) mf_M_49 (v := .ref (am 14)) rfl d_M_sameCommitments_45 ?_
          refine lv_iconst (v := 2) hx hb d_M_sameCommitments_48 rfl ?_
          refine lv_iload_n hx hb d_M_sameCommitments_49 rfl (lv_at hl 0 rfl) ?_
          refine lv_imul hx hb d_M_sameCommitments_50 ?_
          refine zz_as (y := nI (2 * k)) (pk_mul 2 k) ?_
          refine lv_iconst (v := 1) hx hb d_M_sameCommitments_51 rfl ?_
          refine lv_iadd hx hb d_M_sameCommitments_52 ?_
          refine zz_as (y := nI ((2 * k) + 1)) (nI_add (2 * k) 1) ?_
          refine mm_ald hx hb hK hP 13 (by decide) rfl ((2 * k) + 1) rfl (show (2 * k) + 1 < 16 from by omega) (ar 14 ((2 * k) + 1)) (rfl) d_M_sameCommitments_53 ?_
          refine lv_aload_n hx hb d_M_sameCommitments_54 rfl (lv_at hl 2 rfl) ?_
          refine mm_get hx hb hts hown hK hP (index := 58) 16 (by decide) mf_M_58 (v := .ref (am 17)) rfl d_M_sameCommitments_55 ?_
          refine lv_iconst (v := 2) hx hb d_M_sameCommitments_58 rfl ?_
          refine lv_iload_n hx hb d_M_sameCommitments_59 rfl (lv_at hl 0 rfl) ?_
          refine lv_imul hx hb d_M_sameCommitments_60 ?_
          refine zz_as (y := nI (2 * k)) (pk_mul 2 k) ?_
          refine lv_iconst (v := 1) hx hb d_M_sameCommitments_61 rfl ?_
          refine lv_iadd hx hb d_M_sameCommitments_62 ?_
          refine zz_as (y := nI ((2 * k) + 1)) (nI_add (2 * k) 1) ?_
          refine mm_ald hx hb hK hP 16 (by decide) rfl ((2 * k) + 1) rfl (show (2 * k) + 1 < 16 from by omega) (ar 17 ((2 * k) + 1)) (rfl) d_M_sameCommitments_63 ?_
          refine lv_icmp_ne (tgt := 71) hx hb d_M_sameCommitments_64 rfl (fun h64 => ?_) (fun h64 => ?_)
          · skip
            have e1 : ¬ ar 14 (2 * k + 1) = ar 17 (2 * k + 1) := fun q => h64 (by rw [q])
            have hq : smAll ar (k + 1) = false := by show (smAll ar k && smB ar k) = false; unfold smB; rw [decide_eq_false e1, decide_eq_true hp, Bool.not_true, Bool.or_false, Bool.and_false, Bool.and_false]
            refine lv_iconst (v := 0) hx hb d_M_sameCommitments_71 rfl ?_
            refine lv_istore_n (lv' := [(1, .int 0), (2, .int (nI k)), (0, .ref (am 0))]) hx hb d_M_sameCommitments_72 rfl hl (by decide) rfl (fun ls hl => ?_)
            have hl : lv_has ls 3 [(1, .int (zb (smAll ar (k + 1)))), (2, .int (nI k)), (0, .ref (am 0))] := by rw [hq]; exact hl
            refine lv_iinc (k := 1) (v := nI (k + 1)) (lv' := [(2, .int (nI (k + 1))), (1, .int (zb (smAll ar (k + 1)))), (0, .ref (am 0))]) hx hb d_M_sameCommitments_73 hl rfl (nI_1 _) (by decide) rfl (fun ls hl => ?_)
            refine lv_goto (tgt := 4) hx hb d_M_sameCommitments_76 rfl ?_
            have hl := lv_sub (l' := [(2, .int (nI (k + 1))), (1, .int (zb (smAll ar (k + 1)))), (0, .ref (am 0))]) hl [0, 1, 2] rfl
            exact ih (k + 1) (by omega) ls hl
          · skip
            have e1 : ar 14 (2 * k + 1) = ar 17 (2 * k + 1) := (zn_inj (by omega) (by omega)).mp h64
            have hq : smAll ar (k + 1) = true := by show (smAll ar k && smB ar k) = true; unfold smB; rw [hs, decide_eq_true e0, decide_eq_true e1, Bool.or_true]; rfl
            refine lv_iconst (v := 1) hx hb d_M_sameCommitments_67 rfl ?_
            refine lv_goto (tgt := 72) hx hb d_M_sameCommitments_68 rfl ?_
            refine lv_istore_n (lv' := [(1, .int 1), (2, .int (nI k)), (0, .ref (am 0))]) hx hb d_M_sameCommitments_72 rfl hl (by decide) rfl (fun ls hl => ?_)
            have hl : lv_has ls 3 [(1, .int (zb (smAll ar (k + 1)))), (2, .int (nI k)), (0, .ref (am 0))] := by rw [hq]; exact hl
            refine lv_iinc (k := 1) (v := nI (k + 1)) (lv' := [(2, .int (nI (k + 1))), (1, .int (zb (smAll ar (k + 1)))), (0, .ref (am 0))]) hx hb d_M_sameCommitments_73 hl rfl (nI_1 _) (by decide) rfl (fun ls hl => ?_)
            refine lv_goto (tgt := 4) hx hb d_M_sameCommitments_76 rfl ?_
            have hl := lv_sub (l' := [(2, .int (nI (k + 1))), (1, .int (zb (smAll ar (k + 1)))), (0, .ref (am 0))]) hl [0, 1, 2] rfl
            exact ih (k + 1) (by omega) ls hl
end MQ

set_option maxHeartbeats 4000000 in
set_option maxRecDepth 100000 in
/-- sameCommitments() -/
theorem k_sameM (l : Launch) (D : va_G) (ca : Nat → ClassId) (am : Nat → Nat) (ar : Nat → Nat → Nat) (hI : mI am) (hl2 : ar 0 2 ≤ 8) (hN8 : tN ar) (hbs : ∀ i, i < 16 → ar 11 i < 10007) : Met l y_M_sameCommitments (Cond.code y_M_sameCommitments c_M_sameCommitments 3 (some .boolean) :: zT) ({ frames := 3, cells := 0, slots := 0, locals := 120 }) (va_Pc [.ref (am 0)] (mw D ca am ar)) (QcRead (zb (smAll ar (ar 0 2)))) 0 0 (fun _ => False) := by
  refine Met.ofW (cc := c_M_sameCommitments) (maxL := 3) (ret := (some .boolean)) (by decide) rfl ?_
  intro p e s m args below meth c s₁ B hml hv
  obtain ⟨rfl, hK, hP⟩ := hv
  have hx := B.exec
  have hb := B.bytes
  have hr := B.returns
  have hts0 := atoms_spec (ws := Cond.code y_M_sameCommitments c_M_sameCommitments 3 (some .boolean) :: zT) B.pre
  have hts := fun w h => hts0 w (List.mem_cons_of_mem _ h)
  have hown : s.vm.findClass R_M = some m.cls := findClass_of_methodNamed B.named
  have hlocks := B.notSynchronized
  have hl := lv_entry ([.ref (am 0)]) (n := 3) (Nat.le_of_ble_eq_true rfl)
  rw [lg_entry_eq]
  generalize (lg_sl ([.ref (am 0)]) ++ List.replicate (3 - (lg_sl ([.ref (am 0)])).length) Slot.unset).toArray = ls at hl ⊢
  have hl : lv_has ls 3 [(0, .ref (am 0))] := hl
  refine lv_iconst (v := 1) hx hb d_M_sameCommitments_0 rfl ?_
  refine lv_istore_n (lv' := [(1, .int 1), (0, .ref (am 0))]) hx hb d_M_sameCommitments_1 rfl hl (by decide) rfl (fun ls hl => ?_)
  refine lv_iconst (v := 0) hx hb d_M_sameCommitments_2 rfl ?_
  refine lv_istore_n (lv' := [(2, .int 0), (1, .int 1), (0, .ref (am 0))]) hx hb d_M_sameCommitments_3 rfl hl (by decide) rfl (fun ls hl => ?_)
  have hl : lv_has ls 3 [(2, .int (nI 0)), (1, .int (zb (smAll ar 0))), (0, .ref (am 0))] := hl
  refine same_loop hx hb hml hown hts hK (mI_D hI) hI (fun _ q => q) (by decide) (by decide) (Nat.zero_le _) (Nat.zero_le _) hl2 hN8 hbs hP (fun ls hl => ?_) (ar 0 2) 0 (Nat.zero_add _) ls hl
  refine lv_iload_n hx hb d_M_sameCommitments_79 rfl (lv_at hl 0 rfl) ?_
  exact W.zret hx hb hr (zb_nar _) (fun t ht hW => ⟨rfl, ht⟩) (fun q h => absurd h List.not_mem_nil) d_M_sameCommitments_80
