/-! the desk: hash, isAccepted, verify, sameCommitments, givenAway, extract -/
def hsD (tt bb ee dd : Nat → Nat → Nat) (ln : Nat → Nat) : Nat → Nat
  | 0 => 17
  | i + 1 => mixL (bb (ln i)) (ee (ln i)) (dd 6) (dd 0 (ln i)) (tt 6 (ln i)) (hsD tt bb ee dd ln i)
def hoAll (tt bb ee dd : Nat → Nat → Nat) (ln f : Nat → Nat) : Nat → Bool
  | 0 => true
  | i + 1 => hoAll tt bb ee dd ln f i && holdB (bb (ln i)) (ee (ln i)) f (dd 0 (ln i)) (tt 6 (ln i))
theorem hoAll_f {tt bb ee dd : Nat → Nat → Nat} {ln f : Nat → Nat} {i : Nat} : ∀ j, i < j → holdB (bb (ln i)) (ee (ln i)) f (dd 0 (ln i)) (tt 6 (ln i)) = false → hoAll tt bb ee dd ln f j = false := by
  intro j
  induction j with
  | zero => intro h; omega
  | succ j ih =>
    intro h hf
    show (hoAll tt bb ee dd ln f j && _) = false
    by_cases e : i = j
    · subst e; rw [hf, Bool.and_false]
    · rw [ih (by omega) hf, Bool.false_and]
def smB2 (tt dd : Nat → Nat → Nat) (ln fk : Nat → Nat) (i : Nat) : Bool := decide (dd 6 (i * 4 + 0) = fk (i * 4 + 0)) && (decide (tt 6 (ln i) = 1) || decide (dd 6 (i * 4 + 1) = fk (i * 4 + 1)))
def smAllD (tt dd : Nat → Nat → Nat) (ln fk : Nat → Nat) : Nat → Bool
  | 0 => true
  | i + 1 => smAllD tt dd ln fk i && smB2 tt dd ln fk i
theorem smAllD_f {tt dd : Nat → Nat → Nat} {ln fk : Nat → Nat} {i : Nat} : ∀ j, i < j → smB2 tt dd ln fk i = false → smAllD tt dd ln fk j = false := by
  intro j
  induction j with
  | zero => intro h; omega
  | succ j ih =>
    intro h hf
    show (smAllD tt dd ln fk j && _) = false
    by_cases e : i = j
    · subst e; rw [hf, Bool.and_false]
    · rw [ih (by omega) hf, Bool.false_and]
def gvD (f fk : Nat → Nat) (i : Nat) : Nat := ls5 (f (i * 4 + 3)) (fk (i * 4 + 3)) * (ls5 (f (i * 4 + 2)) (fk (i * 4 + 2)) ^ 5001 % 5003) % 5003
def exD (dd : Nat → Nat → Nat) (ln fk : Nat → Nat) : Nat → Nat → Nat → Nat
  | 0 => dd
  | i + 1 => if dd 6 (i * 4 + 2) = fk (i * 4 + 2) then exD dd ln fk i else zs (zs (exD dd ln fk i) 1 (ln i) 1) 2 (ln i) (gvD (dd 6) fk i)
def exC (dd : Nat → Nat → Nat) (fk : Nat → Nat) : Nat → Nat
  | 0 => 0
  | i + 1 => if dd 6 (i * 4 + 2) = fk (i * 4 + 2) then exC dd fk i else exC dd fk i + 1
theorem exC_le (dd : Nat → Nat → Nat) (fk : Nat → Nat) : ∀ n, exC dd fk n ≤ n := by
  intro n
  induction n with
  | zero => exact Nat.le_refl _
  | succ n ih => unfold exC; split <;> omega
theorem exD_row {dd : Nat → Nat → Nat} {ln fk : Nat → Nat} {j : Nat} (h1 : j ≠ 1) (h2 : j ≠ 2) : ∀ i, exD dd ln fk i j = dd j := by
  intro i
  induction i with
  | zero => rfl
  | succ i ih =>
    show (if _ then _ else _ : Nat → Nat → Nat) j = _
    split
    · exact ih
    · rw [zs_row _ _ _ h2, zs_row _ _ _ h1, ih]
def ftN (f : Nat → Nat) : Prop := ∀ q, q < 32 → f q < 10007 ∧ (q % 4 = 2 ∨ q % 4 = 3 → f q < 5003)

theorem d_D_hash_0 : decode c_D_hash 0 = .ok (.aload_n 0, 1) := by decide +kernel
theorem d_D_hash_1 : decode c_D_hash 1 = .ok (.getfield 19, 3) := by decide +kernel
theorem d_D_hash_4 : decode c_D_hash 4 = .ok (.ifnonnull 6, 3) := by decide +kernel
theorem d_D_hash_7 : decode c_D_hash 7 = .ok (.bipush (-2), 2) := by decide +kernel
theorem d_D_hash_9 : decode c_D_hash 9 = .ok (.ireturn, 1) := by decide +kernel
theorem d_D_hash_10 : decode c_D_hash 10 = .ok (.bipush 17, 2) := by decide +kernel
theorem d_D_hash_12 : decode c_D_hash 12 = .ok (.istore_n 1, 1) := by decide +kernel
theorem d_D_hash_13 : decode c_D_hash 13 = .ok (.iconst 0, 1) := by decide +kernel
theorem d_D_hash_14 : decode c_D_hash 14 = .ok (.istore_n 2, 1) := by decide +kernel
theorem d_D_hash_15 : decode c_D_hash 15 = .ok (.iload_n 2, 1) := by decide +kernel
theorem d_D_hash_16 : decode c_D_hash 16 = .ok (.aload_n 0, 1) := by decide +kernel
theorem d_D_hash_17 : decode c_D_hash 17 = .ok (.getfield 29, 3) := by decide +kernel
theorem d_D_hash_20 : decode c_D_hash 20 = .ok (.if_icmp .ge 24, 3) := by decide +kernel
theorem d_D_hash_23 : decode c_D_hash 23 = .ok (.aload_n 0, 1) := by decide +kernel
theorem d_D_hash_24 : decode c_D_hash 24 = .ok (.getfield 25, 3) := by decide +kernel
theorem d_D_hash_27 : decode c_D_hash 27 = .ok (.iload_n 2, 1) := by decide +kernel
theorem d_D_hash_28 : decode c_D_hash 28 = .ok (.aaload, 1) := by decide +kernel
theorem d_D_hash_29 : decode c_D_hash 29 = .ok (.iload_n 1, 1) := by decide +kernel
theorem d_D_hash_30 : decode c_D_hash 30 = .ok (.aload_n 0, 1) := by decide +kernel
theorem d_D_hash_31 : decode c_D_hash 31 = .ok (.getfield 42, 3) := by decide +kernel
theorem d_D_hash_34 : decode c_D_hash 34 = .ok (.invokevirtual 146, 3) := by decide +kernel
theorem d_D_hash_37 : decode c_D_hash 37 = .ok (.istore_n 1, 1) := by decide +kernel
theorem d_D_hash_38 : decode c_D_hash 38 = .ok (.iinc 2 1, 3) := by decide +kernel
theorem d_D_hash_41 : decode c_D_hash 41 = .ok (.goto (-26), 3) := by decide +kernel
theorem d_D_hash_44 : decode c_D_hash 44 = .ok (.iload_n 1, 1) := by decide +kernel
theorem d_D_hash_45 : decode c_D_hash 45 = .ok (.ldc 152, 2) := by decide +kernel
theorem d_D_hash_47 : decode c_D_hash 47 = .ok (.iand, 1) := by decide +kernel
theorem d_D_hash_48 : decode c_D_hash 48 = .ok (.sipush 5003, 3) := by decide +kernel
theorem d_D_hash_51 : decode c_D_hash 51 = .ok (.irem, 1) := by decide +kernel
theorem d_D_hash_52 : decode c_D_hash 52 = .ok (.ireturn, 1) := by decide +kernel

section DHs
variable {p : Program} {l : Launch} {e : Env} {R : Room} {s : State} {m : MethodId} {args : Array Value} {below : List Frame} {meth : Method} {c : Code} {H0 : Heap} {cells slots : Nat} {Q : State → Prop} {A : Nat → Prop} {D : va_G} {ca : Nat → ClassId} {n : Nat} {ad : Nat → Nat}
set_option maxHeartbeats 4000000 in
set_option maxRecDepth 100000 in
theorem hashD_loop (hx : p.tables.exec = Jvm.exec) (hb : c.code = c_D_hash) (hml : c.maxLocals = 3) (hown : s.vm.findClass R_D = some m.cls) (hts : ∀ w ∈ zT, w.before args s = true) (hN : zN s) (hK : va_K D zC (zty ca) s) (hRf : 3 ≤ R.frames) (hRl : 120 ≤ R.locals) (hc : cells ≤ R.cells) (hsl : slots ≤ R.slots) {tt bb ee : Nat → Nat → Nat} {N : Nat} {dd : Nat → Nat → Nat} {sc : Nat → Nat} {sk rw : Nat → Option Nat} {fk ln : Nat → Nat} {ct : Nat → va_E} (hn0 : 8 ≤ n) (hTS : tS n tt bb ee 4 5 3 N) (hd : dS ca ad tt bb ee N dd sc sk rw fk ln ct) {H : Heap} {locs : List Loc} (hP : va_P D zC (zl n ad ct) H) (kk : ∀ (ls : Array Slot), lv_has ls 3 [(1, .int (nI (hsD tt bb ee dd ln (sc 1))))] → W p l e R s m args below meth c H locs cells slots Q (F0 m 44 ls [])) : ∀ (j i : Nat), i + j = sc 1 → ∀ (ls : Array Slot), lv_has ls 3 [(2, .int (nI i)), (1, .int (nI (hsD tt bb ee dd ln i))), (0, .ref (ad 0))] → W p l e R s m args below meth c H locs cells slots Q (F0 m 15 ls []) := by
  obtain ⟨c0, c1, c2, c6, c7, hTW, hln, hl2⟩ := id hd
  have c4 := hTW.1
  have c5 := hTW.2.1
  have c3 := hTW.2.2.1
  intro j
  induction j with
  | zero =>
    intro i hi ls hl
    obtain rfl : i = sc 1 := by omega
    refine lv_iload_n hx hb d_D_hash_15 rfl (lv_at hl 0 rfl) ?_
    refine lv_aload_n hx hb d_D_hash_16 rfl (lv_at hl 2 rfl) ?_
    refine zz_get (j := 0) (ci := 0) (C := R_D) (T := T_D) (N := 10) hx hb hts in_D hown hK hP (by omega) c0 rfl 4 (by decide) (hts _ mf_D_29) (fun _ h => h) (v := .int (nI (sc 1))) rfl d_D_hash_17 ?_
    refine lv_icmp_ge (tgt := 44) hx hb d_D_hash_20 rfl (fun h20 => ?_) (fun h20 => absurd (Int32.le_refl _) h20)
    have hl := lv_sub (l' := [(1, .int (nI (hsD tt bb ee dd ln (sc 1))))]) hl [1] rfl
    exact kk ls hl
  | succ j ih =>
    intro i hi ls hl
    have hA : i < sc 1 := by omega
    obtain ⟨n1, n2, n3, n4⟩ := hln i hA
    obtain ⟨t1, -, -, t4⟩ := hTS.2.2.2.2 (ln i) n1
    obtain ⟨u1, u2, u3, u4, u5⟩ := t4 n2
    obtain ⟨hcn, hcl⟩ := hTW.2.2.2 (ln i) n1
    have cn := hcn.trans (ndC_0 n2)
    obtain ⟨cb, ce⟩ := hcl n2
    have n8 : dd 0 (ln i) < 8 := by omega
    refine lv_iload_n hx hb d_D_hash_15 rfl (lv_at hl 0 rfl) ?_
    refine lv_aload_n hx hb d_D_hash_16 rfl (lv_at hl 2 rfl) ?_
    refine zz_get (j := 0) (ci := 0) (C := R_D) (T := T_D) (N := 10) hx hb hts in_D hown hK hP (by omega) c0 rfl 4 (by decide) (hts _ mf_D_29) (fun _ h => h) (v := .int (nI (sc 1))) rfl d_D_hash_17 ?_
    refine lv_icmp_ge (tgt := 44) hx hb d_D_hash_20 rfl (fun h20 => absurd h20 (nI_ge hA (by omega))) (fun h20 => ?_)
    refine lv_aload_n hx hb d_D_hash_23 rfl (lv_at hl 2 rfl) ?_
    refine zz_get (j := 0) (ci := 0) (C := R_D) (T := T_D) (N := 10) hx hb hts in_D hown hK hP (by omega) c0 rfl 3 (by decide) (hts _ mf_D_25) (fun _ h => h) (v := .ref (ad 2)) rfl d_D_hash_24 ?_
    refine lv_iload_n hx hb d_D_hash_27 rfl (lv_at hl 0 rfl) ?_
    refine dd_aald hx hb hK hP (j := 2) (by omega) (t0 := 3) (Or.inr rfl) c2 (i) rfl (by omega) (by decide) (v := .ref (ad (tt 3 (ln i)))) (by rw [n4]; rfl) d_D_hash_28 ?_
    refine lv_iload_n hx hb d_D_hash_29 rfl (lv_at hl 1 rfl) ?_
    refine lv_aload_n hx hb d_D_hash_30 rfl (lv_at hl 2 rfl) ?_
    refine zz_get (j := 0) (ci := 0) (C := R_D) (T := T_D) (N := 10) hx hb hts in_D hown hK hP (by omega) c0 rfl 6 (by decide) (hts _ mf_D_42) (fun _ h => h) (v := .ref (ad 4)) rfl d_D_hash_31 ?_
    refine zz_cV (index := 146) (n := 2) (As := [.int (nI (hsD tt bb ee dd ln i)), .ref (ad 4)]) (rest := []) ⟨hx, hb, hml, hown, hts⟩ (k_mixInto l D ca n ad ct (tt 3 (ln i)) (tt 4 (ln i)) (tt 5 (ln i)) (tt 6 (ln i)) (bb (ln i)) (ee (ln i)) (dd 0 (ln i)) (dd 1 (ln i)) (dd 2 (ln i)) (dd 3 (ln i)) t1 u1 u2 u3 cn cb ce 4 5 (dd 6) (by omega) (by omega) c4 c5 n8 (hsD tt bb ee dd ln i)) mk_D_146 mo_F_mixInto me_F_F_mixInto_F mi_F mc_F_mixInto (by decide +kernel) ⟨rfl, rfl⟩ ⟨Nat.le_trans (by decide) hRf, Nat.le_trans (by decide) hRl⟩ (dd_pre hN hK hP (j := tt 3 (ln i)) t1 cn (r := (R_F, T_F, 7)) rfl) rfl hl.1 rfl (Nat.le_of_ble_eq_true rfl) d_D_hash_34 ⟨hc, hsl⟩ ?_
    refine lv_istore_n (lv' := [(1, .int (nI (hsD tt bb ee dd ln (i + 1)))), (2, .int (nI i)), (0, .ref (ad 0))]) hx hb d_D_hash_37 rfl hl (by decide) rfl (fun ls hl => ?_)
    refine lv_iinc (k := 1) (v := nI (i + 1)) (lv' := [(2, .int (nI (i + 1))), (1, .int (nI (hsD tt bb ee dd ln (i + 1)))), (0, .ref (ad 0))]) hx hb d_D_hash_38 hl rfl (nI_1 _) (by decide) rfl (fun ls hl => ?_)
    refine lv_goto (tgt := 15) hx hb d_D_hash_41 rfl ?_
    have hl := lv_sub (l' := [(2, .int (nI (i + 1))), (1, .int (nI (hsD tt bb ee dd ln (i + 1)))), (0, .ref (ad 0))]) hl [0, 1, 2] rfl
    exact ih (i + 1) (by omega) ls hl
end DHs

set_option maxHeartbeats 4000000 in
set_option maxRecDepth 100000 in
/-- hash() -/
theorem k_hashD (l : Launch) (D : va_G) (ca : Nat → ClassId) (n : Nat) (ad : Nat → Nat) (ct : Nat → va_E) (tt bb ee : Nat → Nat → Nat) (N : Nat) (dd : Nat → Nat → Nat) (sc : Nat → Nat) (sk rw : Nat → Option Nat) (fk ln : Nat → Nat) (hn0 : 8 ≤ n) (hTS : tS n tt bb ee 4 5 3 N) (hd : dS ca ad tt bb ee N dd sc sk rw fk ln ct) : Met l y_D_hash (Cond.code y_D_hash c_D_hash 3 (some .int) :: zT) ({ frames := 20, cells := 0, slots := 0, locals := 800 }) (va_Pc [.ref (ad 0)] (dw D ca n ad ct)) (QcRead (if N = 0 then -2 else nI (hsD tt bb ee dd ln (sc 1) % 2147483648 % 5003))) 0 0 (fun _ => False) := by
  refine Met.ofW (cc := c_D_hash) (maxL := 3) (ret := (some .int)) (by decide) rfl ?_
  intro p e s m args below meth c s₁ B hml hv
  obtain ⟨rfl, hN, hK, hP⟩ := hv
  have hx := B.exec
  have hb := B.bytes
  have hr := B.returns
  have hts0 := atoms_spec (ws := Cond.code y_D_hash c_D_hash 3 (some .int) :: zT) B.pre
  have hts := fun w h => hts0 w (List.mem_cons_of_mem _ h)
  have hown : s.vm.findClass R_D = some m.cls := findClass_of_methodNamed B.named
  have hlocks := B.notSynchronized
  obtain ⟨c0, c1, c2, c6, c7, hTW, hln, hl2⟩ := id hd
  have c4 := hTW.1
  have c5 := hTW.2.1
  have c3 := hTW.2.2.1
  have hl := lv_entry ([.ref (ad 0)]) (n := 3) (Nat.le_of_ble_eq_true rfl)
  rw [lg_entry_eq]
  generalize (lg_sl ([.ref (ad 0)]) ++ List.replicate (3 - (lg_sl ([.ref (ad 0)])).length) Slot.unset).toArray = ls at hl ⊢
  have hl : lv_has ls 3 [(0, .ref (ad 0))] := hl
  rcases Nat.eq_zero_or_pos N with hN0 | hN0
  · rw [trV_0 hN0] at c0
    have hq : (if N = 0 then -2 else nI (hsD tt bb ee dd ln (sc 1) % 2147483648 % 5003)) = (-2 : Int32) := by rw [if_pos hN0]
    refine lv_aload_n hx hb d_D_hash_0 rfl (lv_at hl 0 rfl) ?_
    refine zz_get (j := 0) (ci := 0) (C := R_D) (T := T_D) (N := 10) hx hb hts in_D hown hK hP (by omega) c0 rfl 2 (by decide) (hts _ mf_D_19) (fun _ h => h) (v := .null) rfl d_D_hash_1 ?_
    refine lv_ifnonnullN hx hb d_D_hash_4 ?_
    refine lv_bipush (v := (-2)) hx hb d_D_hash_7 rfl ?_
    refine zz_as (y := if N = 0 then -2 else nI (hsD tt bb ee dd ln (sc 1) % 2147483648 % 5003)) (hq.symm) ?_
    exact W.iret hx hb hr (fun t ht hW => ⟨rfl, ht⟩) (fun q h => absurd h List.not_mem_nil) d_D_hash_9
  · have hNs : ¬ N = 0 := by omega
    rw [trV_s hNs] at c0
    have hq : (if N = 0 then -2 else nI (hsD tt bb ee dd ln (sc 1) % 2147483648 % 5003)) = nI (hsD tt bb ee dd ln (sc 1) % 2147483648 % 5003) := by rw [if_neg hNs]
    refine lv_aload_n hx hb d_D_hash_0 rfl (lv_at hl 0 rfl) ?_
    refine zz_get (j := 0) (ci := 0) (C := R_D) (T := T_D) (N := 10) hx hb hts in_D hown hK hP (by omega) c0 rfl 2 (by decide) (hts _ mf_D_19) (fun _ h => h) (v := .ref (ad (tt 3 (N - 1)))) rfl d_D_hash_1 ?_
    refine lv_ifnonnull (tgt := 10) hx hb d_D_hash_4 rfl ?_
    refine lv_bipush (v := 17) hx hb d_D_hash_10 rfl ?_
    refine lv_istore_n (lv' := [(1, .int 17), (0, .ref (ad 0))]) hx hb d_D_hash_12 rfl hl (by decide) rfl (fun ls hl => ?_)
    refine lv_iconst (v := 0) hx hb d_D_hash_13 rfl ?_
    refine lv_istore_n (lv' := [(2, .int 0), (1, .int 17), (0, .ref (ad 0))]) hx hb d_D_hash_14 rfl hl (by decide) rfl (fun ls hl => ?_)
    have hl : lv_has ls 3 [(2, .int (nI 0)), (1, .int (nI (hsD tt bb ee dd ln 0))), (0, .ref (ad 0))] := hl
    refine hashD_loop hx hb hml hown hts hN hK (by decide) (by decide) (Nat.zero_le _) (Nat.zero_le _) hn0 hTS hd hP (fun ls hl => ?_) (sc 1) 0 (Nat.zero_add _) ls hl
    refine lv_iload_n hx hb d_D_hash_44 rfl (lv_at hl 0 rfl) ?_
    refine lv_ldc (v := 2147483647) hx hb hown (hts _ mn_D_152) d_D_hash_45 ?_
    refine lv_iand hx hb d_D_hash_47 ?_
    refine zz_as (y := nI (hsD tt bb ee dd ln (sc 1) % 2147483648)) (zn_and _) ?_
    refine lv_sipush (v := 5003) hx hb d_D_hash_48 rfl ?_
    refine lv_irem hx hb d_D_hash_51 (by decide) ?_
    refine zz_as (y := nI (hsD tt bb ee dd ln (sc 1) % 2147483648 % 5003)) (pk_rem (d := 5003) (Nat.mod_lt _ (by decide)) (by decide) (by decide)) ?_
    refine zz_as (y := if N = 0 then -2 else nI (hsD tt bb ee dd ln (sc 1) % 2147483648 % 5003)) (hq.symm) ?_
    exact W.iret hx hb hr (fun t ht hW => ⟨rfl, ht⟩) (fun q h => absurd h List.not_mem_nil) d_D_hash_52

theorem d_D_isAccepted_0 : decode c_D_isAccepted 0 = .ok (.iconst 0, 1) := by decide +kernel
theorem d_D_isAccepted_1 : decode c_D_isAccepted 1 = .ok (.istore_n 2, 1) := by decide +kernel
theorem d_D_isAccepted_2 : decode c_D_isAccepted 2 = .ok (.iload_n 2, 1) := by decide +kernel
theorem d_D_isAccepted_3 : decode c_D_isAccepted 3 = .ok (.aload_n 0, 1) := by decide +kernel
theorem d_D_isAccepted_4 : decode c_D_isAccepted 4 = .ok (.getfield 29, 3) := by decide +kernel
theorem d_D_isAccepted_7 : decode c_D_isAccepted 7 = .ok (.if_icmp .ge 24, 3) := by decide +kernel
theorem d_D_isAccepted_10 : decode c_D_isAccepted 10 = .ok (.aload_n 0, 1) := by decide +kernel
theorem d_D_isAccepted_11 : decode c_D_isAccepted 11 = .ok (.getfield 25, 3) := by decide +kernel
theorem d_D_isAccepted_14 : decode c_D_isAccepted 14 = .ok (.iload_n 2, 1) := by decide +kernel
theorem d_D_isAccepted_15 : decode c_D_isAccepted 15 = .ok (.aaload, 1) := by decide +kernel
theorem d_D_isAccepted_16 : decode c_D_isAccepted 16 = .ok (.aload_n 1, 1) := by decide +kernel
theorem d_D_isAccepted_17 : decode c_D_isAccepted 17 = .ok (.invokevirtual 185, 3) := by decide +kernel
theorem d_D_isAccepted_20 : decode c_D_isAccepted 20 = .ok (.ifCond .ne 5, 3) := by decide +kernel
theorem d_D_isAccepted_23 : decode c_D_isAccepted 23 = .ok (.iconst 0, 1) := by decide +kernel
theorem d_D_isAccepted_24 : decode c_D_isAccepted 24 = .ok (.ireturn, 1) := by decide +kernel
theorem d_D_isAccepted_25 : decode c_D_isAccepted 25 = .ok (.iinc 2 1, 3) := by decide +kernel
theorem d_D_isAccepted_28 : decode c_D_isAccepted 28 = .ok (.goto (-26), 3) := by decide +kernel
theorem d_D_isAccepted_31 : decode c_D_isAccepted 31 = .ok (.aload_n 0, 1) := by decide +kernel
theorem d_D_isAccepted_32 : decode c_D_isAccepted 32 = .ok (.getfield 19, 3) := by decide +kernel
theorem d_D_isAccepted_35 : decode c_D_isAccepted 35 = .ok (.aload_n 1, 1) := by decide +kernel
theorem d_D_isAccepted_36 : decode c_D_isAccepted 36 = .ok (.invokevirtual 157, 3) := by decide +kernel
theorem d_D_isAccepted_39 : decode c_D_isAccepted 39 = .ok (.iconst (-1), 1) := by decide +kernel
theorem d_D_isAccepted_40 : decode c_D_isAccepted 40 = .ok (.if_icmp .eq 7, 3) := by decide +kernel
theorem d_D_isAccepted_43 : decode c_D_isAccepted 43 = .ok (.iconst 1, 1) := by decide +kernel
theorem d_D_isAccepted_44 : decode c_D_isAccepted 44 = .ok (.goto 4, 3) := by decide +kernel
theorem d_D_isAccepted_47 : decode c_D_isAccepted 47 = .ok (.iconst 0, 1) := by decide +kernel
theorem d_D_isAccepted_48 : decode c_D_isAccepted 48 = .ok (.ireturn, 1) := by decide +kernel

section DIs
variable {p : Program} {l : Launch} {e : Env} {R : Room} {s : State} {m : MethodId} {args : Array Value} {below : List Frame} {meth : Method} {c : Code} {H0 : Heap} {cells slots : Nat} {Q : State → Prop} {A : Nat → Prop} {D : va_G} {ca : Nat → ClassId} {n : Nat} {ad : Nat → Nat}
set_option maxHeartbeats 4000000 in
set_option maxRecDepth 100000 in
theorem isAccD_loop (hx : p.tables.exec = Jvm.exec) (hb : c.code = c_D_isAccepted) (hml : c.maxLocals = 3) (hown : s.vm.findClass R_D = some m.cls) (hts : ∀ w ∈ zT, w.before args s = true) (hN : zN s) (hK : va_K D zC (zty ca) s) (hRf : 3 ≤ R.frames) (hRl : 120 ≤ R.locals) (hc : cells ≤ R.cells) (hsl : slots ≤ R.slots) {tt bb ee : Nat → Nat → Nat} {N : Nat} {dd : Nat → Nat → Nat} {sc : Nat → Nat} {sk rw : Nat → Option Nat} {fk ln : Nat → Nat} {ct : Nat → va_E} (hn0 : 8 ≤ n) (hTS : tS n tt bb ee 4 5 3 N) (hd : dS ca ad tt bb ee N dd sc sk rw fk ln ct) {jt kt : Nat} {f : Nat → Nat} (hjt : jt < n) (hkt : kt < n) (c8 : ct jt = .inr (5, [.ref (ad kt)])) (c9 : ct kt = .inl (ca 0, 32, .inl (zf f))) (hft : ftN f) {H : Heap} {locs : List Loc} (hP : va_P D zC (zl n ad ct) H) (k0 : ∀ (ls : Array Slot), hoAll tt bb ee dd ln f (sc 1) = false → W p l e R s m args below meth c H locs cells slots Q (F0 m 23 ls [])) (kk : ∀ (ls : Array Slot), hoAll tt bb ee dd ln f (sc 1) = true → lv_has ls 3 [(0, .ref (ad 0)), (1, .ref (ad jt))] → W p l e R s m args below meth c H locs cells slots Q (F0 m 31 ls [])) : ∀ (j i : Nat), i + j = sc 1 → hoAll tt bb ee dd ln f i = true → ∀ (ls : Array Slot), lv_has ls 3 [(2, .int (nI i)), (0, .ref (ad 0)), (1, .ref (ad jt))] → W p l e R s m args below meth c H locs cells slots Q (F0 m 2 ls []) := by
  obtain ⟨c0, c1, c2, c6, c7, hTW, hln, hl2⟩ := id hd
  have c4 := hTW.1
  have c5 := hTW.2.1
  have c3 := hTW.2.2.1
  intro j
  induction j with
  | zero =>
    intro i hi hh ls hl
    obtain rfl : i = sc 1 := by omega
    refine lv_iload_n hx hb d_D_isAccepted_2 rfl (lv_at hl 0 rfl) ?_
    refine lv_aload_n hx hb d_D_isAccepted_3 rfl (lv_at hl 1 rfl) ?_
    refine zz_get (j := 0) (ci := 0) (C := R_D) (T := T_D) (N := 10) hx hb hts in_D hown hK hP (by omega) c0 rfl 4 (by decide) (hts _ mf_D_29) (fun _ h => h) (v := .int (nI (sc 1))) rfl d_D_isAccepted_4 ?_
    refine lv_icmp_ge (tgt := 31) hx hb d_D_isAccepted_7 rfl (fun h7 => ?_) (fun h7 => absurd (Int32.le_refl _) h7)
    have hl := lv_sub (l' := [(0, .ref (ad 0)), (1, .ref (ad jt))]) hl [1, 2] rfl
    exact kk ls hh hl
  | succ j ih =>
    intro i hi hh ls hl
    have hA : i < sc 1 := by omega
    obtain ⟨n1, n2, n3, n4⟩ := hln i hA
    obtain ⟨t1, -, -, t4⟩ := hTS.2.2.2.2 (ln i) n1
    obtain ⟨u1, u2, u3, u4, u5⟩ := t4 n2
    obtain ⟨hcn, hcl⟩ := hTW.2.2.2 (ln i) n1
    have cn := hcn.trans (ndC_0 n2)
    obtain ⟨cb, ce⟩ := hcl n2
    have n8 : dd 0 (ln i) < 8 := by omega
    refine lv_iload_n hx hb d_D_isAccepted_2 rfl (lv_at hl 0 rfl) ?_
    refine lv_aload_n hx hb d_D_isAccepted_3 rfl (lv_at hl 1 rfl) ?_
    refine zz_get (j := 0) (ci := 0) (C := R_D) (T := T_D) (N := 10) hx hb hts in_D hown hK hP (by omega) c0 rfl 4 (by decide) (hts _ mf_D_29) (fun _ h => h) (v := .int (nI (sc 1))) rfl d_D_isAccepted_4 ?_
    refine lv_icmp_ge (tgt := 31) hx hb d_D_isAccepted_7 rfl (fun h7 => absurd h7 (nI_ge hA (by omega))) (fun h7 => ?_)
    refine lv_aload_n hx hb d_D_isAccepted_10 rfl (lv_at hl 1 rfl) ?_
    refine zz_get (j := 0) (ci := 0) (C := R_D) (T := T_D) (N := 10) hx hb hts in_D hown hK hP (by omega) c0 rfl 3 (by decide) (hts _ mf_D_25) (fun _ h => h) (v := .ref (ad 2)) rfl d_D_isAccepted_11 ?_
    refine lv_iload_n hx hb d_D_isAccepted_14 rfl (lv_at hl 0 rfl) ?_
    refine dd_aald hx hb hK hP (j := 2) (by omega) (t0 := 3) (Or.inr rfl) c2 (i) rfl (by omega) (by decide) (v := .ref (ad (tt 3 (ln i)))) (by rw [n4]; rfl) d_D_isAccepted_15 ?_
    refine lv_aload_n hx hb d_D_isAccepted_16 rfl (lv_at hl 2 rfl) ?_
    refine zz_cV (index := 185) (n := 1) (As := [.ref (ad jt)]) (rest := []) ⟨hx, hb, hml, hown, hts⟩ (k_holdsIn l D ca n ad ct (tt 3 (ln i)) (tt 4 (ln i)) (tt 5 (ln i)) (tt 6 (ln i)) (bb (ln i)) (ee (ln i)) (dd 0 (ln i)) (dd 1 (ln i)) (dd 2 (ln i)) (dd 3 (ln i)) t1 u1 u2 u3 cn cb ce u4 u5 jt kt f hjt hkt c8 c9 n8 hft) mk_D_185 mo_F_holdsIn me_F_F_holdsIn_F mi_F mc_F_holdsIn (by decide +kernel) ⟨rfl, rfl⟩ ⟨Nat.le_trans (by decide) hRf, Nat.le_trans (by decide) hRl⟩ (dd_pre hN hK hP (j := tt 3 (ln i)) t1 cn (r := (R_F, T_F, 7)) rfl) rfl hl.1 rfl (Nat.le_of_ble_eq_true rfl) d_D_isAccepted_17 ⟨hc, hsl⟩ ?_
    refine lv_if_ne (tgt := 25) hx hb d_D_isAccepted_20 rfl (fun h20 => ?_) (fun h20 => ?_)
    · skip
      have hh1 : hoAll tt bb ee dd ln f (i + 1) = true := by show (hoAll tt bb ee dd ln f i && holdB (bb (ln i)) (ee (ln i)) f (dd 0 (ln i)) (tt 6 (ln i))) = true; rw [hh, zb_ne h20]; rfl
      refine lv_iinc (k := 0) (v := nI (i + 1)) (lv' := [(2, .int (nI (i + 1))), (0, .ref (ad 0)), (1, .ref (ad jt))]) hx hb d_D_isAccepted_25 hl rfl (nI_1 _) (by decide) rfl (fun ls hl => ?_)
      refine lv_goto (tgt := 2) hx hb d_D_isAccepted_28 rfl ?_
      have hl := lv_sub (l' := [(2, .int (nI (i + 1))), (0, .ref (ad 0)), (1, .ref (ad jt))]) hl [0, 1, 2] rfl
      exact ih (i + 1) (by omega) hh1 ls hl
    · skip
      exact k0 ls (hoAll_f _ hA (zb_eq h20))
end DIs

set_option maxHeartbeats 4000000 in
set_option maxRecDepth 100000 in
/-- isAccepted(t) -/
theorem k_isAcceptedD (l : Launch) (D : va_G) (ca : Nat → ClassId) (n : Nat) (ad : Nat → Nat) (ct : Nat → va_E) (tt bb ee : Nat → Nat → Nat) (N : Nat) (dd : Nat → Nat → Nat) (sc : Nat → Nat) (sk rw : Nat → Option Nat) (fk ln : Nat → Nat) (hn0 : 8 ≤ n) (hTS : tS n tt bb ee 4 5 3 N) (hd : dS ca ad tt bb ee N dd sc sk rw fk ln ct) (h8 : ∀ k, k < N → 8 ≤ tt 3 k) (hN15 : N ≤ 15) (jt kt : Nat) (f : Nat → Nat) (hjt : jt < n) (hkt : kt < n) (c8 : ct jt = .inr (5, [.ref (ad kt)])) (c9 : ct kt = .inl (ca 0, 32, .inl (zf f))) (hft : ftN f) (hTSk : tS n tt bb ee jt kt 3 N) (hTWk : tW ca ad tt bb ee jt kt 3 N (va_up dd 6 f) ct) (hnm : ∀ k, k < N → tt 0 k = 0 → dd 0 k < 8) (V : Nat → Nat) (hVe : ∀ k, k < N → V k = dV tt (va_up dd 6 f) V k) (hVb : vB V N) (hNs : ¬ N = 0) : Met l y_D_isAccepted (Cond.code y_D_isAccepted c_D_isAccepted 3 (some .boolean) :: zT) ({ frames := 20, cells := 0, slots := 0, locals := 800 }) (va_Pc [.ref (ad 0), .ref (ad jt)] (dw D ca n ad ct)) (QcRead (zb (hoAll tt bb ee dd ln f (sc 1) && !decide (V (N - 1) = 4294967295)))) 0 0 (fun _ => False) := by
  refine Met.ofW (cc := c_D_isAccepted) (maxL := 3) (ret := (some .boolean)) (by decide) rfl ?_
  intro p e s m args below meth c s₁ B hml hv
  obtain ⟨rfl, hN, hK, hP⟩ := hv
  have hx := B.exec
  have hb := B.bytes
  have hr := B.returns
  have hts0 := atoms_spec (ws := Cond.code y_D_isAccepted c_D_isAccepted 3 (some .boolean) :: zT) B.pre
  have hts := fun w h => hts0 w (List.mem_cons_of_mem _ h)
  have hown : s.vm.findClass R_D = some m.cls := findClass_of_methodNamed B.named
  have hlocks := B.notSynchronized
  obtain ⟨c0, c1, c2, c6, c7, hTW, hln, hl2⟩ := id hd
  have c4 := hTW.1
  have c5 := hTW.2.1
  have c3 := hTW.2.2.1
  rw [trV_s hNs] at c0
  have hl := lv_entry ([.ref (ad 0), .ref (ad jt)]) (n := 3) (Nat.le_of_ble_eq_true rfl)
  rw [lg_entry_eq]
  generalize (lg_sl ([.ref (ad 0), .ref (ad jt)]) ++ List.replicate (3 - (lg_sl ([.ref (ad 0), .ref (ad jt)])).length) Slot.unset).toArray = ls at hl ⊢
  have hl : lv_has ls 3 [(0, .ref (ad 0)), (1, .ref (ad jt))] := hl
  have vb := hVb (N - 1) (by omega)
  refine lv_iconst (v := 0) hx hb d_D_isAccepted_0 rfl ?_
  refine lv_istore_n (lv' := [(2, .int 0), (0, .ref (ad 0)), (1, .ref (ad jt))]) hx hb d_D_isAccepted_1 rfl hl (by decide) rfl (fun ls hl => ?_)
  have hl : lv_has ls 3 [(2, .int (nI 0)), (0, .ref (ad 0)), (1, .ref (ad jt))] := hl
  refine isAccD_loop hx hb hml hown hts hN hK (by decide) (by decide) (Nat.zero_le _) (Nat.zero_le _) hn0 hTS hd hjt hkt c8 c9 hft hP (fun ls hh => ?_) (fun ls hh hl => ?_) (sc 1) 0 (Nat.zero_add _) rfl ls hl
  · skip
    have hq : (hoAll tt bb ee dd ln f (sc 1) && !decide (V (N - 1) = 4294967295)) = false := by rw [hh, Bool.false_and]
    refine lv_iconst (v := 0) hx hb d_D_isAccepted_23 rfl ?_
    refine zz_as (y := zb (hoAll tt bb ee dd ln f (sc 1) && !decide (V (N - 1) = 4294967295))) (by rw [hq]; rfl) ?_
    exact W.zret hx hb hr (zb_nar _) (fun t ht hW => ⟨rfl, ht⟩) (fun q h => absurd h List.not_mem_nil) d_D_isAccepted_24
  · skip
    refine lv_aload_n hx hb d_D_isAccepted_31 rfl (lv_at hl 0 rfl) ?_
    refine zz_get (j := 0) (ci := 0) (C := R_D) (T := T_D) (N := 10) hx hb hts in_D hown hK hP (by omega) c0 rfl 2 (by decide) (hts _ mf_D_19) (fun _ h => h) (v := .ref (ad (tt 3 (N - 1)))) rfl d_D_isAccepted_32 ?_
    refine lv_aload_n hx hb d_D_isAccepted_35 rfl (lv_at hl 1 rfl) ?_
    refine dsp_challengeIn (k := N - 1) (index := 157) (rest := []) ⟨hx, hb, hml, hown, hts⟩ hN hK hP hTSk hTWk (by omega) (challenge_all l hTSk hTWk hnm V hVe hVb (N - 1) (by omega)) mk_D_157 (show 4 + (N - 1) ≤ 20 by omega) (show 40 * (4 + (N - 1)) ≤ 800 by omega) hl.1 (Nat.le_of_ble_eq_true rfl) d_D_isAccepted_36 ⟨Nat.zero_le _, Nat.zero_le _⟩ ?_
    refine lv_iconst (v := (-1)) hx hb d_D_isAccepted_39 rfl ?_
    refine lv_icmp_eq (tgt := 47) hx hb d_D_isAccepted_40 rfl (fun h40 => ?_) (fun h40 => ?_)
    · skip
      have e1 : V (N - 1) = 4294967295 := (zn_inj (by omega) (by decide)).mp (h40.trans zn_m1.symm)
      have hq : (hoAll tt bb ee dd ln f (sc 1) && !decide (V (N - 1) = 4294967295)) = false := by rw [decide_eq_true e1, Bool.not_true, Bool.and_false]
      refine lv_iconst (v := 0) hx hb d_D_isAccepted_47 rfl ?_
      refine zz_as (y := zb (hoAll tt bb ee dd ln f (sc 1) && !decide (V (N - 1) = 4294967295))) (by rw [hq]; rfl) ?_
      exact W.zret hx hb hr (zb_nar _) (fun t ht hW => ⟨rfl, ht⟩) (fun q h => absurd h List.not_mem_nil) d_D_isAccepted_48
    · skip
      have e1 : ¬ V (N - 1) = 4294967295 := fun q => h40 (by rw [q]; exact zn_m1)
      have hq : (hoAll tt bb ee dd ln f (sc 1) && !decide (V (N - 1) = 4294967295)) = true := by rw [hh, decide_eq_false e1]; rfl
      refine lv_iconst (v := 1) hx hb d_D_isAccepted_43 rfl ?_
      refine lv_goto (tgt := 48) hx hb d_D_isAccepted_44 rfl ?_
      refine zz_as (y := zb (hoAll tt bb ee dd ln f (sc 1) && !decide (V (N - 1) = 4294967295))) (by rw [hq]; rfl) ?_
      exact W.zret hx hb hr (zb_nar _) (fun t ht hW => ⟨rfl, ht⟩) (fun q h => absurd h List.not_mem_nil) d_D_isAccepted_48

theorem d_D_verify_0 : decode c_D_verify 0 = .ok (.aload_n 0, 1) := by decide +kernel
theorem d_D_verify_1 : decode c_D_verify 1 = .ok (.getfield 19, 3) := by decide +kernel
theorem d_D_verify_4 : decode c_D_verify 4 = .ok (.ifnull 18, 3) := by decide +kernel
theorem d_D_verify_7 : decode c_D_verify 7 = .ok (.aload_n 0, 1) := by decide +kernel
theorem d_D_verify_8 : decode c_D_verify 8 = .ok (.aload_n 0, 1) := by decide +kernel
theorem d_D_verify_9 : decode c_D_verify 9 = .ok (.getfield 42, 3) := by decide +kernel
theorem d_D_verify_12 : decode c_D_verify 12 = .ok (.invokevirtual 153, 3) := by decide +kernel
theorem d_D_verify_15 : decode c_D_verify 15 = .ok (.ifCond .eq 7, 3) := by decide +kernel
theorem d_D_verify_18 : decode c_D_verify 18 = .ok (.iconst 1, 1) := by decide +kernel
theorem d_D_verify_19 : decode c_D_verify 19 = .ok (.goto 4, 3) := by decide +kernel
theorem d_D_verify_22 : decode c_D_verify 22 = .ok (.iconst 0, 1) := by decide +kernel
theorem d_D_verify_23 : decode c_D_verify 23 = .ok (.ireturn, 1) := by decide +kernel

theorem va_up_d6 (dd : Nat → Nat → Nat) : va_up dd 6 (dd 6) = dd := va_up_row dd 6

set_option maxHeartbeats 4000000 in
set_option maxRecDepth 100000 in
/-- verify() -/
theorem k_verifyD (l : Launch) (D : va_G) (ca : Nat → ClassId) (n : Nat) (ad : Nat → Nat) (ct : Nat → va_E) (tt bb ee : Nat → Nat → Nat) (N : Nat) (dd : Nat → Nat → Nat) (sc : Nat → Nat) (sk rw : Nat → Option Nat) (fk ln : Nat → Nat) (hn0 : 8 ≤ n) (hTS : tS n tt bb ee 4 5 3 N) (hd : dS ca ad tt bb ee N dd sc sk rw fk ln ct) (h8 : ∀ k, k < N → 8 ≤ tt 3 k) (hN15 : N ≤ 15) (hft : ftN (dd 6)) (hnm : ∀ k, k < N → tt 0 k = 0 → dd 0 k < 8) (V : Nat → Nat) (hVe : ∀ k, k < N → V k = dV tt dd V k) (hVb : vB V N) : Met l y_D_verify (Cond.code y_D_verify c_D_verify 1 (some .boolean) :: zT) ({ frames := 21, cells := 0, slots := 0, locals := 840 }) (va_Pc [.ref (ad 0)] (dw D ca n ad ct)) (QcRead (zb (decide (0 < N) && (hoAll tt bb ee dd ln (dd 6) (sc 1) && !decide (V (N - 1) = 4294967295))))) 0 0 (fun _ => False) := by
  refine Met.ofW (cc := c_D_verify) (maxL := 1) (ret := (some .boolean)) (by decide) rfl ?_
  intro p e s m args below meth c s₁ B hml hv
  obtain ⟨rfl, hN, hK, hP⟩ := hv
  have hx := B.exec
  have hb := B.bytes
  have hr := B.returns
  have hts0 := atoms_spec (ws := Cond.code y_D_verify c_D_verify 1 (some .boolean) :: zT) B.pre
  have hts := fun w h => hts0 w (List.mem_cons_of_mem _ h)
  have hown : s.vm.findClass R_D = some m.cls := findClass_of_methodNamed B.named
  have hlocks := B.notSynchronized
  obtain ⟨c0, c1, c2, c6, c7, hTW, hln, hl2⟩ := id hd
  have c4 := hTW.1
  have c5 := hTW.2.1
  have c3 := hTW.2.2.1
  have hl := lv_entry ([.ref (ad 0)]) (n := 1) (Nat.le_of_ble_eq_true rfl)
  rw [lg_entry_eq]
  generalize (lg_sl ([.ref (ad 0)]) ++ List.replicate (1 - (lg_sl ([.ref (ad 0)])).length) Slot.unset).toArray = ls at hl ⊢
  have hl : lv_has ls 1 [(0, .ref (ad 0))] := hl
  rcases Nat.eq_zero_or_pos N with hN0 | hN0
  · rw [trV_0 hN0] at c0
    have hq : (decide (0 < N) && (hoAll tt bb ee dd ln (dd 6) (sc 1) && !decide (V (N - 1) = 4294967295))) = false := by rw [decide_eq_false (by omega), Bool.false_and]
    refine lv_aload_n hx hb d_D_verify_0 rfl (lv_at hl 0 rfl) ?_
    refine zz_get (j := 0) (ci := 0) (C := R_D) (T := T_D) (N := 10) hx hb hts in_D hown hK hP (by omega) c0 rfl 2 (by decide) (hts _ mf_D_19) (fun _ h => h) (v := .null) rfl d_D_verify_1 ?_
    refine lv_ifnullN (tgt := 22) hx hb d_D_verify_4 rfl ?_
    refine lv_iconst (v := 0) hx hb d_D_verify_22 rfl ?_
    refine zz_as (y := zb (decide (0 < N) && (hoAll tt bb ee dd ln (dd 6) (sc 1) && !decide (V (N - 1) = 4294967295)))) (by rw [hq]; rfl) ?_
    exact W.zret hx hb hr (zb_nar _) (fun t ht hW => ⟨rfl, ht⟩) (fun q h => absurd h List.not_mem_nil) d_D_verify_23
  · have hNs : ¬ N = 0 := by omega
    rw [trV_s hNs] at c0
    refine lv_aload_n hx hb d_D_verify_0 rfl (lv_at hl 0 rfl) ?_
    refine zz_get (j := 0) (ci := 0) (C := R_D) (T := T_D) (N := 10) hx hb hts in_D hown hK hP (by omega) c0 rfl 2 (by decide) (hts _ mf_D_19) (fun _ h => h) (v := .ref (ad (tt 3 (N - 1)))) rfl d_D_verify_1 ?_
    refine lv_ifnull hx hb d_D_verify_4 ?_
    refine lv_aload_n hx hb d_D_verify_7 rfl (lv_at hl 0 rfl) ?_
    refine lv_aload_n hx hb d_D_verify_8 rfl (lv_at hl 0 rfl) ?_
    refine zz_get (j := 0) (ci := 0) (C := R_D) (T := T_D) (N := 10) hx hb hts in_D hown hK hP (by omega) c0 rfl 6 (by decide) (hts _ mf_D_42) (fun _ h => h) (v := .ref (ad 4)) rfl d_D_verify_9 ?_
    refine zz_cV (index := 153) (n := 1) (As := [.ref (ad 4)]) (rest := []) ⟨hx, hb, hml, hown, hts⟩ (k_isAcceptedD l D ca n ad ct tt bb ee N dd sc sk rw fk ln hn0 hTS hd h8 hN15 4 5 (dd 6) (by omega) (by omega) c4 c5 hft hTS (by rw [va_up_d6]; exact hTW) hnm V (by rw [va_up_d6]; exact hVe) hVb hNs) mk_D_153 mo_D_isAccepted me_D_D_isAccepted_D mi_D mc_D_isAccepted (by decide +kernel) ⟨rfl, rfl⟩ ⟨by decide, by decide⟩ (dd_pre hN hK hP (j := 0) (by omega) c0 (r := (R_D, T_D, 10)) rfl) rfl hl.1 rfl (Nat.le_of_ble_eq_true rfl) d_D_verify_12 ⟨Nat.zero_le _, Nat.zero_le _⟩ ?_
    refine lv_if_eq (tgt := 22) hx hb d_D_verify_15 rfl (fun h15 => ?_) (fun h15 => ?_)
    · skip
      have hq : (decide (0 < N) && (hoAll tt bb ee dd ln (dd 6) (sc 1) && !decide (V (N - 1) = 4294967295))) = false := by rw [zb_eq h15, Bool.and_false]
      refine lv_iconst (v := 0) hx hb d_D_verify_22 rfl ?_
      refine zz_as (y := zb (decide (0 < N) && (hoAll tt bb ee dd ln (dd 6) (sc 1) && !decide (V (N - 1) = 4294967295)))) (by rw [hq]; rfl) ?_
      exact W.zret hx hb hr (zb_nar _) (fun t ht hW => ⟨rfl, ht⟩) (fun q h => absurd h List.not_mem_nil) d_D_verify_23
    · skip
      have hq : (decide (0 < N) && (hoAll tt bb ee dd ln (dd 6) (sc 1) && !decide (V (N - 1) = 4294967295))) = true := by rw [decide_eq_true hN0, zb_ne h15]; rfl
      refine lv_iconst (v := 1) hx hb d_D_verify_18 rfl ?_
      refine lv_goto (tgt := 23) hx hb d_D_verify_19 rfl ?_
      refine zz_as (y := zb (decide (0 < N) && (hoAll tt bb ee dd ln (dd 6) (sc 1) && !decide (V (N - 1) = 4294967295)))) (by rw [hq]; rfl) ?_
      exact W.zret hx hb hr (zb_nar _) (fun t ht hW => ⟨rfl, ht⟩) (fun q h => absurd h List.not_mem_nil) d_D_verify_23

theorem d_D_sameCommitments_0 : decode c_D_sameCommitments 0 = .ok (.iconst 0, 1) := by decide +kernel
theorem d_D_sameCommitments_1 : decode c_D_sameCommitments 1 = .ok (.istore_n 1, 1) := by decide +kernel
theorem d_D_sameCommitments_2 : decode c_D_sameCommitments 2 = .ok (.iload_n 1, 1) := by decide +kernel
theorem d_D_sameCommitments_3 : decode c_D_sameCommitments 3 = .ok (.aload_n 0, 1) := by decide +kernel
theorem d_D_sameCommitments_4 : decode c_D_sameCommitments 4 = .ok (.getfield 29, 3) := by decide +kernel
theorem d_D_sameCommitments_7 : decode c_D_sameCommitments 7 = .ok (.if_icmp .ge 53, 3) := by decide +kernel
theorem d_D_sameCommitments_10 : decode c_D_sameCommitments 10 = .ok (.iconst 0, 1) := by decide +kernel
theorem d_D_sameCommitments_11 : decode c_D_sameCommitments 11 = .ok (.istore_n 2, 1) := by decide +kernel
theorem d_D_sameCommitments_12 : decode c_D_sameCommitments 12 = .ok (.iload_n 2, 1) := by decide +kernel
theorem d_D_sameCommitments_13 : decode c_D_sameCommitments 13 = .ok (.aload_n 0, 1) := by decide +kernel
theorem d_D_sameCommitments_14 : decode c_D_sameCommitments 14 = .ok (.getfield 25, 3) := by decide +kernel
theorem d_D_sameCommitments_17 : decode c_D_sameCommitments 17 = .ok (.iload_n 1, 1) := by decide +kernel
theorem d_D_sameCommitments_18 : decode c_D_sameCommitments 18 = .ok (.aaload, 1) := by decide +kernel
theorem d_D_sameCommitments_19 : decode c_D_sameCommitments 19 = .ok (.invokevirtual 182, 3) := by decide +kernel
theorem d_D_sameCommitments_22 : decode c_D_sameCommitments 22 = .ok (.if_icmp .ge 32, 3) := by decide +kernel
theorem d_D_sameCommitments_25 : decode c_D_sameCommitments 25 = .ok (.aload_n 0, 1) := by decide +kernel
theorem d_D_sameCommitments_26 : decode c_D_sameCommitments 26 = .ok (.getfield 42, 3) := by decide +kernel
theorem d_D_sameCommitments_29 : decode c_D_sameCommitments 29 = .ok (.iload_n 1, 1) := by decide +kernel
theorem d_D_sameCommitments_30 : decode c_D_sameCommitments 30 = .ok (.iload_n 2, 1) := by decide +kernel
theorem d_D_sameCommitments_31 : decode c_D_sameCommitments 31 = .ok (.invokevirtual 164, 3) := by decide +kernel
theorem d_D_sameCommitments_34 : decode c_D_sameCommitments 34 = .ok (.aload_n 0, 1) := by decide +kernel
theorem d_D_sameCommitments_35 : decode c_D_sameCommitments 35 = .ok (.getfield 46, 3) := by decide +kernel
theorem d_D_sameCommitments_38 : decode c_D_sameCommitments 38 = .ok (.iload_n 1, 1) := by decide +kernel
theorem d_D_sameCommitments_39 : decode c_D_sameCommitments 39 = .ok (.iload_n 2, 1) := by decide +kernel
theorem d_D_sameCommitments_40 : decode c_D_sameCommitments 40 = .ok (.invokevirtual 164, 3) := by decide +kernel
theorem d_D_sameCommitments_43 : decode c_D_sameCommitments 43 = .ok (.if_icmp .eq 5, 3) := by decide +kernel
theorem d_D_sameCommitments_46 : decode c_D_sameCommitments 46 = .ok (.iconst 0, 1) := by decide +kernel
theorem d_D_sameCommitments_47 : decode c_D_sameCommitments 47 = .ok (.ireturn, 1) := by decide +kernel
theorem d_D_sameCommitments_48 : decode c_D_sameCommitments 48 = .ok (.iinc 2 1, 3) := by decide +kernel
theorem d_D_sameCommitments_51 : decode c_D_sameCommitments 51 = .ok (.goto (-39), 3) := by decide +kernel
theorem d_D_sameCommitments_54 : decode c_D_sameCommitments 54 = .ok (.iinc 1 1, 3) := by decide +kernel
theorem d_D_sameCommitments_57 : decode c_D_sameCommitments 57 = .ok (.goto (-55), 3) := by decide +kernel
theorem d_D_sameCommitments_60 : decode c_D_sameCommitments 60 = .ok (.iconst 1, 1) := by decide +kernel
theorem d_D_sameCommitments_61 : decode c_D_sameCommitments 61 = .ok (.ireturn, 1) := by decide +kernel

section DSm
variable {p : Program} {l : Launch} {e : Env} {R : Room} {s : State} {m : MethodId} {args : Array Value} {below : List Frame} {meth : Method} {c : Code} {H0 : Heap} {cells slots : Nat} {Q : State → Prop} {A : Nat → Prop} {D : va_G} {ca : Nat → ClassId} {n : Nat} {ad : Nat → Nat}
set_option maxHeartbeats 4000000 in
set_option maxRecDepth 100000 in
theorem sameD_loop (hx : p.tables.exec = Jvm.exec) (hb : c.code = c_D_sameCommitments) (hml : c.maxLocals = 3) (hown : s.vm.findClass R_D = some m.cls) (hts : ∀ w ∈ zT, w.before args s = true) (hN : zN s) (hK : va_K D zC (zty ca) s) (hRf : 3 ≤ R.frames) (hRl : 120 ≤ R.locals) (hc : cells ≤ R.cells) (hsl : slots ≤ R.slots) {tt bb ee : Nat → Nat → Nat} {N : Nat} {dd : Nat → Nat → Nat} {sc : Nat → Nat} {sk rw : Nat → Option Nat} {fk ln : Nat → Nat} {ct : Nat → va_E} (hn0 : 8 ≤ n) (hTS : tS n tt bb ee 4 5 3 N) (hd : dS ca ad tt bb ee N dd sc sk rw fk ln ct) (hf1 : ftN (dd 6)) (hf2 : ftN fk) {H : Heap} {locs : List Loc} (hP : va_P D zC (zl n ad ct) H) (k0 : ∀ (ls : Array Slot), smAllD tt dd ln fk (sc 1) = false → W p l e R s m args below meth c H locs cells slots Q (F0 m 46 ls [])) (kk : ∀ (ls : Array Slot), smAllD tt dd ln fk (sc 1) = true → W p l e R s m args below meth c H locs cells slots Q (F0 m 60 ls [])) : ∀ (j i : Nat), i + j = sc 1 → smAllD tt dd ln fk i = true → ∀ (ls : Array Slot), lv_has ls 3 [(1, .int (nI i)), (0, .ref (ad 0))] → W p l e R s m args below meth c H locs cells slots Q (F0 m 2 ls []) := by
  obtain ⟨c0, c1, c2, c6, c7, hTW, hln, hl2⟩ := id hd
  have c4 := hTW.1
  have c5 := hTW.2.1
  have c3 := hTW.2.2.1
  intro j
  induction j with
  | zero =>
    intro i hi hh ls hl
    obtain rfl : i = sc 1 := by omega
    refine lv_iload_n hx hb d_D_sameCommitments_2 rfl (lv_at hl 0 rfl) ?_
    refine lv_aload_n hx hb d_D_sameCommitments_3 rfl (lv_at hl 1 rfl) ?_
    refine zz_get (j := 0) (ci := 0) (C := R_D) (T := T_D) (N := 10) hx hb hts in_D hown hK hP (by omega) c0 rfl 4 (by decide) (hts _ mf_D_29) (fun _ h => h) (v := .int (nI (sc 1))) rfl d_D_sameCommitments_4 ?_
    refine lv_icmp_ge (tgt := 60) hx hb d_D_sameCommitments_7 rfl (fun h7 => ?_) (fun h7 => absurd (Int32.le_refl _) h7)
    exact kk ls hh
  | succ j ih =>
    intro i hi hh ls hl
    have hA : i < sc 1 := by omega
    have x0 := (hf1 (i * 4 + 0) (by omega)).1
    have x1 := (hf1 (i * 4 + 1) (by omega)).1
    have y0 := (hf2 (i * 4 + 0) (by omega)).1
    have y1 := (hf2 (i * 4 + 1) (by omega)).1
    obtain ⟨n1, n2, n3, n4⟩ := hln i hA
    obtain ⟨t1, -, -, t4⟩ := hTS.2.2.2.2 (ln i) n1
    obtain ⟨u1, u2, u3, u4, u5⟩ := t4 n2
    obtain ⟨hcn, hcl⟩ := hTW.2.2.2 (ln i) n1
    have cn := hcn.trans (ndC_0 n2)
    obtain ⟨cb, ce⟩ := hcl n2
    have hnp : tt 6 (ln i) = 1 ∨ tt 6 (ln i) = 2 := u3
    rcases hnp with np | np
    · skip
      refine lv_iload_n hx hb d_D_sameCommitments_2 rfl (lv_at hl 0 rfl) ?_
      refine lv_aload_n hx hb d_D_sameCommitments_3 rfl (lv_at hl 1 rfl) ?_
      refine zz_get (j := 0) (ci := 0) (C := R_D) (T := T_D) (N := 10) hx hb hts in_D hown hK hP (by omega) c0 rfl 4 (by decide) (hts _ mf_D_29) (fun _ h => h) (v := .int (nI (sc 1))) rfl d_D_sameCommitments_4 ?_
      refine lv_icmp_ge (tgt := 60) hx hb d_D_sameCommitments_7 rfl (fun h7 => absurd h7 (nI_ge hA (by omega))) (fun h7 => ?_)
      refine lv_iconst (v := 0) hx hb d_D_sameCommitments_10 rfl ?_
      refine lv_istore_n (lv' := [(2, .int 0), (1, .int (nI i)), (0, .ref (ad 0))]) hx hb d_D_sameCommitments_11 rfl hl (by decide) rfl (fun ls hl => ?_)
      have hl : lv_has ls 3 [(2, .int 0), (1, .int (nI i)), (0, .ref (ad 0))] := hl
      refine lv_iload_n hx hb d_D_sameCommitments_12 rfl (lv_at hl 0 rfl) ?_
      refine lv_aload_n hx hb d_D_sameCommitments_13 rfl (lv_at hl 2 rfl) ?_
      refine zz_get (j := 0) (ci := 0) (C := R_D) (T := T_D) (N := 10) hx hb hts in_D hown hK hP (by omega) c0 rfl 3 (by decide) (hts _ mf_D_25) (fun _ h => h) (v := .ref (ad 2)) rfl d_D_sameCommitments_14 ?_
      refine lv_iload_n hx hb d_D_sameCommitments_17 rfl (lv_at hl 1 rfl) ?_
      refine dd_aald hx hb hK hP (j := 2) (by omega) (t0 := 3) (Or.inr rfl) c2 (i) rfl (by omega) (by decide) (v := .ref (ad (tt 3 (ln i)))) (by rw [n4]; rfl) d_D_sameCommitments_18 ?_
      refine zz_cV (index := 182) (n := 0) (As := []) (rest := [.int 0]) ⟨hx, hb, hml, hown, hts⟩ (k_pairs l D ca n ad ct (tt 3 (ln i)) (tt 4 (ln i)) (tt 5 (ln i)) (tt 6 (ln i)) (bb (ln i)) (ee (ln i)) (dd 0 (ln i)) (dd 1 (ln i)) (dd 2 (ln i)) (dd 3 (ln i)) t1 u1 u2 u3 cn cb ce) mk_D_182 mo_F_pairs me_F_F_pairs_F mi_F mc_F_pairs (by decide +kernel) ⟨rfl, rfl⟩ ⟨Nat.le_trans (by decide) hRf, Nat.le_trans (by decide) hRl⟩ (dd_pre hN hK hP (j := tt 3 (ln i)) t1 cn (r := (R_F, T_F, 7)) rfl) rfl hl.1 rfl (Nat.le_of_ble_eq_true rfl) d_D_sameCommitments_19 ⟨hc, hsl⟩ ?_
      refine zz_as (y := nI 1) (by rw [np]) ?_
      refine lv_icmp_ge (tgt := 54) hx hb d_D_sameCommitments_22 rfl (fun h22 => absurd h22 (by decide)) (fun h22 => ?_)
      refine lv_aload_n hx hb d_D_sameCommitments_25 rfl (lv_at hl 2 rfl) ?_
      refine zz_get (j := 0) (ci := 0) (C := R_D) (T := T_D) (N := 10) hx hb hts in_D hown hK hP (by omega) c0 rfl 6 (by decide) (hts _ mf_D_42) (fun _ h => h) (v := .ref (ad 4)) rfl d_D_sameCommitments_26 ?_
      refine lv_iload_n hx hb d_D_sameCommitments_29 rfl (lv_at hl 1 rfl) ?_
      refine lv_iload_n hx hb d_D_sameCommitments_30 rfl (lv_at hl 0 rfl) ?_
      refine zz_cV (index := 164) (n := 2) (As := [.int (nI i), .int 0]) (rest := []) ⟨hx, hb, hml, hown, hts⟩ (k_get l D ca n ad ct 4 5 (dd 6) (by omega) (by omega) c4 c5 i 0 (by omega)) mk_D_164 mo_T_get me_T_T_get_T mi_T mc_T_get (by decide +kernel) ⟨rfl, rfl⟩ ⟨Nat.le_trans (by decide) hRf, Nat.le_trans (by decide) hRl⟩ (dd_pre hN hK hP (j := 4) (by omega) c4 (r := (R_T, T_T, 1)) rfl) rfl hl.1 rfl (Nat.le_of_ble_eq_true rfl) d_D_sameCommitments_31 ⟨hc, hsl⟩ ?_
      refine lv_aload_n hx hb d_D_sameCommitments_34 rfl (lv_at hl 2 rfl) ?_
      refine zz_get (j := 0) (ci := 0) (C := R_D) (T := T_D) (N := 10) hx hb hts in_D hown hK hP (by omega) c0 rfl 7 (by decide) (hts _ mf_D_46) (fun _ h => h) (v := .ref (ad 6)) rfl d_D_sameCommitments_35 ?_
      refine lv_iload_n hx hb d_D_sameCommitments_38 rfl (lv_at hl 1 rfl) ?_
      refine lv_iload_n hx hb d_D_sameCommitments_39 rfl (lv_at hl 0 rfl) ?_
      refine zz_cV (index := 164) (n := 2) (As := [.int (nI i), .int 0]) (rest := [.int (nI (dd 6 (i * 4 + 0)))]) ⟨hx, hb, hml, hown, hts⟩ (k_get l D ca n ad ct 6 7 fk (by omega) (by omega) c6 c7 i 0 (by omega)) mk_D_164 mo_T_get me_T_T_get_T mi_T mc_T_get (by decide +kernel) ⟨rfl, rfl⟩ ⟨Nat.le_trans (by decide) hRf, Nat.le_trans (by decide) hRl⟩ (dd_pre hN hK hP (j := 6) (by omega) c6 (r := (R_T, T_T, 1)) rfl) rfl hl.1 rfl (Nat.le_of_ble_eq_true rfl) d_D_sameCommitments_40 ⟨hc, hsl⟩ ?_
      refine lv_icmp_eq (tgt := 48) hx hb d_D_sameCommitments_43 rfl (fun h43 => ?_) (fun h43 => ?_)
      · skip
        have e0 : dd 6 (i * 4 + 0) = fk (i * 4 + 0) := (zn_inj (by omega) (by omega)).mp h43
        refine lv_iinc (k := 0) (v := nI (0 + 1)) (lv' := [(2, .int (nI (0 + 1))), (1, .int (nI i)), (0, .ref (ad 0))]) hx hb d_D_sameCommitments_48 hl rfl (nI_1 _) (by decide) rfl (fun ls hl => ?_)
        refine lv_goto (tgt := 12) hx hb d_D_sameCommitments_51 rfl ?_
        have hl : lv_has ls 3 [(2, .int 1), (1, .int (nI i)), (0, .ref (ad 0))] := hl
        refine lv_iload_n hx hb d_D_sameCommitments_12 rfl (lv_at hl 0 rfl) ?_
        refine lv_aload_n hx hb d_D_sameCommitments_13 rfl (lv_at hl 2 rfl) ?_
        refine zz_get (j := 0) (ci := 0) (C := R_D) (T := T_D) (N := 10) hx hb hts in_D hown hK hP (by omega) c0 rfl 3 (by decide) (hts _ mf_D_25) (fun _ h => h) (v := .ref (ad 2)) rfl d_D_sameCommitments_14 ?_
        refine lv_iload_n hx hb d_D_sameCommitments_17 rfl (lv_at hl 1 rfl) ?_
        refine dd_aald hx hb hK hP (j := 2) (by omega) (t0 := 3) (Or.inr rfl) c2 (i) rfl (by omega) (by decide) (v := .ref (ad (tt 3 (ln i)))) (by rw [n4]; rfl) d_D_sameCommitments_18 ?_
        refine zz_cV (index := 182) (n := 0) (As := []) (rest := [.int 1]) ⟨hx, hb, hml, hown, hts⟩ (k_pairs l D ca n ad ct (tt 3 (ln i)) (tt 4 (ln i)) (tt 5 (ln i)) (tt 6 (ln i)) (bb (ln i)) (ee (ln i)) (dd 0 (ln i)) (dd 1 (ln i)) (dd 2 (ln i)) (dd 3 (ln i)) t1 u1 u2 u3 cn cb ce) mk_D_182 mo_F_pairs me_F_F_pairs_F mi_F mc_F_pairs (by decide +kernel) ⟨rfl, rfl⟩ ⟨Nat.le_trans (by decide) hRf, Nat.le_trans (by decide) hRl⟩ (dd_pre hN hK hP (j := tt 3 (ln i)) t1 cn (r := (R_F, T_F, 7)) rfl) rfl hl.1 rfl (Nat.le_of_ble_eq_true rfl) d_D_sameCommitments_19 ⟨hc, hsl⟩ ?_
        refine zz_as (y := nI 1) (by rw [np]) ?_
        refine lv_icmp_ge (tgt := 54) hx hb d_D_sameCommitments_22 rfl (fun h22 => ?_) (fun h22 => absurd (by decide) h22)
        refine lv_iinc (k := 1) (v := nI (i + 1)) (lv' := [(1, .int (nI (i + 1))), (2, .int 1), (0, .ref (ad 0))]) hx hb d_D_sameCommitments_54 hl rfl (nI_1 _) (by decide) rfl (fun ls hl => ?_)
        refine lv_goto (tgt := 2) hx hb d_D_sameCommitments_57 rfl ?_
        have hh1 : smAllD tt dd ln fk (i + 1) = true := by show (smAllD tt dd ln fk i && smB2 tt dd ln fk i) = true; rw [hh]; unfold smB2; rw [decide_eq_true e0, decide_eq_true np]; rfl
        have hl := lv_sub (l' := [(1, .int (nI (i + 1))), (0, .ref (ad 0))]) hl [0, 2] rfl
        exact ih (i + 1) (by omega) hh1 ls hl
      · skip
        have e0 : ¬ dd 6 (i * 4 + 0) = fk (i * 4 + 0) := fun q => h43 (by rw [q])
        exact k0 ls (smAllD_f _ hA (by unfold smB2; rw [decide_eq_false e0, Bool.false_and]))
    · skip
      refine lv_iload_n hx hb d_D_sameCommitments_2 rfl (lv_at hl 0 rfl) ?_
      refine lv_aload_n hx hb d_D_sameCommitments_3 rfl (lv_at hl 1 rfl) ?_
      refine zz_get (j := 0) (ci := 0) (C := R_D) (T := T_D) (N := 10) hx hb hts in_D hown hK hP (by omega) c0 rfl 4 (by decide) (hts _ mf_D_29) (fun _ h => h) (v := .int (nI (sc 1))) rfl d_D_sameCommitments_4 ?_
      refine lv_icmp_ge (tgt := 60) hx hb d_D_sameCommitments_7 rfl (fun h7 => absurd h7 (nI_ge hA (by omega))) (fun h7 => ?_)
      refine lv_iconst (v := 0) hx hb d_D_sameCommitments_10 rfl ?_
      refine lv_istore_n (lv' := [(2, .int 0), (1, .int (nI i)), (0, .ref (ad 0))]) hx hb d_D_sameCommitments_11 rfl hl (by decide) rfl (fun ls hl => ?_)
      have hl : lv_has ls 3 [(2, .int 0), (1, .int (nI i)), (0, .ref (ad 0))] := hl
      refine lv_iload_n hx hb d_D_sameCommitments_12 rfl (lv_at hl 0 rfl) ?_
      refine lv_aload_n hx hb d_D_sameCommitments_13 rfl (lv_at hl 2 rfl) ?_
      refine zz_get (j := 0) (ci := 0) (C := R_D) (T := T_D) (N := 10) hx hb hts in_D hown hK hP (by omega) c0 rfl 3 (by decide) (hts _ mf_D_25) (fun _ h => h) (v := .ref (ad 2)) rfl d_D_sameCommitments_14 ?_
      refine lv_iload_n hx hb d_D_sameCommitments_17 rfl (lv_at hl 1 rfl) ?_
      refine dd_aald hx hb hK hP (j := 2) (by omega) (t0 := 3) (Or.inr rfl) c2 (i) rfl (by omega) (by decide) (v := .ref (ad (tt 3 (ln i)))) (by rw [n4]; rfl) d_D_sameCommitments_18 ?_
      refine zz_cV (index := 182) (n := 0) (As := []) (rest := [.int 0]) ⟨hx, hb, hml, hown, hts⟩ (k_pairs l D ca n ad ct (tt 3 (ln i)) (tt 4 (ln i)) (tt 5 (ln i)) (tt 6 (ln i)) (bb (ln i)) (ee (ln i)) (dd 0 (ln i)) (dd 1 (ln i)) (dd 2 (ln i)) (dd 3 (ln i)) t1 u1 u2 u3 cn cb ce) mk_D_182 mo_F_pairs me_F_F_pairs_F mi_F mc_F_pairs (by decide +kernel) ⟨rfl, rfl⟩ ⟨Nat.le_trans (by decide) hRf, Nat.le_trans (by decide) hRl⟩ (dd_pre hN hK hP (j := tt 3 (ln i)) t1 cn (r := (R_F, T_F, 7)) rfl) rfl hl.1 rfl (Nat.le_of_ble_eq_true rfl) d_D_sameCommitments_19 ⟨hc, hsl⟩ ?_
      refine zz_as (y := nI 2) (by rw [np]) ?_
      refine lv_icmp_ge (tgt := 54) hx hb d_D_sameCommitments_22 rfl (fun h22 => absurd h22 (by decide)) (fun h22 => ?_)
      refine lv_aload_n hx hb d_D_sameCommitments_25 rfl (lv_at hl 2 rfl) ?_
      refine zz_get (j := 0) (ci := 0) (C := R_D) (T := T_D) (N := 10) hx hb hts in_D hown hK hP (by omega) c0 rfl 6 (by decide) (hts _ mf_D_42) (fun _ h => h) (v := .ref (ad 4)) rfl d_D_sameCommitments_26 ?_
      refine lv_iload_n hx hb d_D_sameCommitments_29 rfl (lv_at hl 1 rfl) ?_
      refine lv_iload_n hx hb d_D_sameCommitments_30 rfl (lv_at hl 0 rfl) ?_
      refine zz_cV (index := 164) (n := 2) (As := [.int (nI i), .int 0]) (rest := []) ⟨hx, hb, hml, hown, hts⟩ (k_get l D ca n ad ct 4 5 (dd 6) (by omega) (by omega) c4 c5 i 0 (by omega)) mk_D_164 mo_T_get me_T_T_get_T mi_T mc_T_get (by decide +kernel) ⟨rfl, rfl⟩ ⟨Nat.le_trans (by decide) hRf, Nat.le_trans (by decide) hRl⟩ (dd_pre hN hK hP (j := 4) (by omega) c4 (r := (R_T, T_T, 1)) rfl) rfl hl.1 rfl (Nat.le_of_ble_eq_true rfl) d_D_sameCommitments_31 ⟨hc, hsl⟩ ?_
      refine lv_aload_n hx hb d_D_sameCommitments_34 rfl (lv_at hl 2 rfl) ?_
      refine zz_get (j := 0) (ci := 0) (C := R_D) (T := T_D) (N := 10) hx hb hts in_D hown hK hP (by omega) c0 rfl 7 (by decide) (hts _ mf_D_46) (fun _ h => h) (v := .ref (ad 6)) rfl d_D_sameCommitments_35 ?_
      refine lv_iload_n hx hb d_D_sameCommitments_38 rfl (lv_at hl 1 rfl) ?_
      refine lv_iload_n hx hb d_D_sameCommitments_39 rfl (lv_at hl 0 rfl) ?_
      refine zz_cV (index := 164) (n := 2) (As := [.int (nI i), .int 0]) (rest := [.int (nI (dd 6 (i * 4 + 0)))]) ⟨hx, hb, hml, hown, hts⟩ (k_get l D ca n ad ct 6 7 fk (by omega) (by omega) c6 c7 i 0 (by omega)) mk_D_164 mo_T_get me_T_T_get_T mi_T mc_T_get (by decide +kernel) ⟨rfl, rfl⟩ ⟨Nat.le_trans (by decide) hRf, Nat.le_trans (by decide) hRl⟩ (dd_pre hN hK hP (j := 6) (by omega) c6 (r := (R_T, T_T, 1)) rfl) rfl hl.1 rfl (Nat.le_of_ble_eq_true rfl) d_D_sameCommitments_40 ⟨hc, hsl⟩ ?_
      refine lv_icmp_eq (tgt := 48) hx hb d_D_sameCommitments_43 rfl (fun h43 => ?_) (fun h43 => ?_)
      · skip
        have e0 : dd 6 (i * 4 + 0) = fk (i * 4 + 0) := (zn_inj (by omega) (by omega)).mp h43
        refine lv_iinc (k := 0) (v := nI (0 + 1)) (lv' := [(2, .int (nI (0 + 1))), (1, .int (nI i)), (0, .ref (ad 0))]) hx hb d_D_sameCommitments_48 hl rfl (nI_1 _) (by decide) rfl (fun ls hl => ?_)
        refine lv_goto (tgt := 12) hx hb d_D_sameCommitments_51 rfl ?_
        have hl : lv_has ls 3 [(2, .int 1), (1, .int (nI i)), (0, .ref (ad 0))] := hl
        refine lv_iload_n hx hb d_D_sameCommitments_12 rfl (lv_at hl 0 rfl) ?_
        refine lv_aload_n hx hb d_D_sameCommitments_13 rfl (lv_at hl 2 rfl) ?_
        refine zz_get (j := 0) (ci := 0) (C := R_D) (T := T_D) (N := 10) hx hb hts in_D hown hK hP (by omega) c0 rfl 3 (by decide) (hts _ mf_D_25) (fun _ h => h) (v := .ref (ad 2)) rfl d_D_sameCommitments_14 ?_
        refine lv_iload_n hx hb d_D_sameCommitments_17 rfl (lv_at hl 1 rfl) ?_
        refine dd_aald hx hb hK hP (j := 2) (by omega) (t0 := 3) (Or.inr rfl) c2 (i) rfl (by omega) (by decide) (v := .ref (ad (tt 3 (ln i)))) (by rw [n4]; rfl) d_D_sameCommitments_18 ?_
        refine zz_cV (index := 182) (n := 0) (As := []) (rest := [.int 1]) ⟨hx, hb, hml, hown, hts⟩ (k_pairs l D ca n ad ct (tt 3 (ln i)) (tt 4 (ln i)) (tt 5 (ln i)) (tt 6 (ln i)) (bb (ln i)) (ee (ln i)) (dd 0 (ln i)) (dd 1 (ln i)) (dd 2 (ln i)) (dd 3 (ln i)) t1 u1 u2 u3 cn cb ce) mk_D_182 mo_F_pairs me_F_F_pairs_F mi_F mc_F_pairs (by decide +kernel) ⟨rfl, rfl⟩ ⟨Nat.le_trans (by decide) hRf, Nat.le_trans (by decide) hRl⟩ (dd_pre hN hK hP (j := tt 3 (ln i)) t1 cn (r := (R_F, T_F, 7)) rfl) rfl hl.1 rfl (Nat.le_of_ble_eq_true rfl) d_D_sameCommitments_19 ⟨hc, hsl⟩ ?_
        refine zz_as (y := nI 2) (by rw [np]) ?_
        refine lv_icmp_ge (tgt := 54) hx hb d_D_sameCommitments_22 rfl (fun h22 => absurd h22 (by decide)) (fun h22 => ?_)
        refine lv_aload_n hx hb d_D_sameCommitments_25 rfl (lv_at hl 2 rfl) ?_
        refine zz_get (j := 0) (ci := 0) (C := R_D) (T := T_D) (N := 10) hx hb hts in_D hown hK hP (by omega) c0 rfl 6 (by decide) (hts _ mf_D_42) (fun _ h => h) (v := .ref (ad 4)) rfl d_D_sameCommitments_26 ?_
        refine lv_iload_n hx hb d_D_sameCommitments_29 rfl (lv_at hl 1 rfl) ?_
        refine lv_iload_n hx hb d_D_sameCommitments_30 rfl (lv_at hl 0 rfl) ?_
        refine zz_cV (index := 164) (n := 2) (As := [.int (nI i), .int 1]) (rest := []) ⟨hx, hb, hml, hown, hts⟩ (k_get l D ca n ad ct 4 5 (dd 6) (by omega) (by omega) c4 c5 i 1 (by omega)) mk_D_164 mo_T_get me_T_T_get_T mi_T mc_T_get (by decide +kernel) ⟨rfl, rfl⟩ ⟨Nat.le_trans (by decide) hRf, Nat.le_trans (by decide) hRl⟩ (dd_pre hN hK hP (j := 4) (by omega) c4 (r := (R_T, T_T, 1)) rfl) rfl hl.1 rfl (Nat.le_of_ble_eq_true rfl) d_D_sameCommitments_31 ⟨hc, hsl⟩ ?_
        refine lv_aload_n hx hb d_D_sameCommitments_34 rfl (lv_at hl 2 rfl) ?_
        refine zz_get (j := 0) (ci := 0) (C := R_D) (T := T_D) (N := 10) hx hb hts in_D hown hK hP (by omega) c0 rfl 7 (by decide) (hts _ mf_D_46) (fun _ h => h) (v := .ref (ad 6)) rfl d_D_sameCommitments_35 ?_
        refine lv_iload_n hx hb d_D_sameCommitments_38 rfl (lv_at hl 1 rfl) ?_
        refine lv_iload_n hx hb d_D_sameCommitments_39 rfl (lv_at hl 0 rfl) ?_
        refine zz_cV (index := 164) (n := 2) (As := [.int (nI i), .int 1]) (rest := [.int (nI (dd 6 (i * 4 + 1)))]) ⟨hx, hb, hml, hown, hts⟩ (k_get l D ca n ad ct 6 7 fk (by omega) (by omega) c6 c7 i 1 (by omega)) mk_D_164 mo_T_get me_T_T_get_T mi_T mc_T_get (by decide +kernel) ⟨rfl, rfl⟩ ⟨Nat.le_trans (by decide) hRf, Nat.le_trans (by decide) hRl⟩ (dd_pre hN hK hP (j := 6) (by omega) c6 (r := (R_T, T_T, 1)) rfl) rfl hl.1 rfl (Nat.le_of_ble_eq_true rfl) d_D_sameCommitments_40 ⟨hc, hsl⟩ ?_
        refine lv_icmp_eq (tgt := 48) hx hb d_D_sameCommitments_43 rfl (fun h43 => ?_) (fun h43 => ?_)
        · skip
          have e1 : dd 6 (i * 4 + 1) = fk (i * 4 + 1) := (zn_inj (by omega) (by omega)).mp h43
          refine lv_iinc (k := 0) (v := nI (1 + 1)) (lv' := [(2, .int (nI (1 + 1))), (1, .int (nI i)), (0, .ref (ad 0))]) hx hb d_D_sameCommitments_48 hl rfl (nI_1 _) (by decide) rfl (fun ls hl => ?_)
          refine lv_goto (tgt := 12) hx hb d_D_sameCommitments_51 rfl ?_
          have hl : lv_has ls 3 [(2, .int 2), (1, .int (nI i)), (0, .ref (ad 0))] := hl
          refine lv_iload_n hx hb d_D_sameCommitments_12 rfl (lv_at hl 0 rfl) ?_
          refine lv_aload_n hx hb d_D_sameCommitments_13 rfl (lv_at hl 2 rfl) ?_
          refine zz_get (j := 0) (ci := 0) (C := R_D) (T := T_D) (N := 10) hx hb hts in_D hown hK hP (by omega) c0 rfl 3 (by decide) (hts _ mf_D_25) (fun _ h => h) (v := .ref (ad 2)) rfl d_D_sameCommitments_14 ?_
          refine lv_iload_n hx hb d_D_sameCommitments_17 rfl (lv_at hl 1 rfl) ?_
          refine dd_aald hx hb hK hP (j := 2) (by omega) (t0 := 3) (Or.inr rfl) c2 (i) rfl (by omega) (by decide) (v := .ref (ad (tt 3 (ln i)))) (by rw [n4]; rfl) d_D_sameCommitments_18 ?_
          refine zz_cV (index := 182) (n := 0) (As := []) (rest := [.int 2]) ⟨hx, hb, hml, hown, hts⟩ (k_pairs l D ca n ad ct (tt 3 (ln i)) (tt 4 (ln i)) (tt 5 (ln i)) (tt 6 (ln i)) (bb (ln i)) (ee (ln i)) (dd 0 (ln i)) (dd 1 (ln i)) (dd 2 (ln i)) (dd 3 (ln i)) t1 u1 u2 u3 cn cb ce) mk_D_182 mo_F_pairs me_F_F_pairs_F mi_F mc_F_pairs (by decide +kernel) ⟨rfl, rfl⟩ ⟨Nat.le_trans (by decide) hRf, Nat.le_trans (by decide) hRl⟩ (dd_pre hN hK hP (j := tt 3 (ln i)) t1 cn (r := (R_F, T_F, 7)) rfl) rfl hl.1 rfl (Nat.le_of_ble_eq_true rfl) d_D_sameCommitments_19 ⟨hc, hsl⟩ ?_
          refine zz_as (y := nI 2) (by rw [np]) ?_
          refine lv_icmp_ge (tgt := 54) hx hb d_D_sameCommitments_22 rfl (fun h22 => ?_) (fun h22 => absurd (by decide) h22)
          refine lv_iinc (k := 1) (v := nI (i + 1)) (lv' := [(1, .int (nI (i + 1))), (2, .int 2), (0, .ref (ad 0))]) hx hb d_D_sameCommitments_54 hl rfl (nI_1 _) (by decide) rfl (fun ls hl => ?_)
          refine lv_goto (tgt := 2) hx hb d_D_sameCommitments_57 rfl ?_
          have hh1 : smAllD tt dd ln fk (i + 1) = true := by show (smAllD tt dd ln fk i && smB2 tt dd ln fk i) = true; rw [hh]; unfold smB2; rw [decide_eq_true e0, decide_eq_true e1, Bool.or_true]; rfl
          have hl := lv_sub (l' := [(1, .int (nI (i + 1))), (0, .ref (ad 0))]) hl [0, 2] rfl
          exact ih (i + 1) (by omega) hh1 ls hl
        · skip
          have e1 : ¬ dd 6 (i * 4 + 1) = fk (i * 4 + 1) := fun q => h43 (by rw [q])
          exact k0 ls (smAllD_f _ hA (by unfold smB2; rw [decide_eq_false e1, decide_eq_false (show ¬ tt 6 (ln i) = 1 by omega), Bool.or_false, Bool.and_false]))
      · skip
        have e0 : ¬ dd 6 (i * 4 + 0) = fk (i * 4 + 0) := fun q => h43 (by rw [q])
        exact k0 ls (smAllD_f _ hA (by unfold smB2; rw [decide_eq_false e0, Bool.false_and]))
end DSm

set_option maxHeartbeats 4000000 in
set_option maxRecDepth 100000 in
/-- sameCommitments() -/
theorem k_sameD (l : Launch) (D : va_G) (ca : Nat → ClassId) (n : Nat) (ad : Nat → Nat) (ct : Nat → va_E) (tt bb ee : Nat → Nat → Nat) (N : Nat) (dd : Nat → Nat → Nat) (sc : Nat → Nat) (sk rw : Nat → Option Nat) (fk ln : Nat → Nat) (hn0 : 8 ≤ n) (hTS : tS n tt bb ee 4 5 3 N) (hd : dS ca ad tt bb ee N dd sc sk rw fk ln ct) (hf1 : ftN (dd 6)) (hf2 : ftN fk) : Met l y_D_sameCommitments (Cond.code y_D_sameCommitments c_D_sameCommitments 3 (some .boolean) :: zT) ({ frames := 3, cells := 0, slots := 0, locals := 120 }) (va_Pc [.ref (ad 0)] (dw D ca n ad ct)) (QcRead (zb (smAllD tt dd ln fk (sc 1)))) 0 0 (fun _ => False) := by
  refine Met.ofW (cc := c_D_sameCommitments) (maxL := 3) (ret := (some .boolean)) (by decide) rfl ?_
  intro p e s m args below meth c s₁ B hml hv
  obtain ⟨rfl, hN, hK, hP⟩ := hv
  have hx := B.exec
  have hb := B.bytes
  have hr := B.returns
  have hts0 := atoms_spec (ws := Cond.code y_D_sameCommitments c_D_sameCommitments 3 (some .boolean) :: zT) B.pre
  have hts := fun w h => hts0 w (List.mem_cons_of_mem _ h)
  have hown : s.vm.findClass R_D = some m.cls := findClass_of_methodNamed B.named
  have hlocks := B.notSynchronized
  obtain ⟨c0, c1, c2, c6, c7, hTW, hln, hl2⟩ := id hd
  have c4 := hTW.1
  have c5 := hTW.2.1
  have c3 := hTW.2.2.1
  have hl := lv_entry ([.ref (ad 0)]) (n := 3) (Nat.le_of_ble_eq_true rfl)
  rw [lg_entry_eq]
  generalize (lg_sl ([.ref (ad 0)]) ++ List.replicate (3 - (lg_sl ([.ref (ad 0)])).length) Slot.unset).toArray = ls at hl ⊢
  have hl : lv_has ls 3 [(0, .ref (ad 0))] := hl
  refine lv_iconst (v := 0) hx hb d_D_sameCommitments_0 rfl ?_
  refine lv_istore_n (lv' := [(1, .int 0), (0, .ref (ad 0))]) hx hb d_D_sameCommitments_1 rfl hl (by decide) rfl (fun ls hl => ?_)
  have hl : lv_has ls 3 [(1, .int (nI 0)), (0, .ref (ad 0))] := hl
  refine sameD_loop hx hb hml hown hts hN hK (by decide) (by decide) (Nat.zero_le _) (Nat.zero_le _) hn0 hTS hd hf1 hf2 hP (fun ls hh => ?_) (fun ls hh => ?_) (sc 1) 0 (Nat.zero_add _) rfl ls hl
  · skip
    have hq := hh
    refine lv_iconst (v := 0) hx hb d_D_sameCommitments_46 rfl ?_
    refine zz_as (y := zb (smAllD tt dd ln fk (sc 1))) (by rw [hq]; rfl) ?_
    exact W.zret hx hb hr (zb_nar _) (fun t ht hW => ⟨rfl, ht⟩) (fun q h => absurd h List.not_mem_nil) d_D_sameCommitments_47
  · skip
    have hq := hh
    refine lv_iconst (v := 1) hx hb d_D_sameCommitments_60 rfl ?_
    refine zz_as (y := zb (smAllD tt dd ln fk (sc 1))) (by rw [hq]; rfl) ?_
    exact W.zret hx hb hr (zb_nar _) (fun t ht hW => ⟨rfl, ht⟩) (fun q h => absurd h List.not_mem_nil) d_D_sameCommitments_61

theorem d_D_givenAway_0 : decode c_D_givenAway 0 = .ok (.aload_n 0, 1) := by decide +kernel
theorem d_D_givenAway_1 : decode c_D_givenAway 1 = .ok (.getfield 42, 3) := by decide +kernel
theorem d_D_givenAway_4 : decode c_D_givenAway 4 = .ok (.iload_n 1, 1) := by decide +kernel
theorem d_D_givenAway_5 : decode c_D_givenAway 5 = .ok (.iconst 3, 1) := by decide +kernel
theorem d_D_givenAway_6 : decode c_D_givenAway 6 = .ok (.invokevirtual 164, 3) := by decide +kernel
theorem d_D_givenAway_9 : decode c_D_givenAway 9 = .ok (.aload_n 0, 1) := by decide +kernel
theorem d_D_givenAway_10 : decode c_D_givenAway 10 = .ok (.getfield 46, 3) := by decide +kernel
theorem d_D_givenAway_13 : decode c_D_givenAway 13 = .ok (.iload_n 1, 1) := by decide +kernel
theorem d_D_givenAway_14 : decode c_D_givenAway 14 = .ok (.iconst 3, 1) := by decide +kernel
theorem d_D_givenAway_15 : decode c_D_givenAway 15 = .ok (.invokevirtual 164, 3) := by decide +kernel
theorem d_D_givenAway_18 : decode c_D_givenAway 18 = .ok (.invokestatic 188, 3) := by decide +kernel
theorem d_D_givenAway_21 : decode c_D_givenAway 21 = .ok (.istore_n 2, 1) := by decide +kernel
theorem d_D_givenAway_22 : decode c_D_givenAway 22 = .ok (.aload_n 0, 1) := by decide +kernel
theorem d_D_givenAway_23 : decode c_D_givenAway 23 = .ok (.getfield 42, 3) := by decide +kernel
theorem d_D_givenAway_26 : decode c_D_givenAway 26 = .ok (.iload_n 1, 1) := by decide +kernel
theorem d_D_givenAway_27 : decode c_D_givenAway 27 = .ok (.iconst 2, 1) := by decide +kernel
theorem d_D_givenAway_28 : decode c_D_givenAway 28 = .ok (.invokevirtual 164, 3) := by decide +kernel
theorem d_D_givenAway_31 : decode c_D_givenAway 31 = .ok (.aload_n 0, 1) := by decide +kernel
theorem d_D_givenAway_32 : decode c_D_givenAway 32 = .ok (.getfield 46, 3) := by decide +kernel
theorem d_D_givenAway_35 : decode c_D_givenAway 35 = .ok (.iload_n 1, 1) := by decide +kernel
theorem d_D_givenAway_36 : decode c_D_givenAway 36 = .ok (.iconst 2, 1) := by decide +kernel
theorem d_D_givenAway_37 : decode c_D_givenAway 37 = .ok (.invokevirtual 164, 3) := by decide +kernel
theorem d_D_givenAway_40 : decode c_D_givenAway 40 = .ok (.invokestatic 188, 3) := by decide +kernel
theorem d_D_givenAway_43 : decode c_D_givenAway 43 = .ok (.istore_n 3, 1) := by decide +kernel
theorem d_D_givenAway_44 : decode c_D_givenAway 44 = .ok (.iload_n 2, 1) := by decide +kernel
theorem d_D_givenAway_45 : decode c_D_givenAway 45 = .ok (.iload_n 3, 1) := by decide +kernel
theorem d_D_givenAway_46 : decode c_D_givenAway 46 = .ok (.sipush 5001, 3) := by decide +kernel
theorem d_D_givenAway_49 : decode c_D_givenAway 49 = .ok (.sipush 5003, 3) := by decide +kernel
theorem d_D_givenAway_52 : decode c_D_givenAway 52 = .ok (.invokestatic 63, 3) := by decide +kernel
theorem d_D_givenAway_55 : decode c_D_givenAway 55 = .ok (.imul, 1) := by decide +kernel
theorem d_D_givenAway_56 : decode c_D_givenAway 56 = .ok (.sipush 5003, 3) := by decide +kernel
theorem d_D_givenAway_59 : decode c_D_givenAway 59 = .ok (.irem, 1) := by decide +kernel
theorem d_D_givenAway_60 : decode c_D_givenAway 60 = .ok (.ireturn, 1) := by decide +kernel

set_option maxHeartbeats 4000000 in
set_option maxRecDepth 100000 in
/-- givenAway(i) -/
theorem k_givenAway (l : Launch) (D : va_G) (ca : Nat → ClassId) (n : Nat) (ad : Nat → Nat) (ct : Nat → va_E) (tt bb ee : Nat → Nat → Nat) (N : Nat) (dd : Nat → Nat → Nat) (sc : Nat → Nat) (sk rw : Nat → Option Nat) (fk ln : Nat → Nat) (hn0 : 8 ≤ n) (hTS : tS n tt bb ee 4 5 3 N) (hd : dS ca ad tt bb ee N dd sc sk rw fk ln ct) (i : Nat) (hi8 : i < 8) (hf1 : ftN (dd 6)) (hf2 : ftN fk) : Met l y_D_givenAway (Cond.code y_D_givenAway c_D_givenAway 4 (some .int) :: zT) ({ frames := 3, cells := 0, slots := 0, locals := 120 }) (va_Pc [.ref (ad 0), .int (nI i)] (dw D ca n ad ct)) (QcRead (nI (gvD (dd 6) fk i))) 0 0 (fun _ => False) := by
  refine Met.ofW (cc := c_D_givenAway) (maxL := 4) (ret := (some .int)) (by decide) rfl ?_
  intro p e s m args below meth c s₁ B hml hv
  obtain ⟨rfl, hN, hK, hP⟩ := hv
  have hx := B.exec
  have hb := B.bytes
  have hr := B.returns
  have hts0 := atoms_spec (ws := Cond.code y_D_givenAway c_D_givenAway 4 (some .int) :: zT) B.pre
  have hts := fun w h => hts0 w (List.mem_cons_of_mem _ h)
  have hown : s.vm.findClass R_D = some m.cls := findClass_of_methodNamed B.named
  have hlocks := B.notSynchronized
  obtain ⟨c0, c1, c2, c6, c7, hTW, hln, hl2⟩ := id hd
  have c4 := hTW.1
  have c5 := hTW.2.1
  have c3 := hTW.2.2.1
  have hl := lv_entry ([.ref (ad 0), .int (nI i)]) (n := 4) (Nat.le_of_ble_eq_true rfl)
  rw [lg_entry_eq]
  generalize (lg_sl ([.ref (ad 0), .int (nI i)]) ++ List.replicate (4 - (lg_sl ([.ref (ad 0), .int (nI i)])).length) Slot.unset).toArray = ls at hl ⊢
  have hl : lv_has ls 4 [(0, .ref (ad 0)), (1, .int (nI i))] := hl
  have a3 := (hf1 (i * 4 + 3) (by omega)).2 (by omega)
  have b3 := (hf2 (i * 4 + 3) (by omega)).2 (by omega)
  have a2 := (hf1 (i * 4 + 2) (by omega)).2 (by omega)
  have b2 := (hf2 (i * 4 + 2) (by omega)).2 (by omega)
  refine lv_aload_n hx hb d_D_givenAway_0 rfl (lv_at hl 0 rfl) ?_
  refine zz_get (j := 0) (ci := 0) (C := R_D) (T := T_D) (N := 10) hx hb hts in_D hown hK hP (by omega) c0 rfl 6 (by decide) (hts _ mf_D_42) (fun _ h => h) (v := .ref (ad 4)) rfl d_D_givenAway_1 ?_
  refine lv_iload_n hx hb d_D_givenAway_4 rfl (lv_at hl 1 rfl) ?_
  refine lv_iconst (v := 3) hx hb d_D_givenAway_5 rfl ?_
  refine zz_cV (index := 164) (n := 2) (As := [.int (nI i), .int 3]) (rest := []) ⟨hx, hb, hml, hown, hts⟩ (k_get l D ca n ad ct 4 5 (dd 6) (by omega) (by omega) c4 c5 i 3 (by omega)) mk_D_164 mo_T_get me_T_T_get_T mi_T mc_T_get (by decide +kernel) ⟨rfl, rfl⟩ ⟨by decide, by decide⟩ (dd_pre hN hK hP (j := 4) (by omega) c4 (r := (R_T, T_T, 1)) rfl) rfl hl.1 rfl (Nat.le_of_ble_eq_true rfl) d_D_givenAway_6 ⟨Nat.zero_le _, Nat.zero_le _⟩ ?_
  refine lv_aload_n hx hb d_D_givenAway_9 rfl (lv_at hl 0 rfl) ?_
  refine zz_get (j := 0) (ci := 0) (C := R_D) (T := T_D) (N := 10) hx hb hts in_D hown hK hP (by omega) c0 rfl 7 (by decide) (hts _ mf_D_46) (fun _ h => h) (v := .ref (ad 6)) rfl d_D_givenAway_10 ?_
  refine lv_iload_n hx hb d_D_givenAway_13 rfl (lv_at hl 1 rfl) ?_
  refine lv_iconst (v := 3) hx hb d_D_givenAway_14 rfl ?_
  refine zz_cV (index := 164) (n := 2) (As := [.int (nI i), .int 3]) (rest := [.int (nI (dd 6 (i * 4 + 3)))]) ⟨hx, hb, hml, hown, hts⟩ (k_get l D ca n ad ct 6 7 fk (by omega) (by omega) c6 c7 i 3 (by omega)) mk_D_164 mo_T_get me_T_T_get_T mi_T mc_T_get (by decide +kernel) ⟨rfl, rfl⟩ ⟨by decide, by decide⟩ (dd_pre hN hK hP (j := 6) (by omega) c6 (r := (R_T, T_T, 1)) rfl) rfl hl.1 rfl (Nat.le_of_ble_eq_true rfl) d_D_givenAway_15 ⟨Nat.zero_le _, Nat.zero_le _⟩ ?_
  refine zz_cS (index := 188) (n := 2) (As := [.int (nI (dd 6 (i * 4 + 3))), .int (nI (fk (i * 4 + 3)))]) (rest := []) ⟨hx, hb, hml, hown, hts⟩ (k_minus l (dd 6 (i * 4 + 3)) (fk (i * 4 + 3)) a3 b3) mk_D_188 ms_D_minus mi_D mc_D_minus (by decide +kernel) ⟨rfl, rfl⟩ ⟨by decide, by decide⟩ preEq rfl hl.1 rfl (Nat.le_of_ble_eq_true rfl) d_D_givenAway_18 ⟨Nat.zero_le _, Nat.zero_le _⟩ ?_
  refine lv_istore_n (lv' := [(2, .int (nI (ls5 (dd 6 (i * 4 + 3)) (fk (i * 4 + 3))))), (0, .ref (ad 0)), (1, .int (nI i))]) hx hb d_D_givenAway_21 rfl hl (by decide) rfl (fun ls hl => ?_)
  refine lv_aload_n hx hb d_D_givenAway_22 rfl (lv_at hl 1 rfl) ?_
  refine zz_get (j := 0) (ci := 0) (C := R_D) (T := T_D) (N := 10) hx hb hts in_D hown hK hP (by omega) c0 rfl 6 (by decide) (hts _ mf_D_42) (fun _ h => h) (v := .ref (ad 4)) rfl d_D_givenAway_23 ?_
  refine lv_iload_n hx hb d_D_givenAway_26 rfl (lv_at hl 2 rfl) ?_
  refine lv_iconst (v := 2) hx hb d_D_givenAway_27 rfl ?_
  refine zz_cV (index := 164) (n := 2) (As := [.int (nI i), .int 2]) (rest := []) ⟨hx, hb, hml, hown, hts⟩ (k_get l D ca n ad ct 4 5 (dd 6) (by omega) (by omega) c4 c5 i 2 (by omega)) mk_D_164 mo_T_get me_T_T_get_T mi_T mc_T_get (by decide +kernel) ⟨rfl, rfl⟩ ⟨by decide, by decide⟩ (dd_pre hN hK hP (j := 4) (by omega) c4 (r := (R_T, T_T, 1)) rfl) rfl hl.1 rfl (Nat.le_of_ble_eq_true rfl) d_D_givenAway_28 ⟨Nat.zero_le _, Nat.zero_le _⟩ ?_
  refine lv_aload_n hx hb d_D_givenAway_31 rfl (lv_at hl 1 rfl) ?_
  refine zz_get (j := 0) (ci := 0) (C := R_D) (T := T_D) (N := 10) hx hb hts in_D hown hK hP (by omega) c0 rfl 7 (by decide) (hts _ mf_D_46) (fun _ h => h) (v := .ref (ad 6)) rfl d_D_givenAway_32 ?_
  refine lv_iload_n hx hb d_D_givenAway_35 rfl (lv_at hl 2 rfl) ?_
  refine lv_iconst (v := 2) hx hb d_D_givenAway_36 rfl ?_
  refine zz_cV (index := 164) (n := 2) (As := [.int (nI i), .int 2]) (rest := [.int (nI (dd 6 (i * 4 + 2)))]) ⟨hx, hb, hml, hown, hts⟩ (k_get l D ca n ad ct 6 7 fk (by omega) (by omega) c6 c7 i 2 (by omega)) mk_D_164 mo_T_get me_T_T_get_T mi_T mc_T_get (by decide +kernel) ⟨rfl, rfl⟩ ⟨by decide, by decide⟩ (dd_pre hN hK hP (j := 6) (by omega) c6 (r := (R_T, T_T, 1)) rfl) rfl hl.1 rfl (Nat.le_of_ble_eq_true rfl) d_D_givenAway_37 ⟨Nat.zero_le _, Nat.zero_le _⟩ ?_
  refine zz_cS (index := 188) (n := 2) (As := [.int (nI (dd 6 (i * 4 + 2))), .int (nI (fk (i * 4 + 2)))]) (rest := []) ⟨hx, hb, hml, hown, hts⟩ (k_minus l (dd 6 (i * 4 + 2)) (fk (i * 4 + 2)) a2 b2) mk_D_188 ms_D_minus mi_D mc_D_minus (by decide +kernel) ⟨rfl, rfl⟩ ⟨by decide, by decide⟩ preEq rfl hl.1 rfl (Nat.le_of_ble_eq_true rfl) d_D_givenAway_40 ⟨Nat.zero_le _, Nat.zero_le _⟩ ?_
  refine lv_istore_n (lv' := [(3, .int (nI (ls5 (dd 6 (i * 4 + 2)) (fk (i * 4 + 2))))), (2, .int (nI (ls5 (dd 6 (i * 4 + 3)) (fk (i * 4 + 3))))), (0, .ref (ad 0)), (1, .int (nI i))]) hx hb d_D_givenAway_43 rfl hl (by decide) rfl (fun ls hl => ?_)
  refine lv_iload_n hx hb d_D_givenAway_44 rfl (lv_at hl 1 rfl) ?_
  refine lv_iload_n hx hb d_D_givenAway_45 rfl (lv_at hl 0 rfl) ?_
  refine lv_sipush (v := 5001) hx hb d_D_givenAway_46 rfl ?_
  refine lv_sipush (v := 5003) hx hb d_D_givenAway_49 rfl ?_
  refine zz_cS (index := 63) (n := 3) (As := [.int (nI (ls5 (dd 6 (i * 4 + 2)) (fk (i * 4 + 2)))), .int 5001, .int 5003]) (rest := [.int (nI (ls5 (dd 6 (i * 4 + 3)) (fk (i * 4 + 3))))]) ⟨hx, hb, hml, hown, hts⟩ (k_raise l (ls5 (dd 6 (i * 4 + 2)) (fk (i * 4 + 2))) 5001 5003 (ls5_lt _ _) (by decide) (by decide) (by decide)) mk_D_63 ms_D_raise mi_D mc_D_raise (by decide +kernel) ⟨rfl, rfl⟩ ⟨by decide, by decide⟩ preEq rfl hl.1 rfl (Nat.le_of_ble_eq_true rfl) d_D_givenAway_52 ⟨Nat.zero_le _, Nat.zero_le _⟩ ?_
  refine lv_imul hx hb d_D_givenAway_55 ?_
  refine zz_as (y := nI ((ls5 (dd 6 (i * 4 + 3)) (fk (i * 4 + 3))) * (ls5 (dd 6 (i * 4 + 2)) (fk (i * 4 + 2)) ^ 5001 % 5003))) (pk_mul (ls5 (dd 6 (i * 4 + 3)) (fk (i * 4 + 3))) (ls5 (dd 6 (i * 4 + 2)) (fk (i * 4 + 2)) ^ 5001 % 5003)) ?_
  refine lv_sipush (v := 5003) hx hb d_D_givenAway_56 rfl ?_
  refine lv_irem hx hb d_D_givenAway_59 (by decide) ?_
  refine zz_as (y := nI (gvD (dd 6) fk i)) (pk_rem (d := 5003) (zn_prod (ls5_lt _ _) (Nat.mod_lt _ (by decide)) (by decide)) (by decide) (by decide)) ?_
  exact W.iret hx hb hr (fun t ht hW => ⟨rfl, ht⟩) (fun q h => absurd h List.not_mem_nil) d_D_givenAway_60
