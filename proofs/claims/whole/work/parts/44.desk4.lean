/-! isKnown and challengeIn over the tree -/
def dK (tt dd : Nat → Nat → Nat) (K : Nat → Nat) (k : Nat) : Nat := if tt 0 k = 0 then dd 1 k else if tt 0 k = 1 then (if K (tt 1 k) = 1 ∧ K (tt 2 k) = 1 then 1 else 0) else (if K (tt 1 k) = 1 ∨ K (tt 2 k) = 1 then 1 else 0)
def dV (tt dd : Nat → Nat → Nat) (V : Nat → Nat) (k : Nat) : Nat := if tt 0 k = 0 then dd 6 (dd 0 k * 4 + 2) else if tt 0 k = 1 then (if V (tt 1 k) = V (tt 2 k) then V (tt 1 k) else 4294967295) else (if V (tt 1 k) = 4294967295 ∨ V (tt 2 k) = 4294967295 then 4294967295 else (V (tt 1 k) + V (tt 2 k)) % 5003)

theorem d_A_isKnown_0 : decode c_A_isKnown 0 = .ok (.aload_n 0, 1) := by decide +kernel
theorem d_A_isKnown_1 : decode c_A_isKnown 1 = .ok (.getfield 9, 3) := by decide +kernel
theorem d_A_isKnown_4 : decode c_A_isKnown 4 = .ok (.invokevirtual 15, 3) := by decide +kernel
theorem d_A_isKnown_7 : decode c_A_isKnown 7 = .ok (.ifCond .eq 17, 3) := by decide +kernel
theorem d_A_isKnown_10 : decode c_A_isKnown 10 = .ok (.aload_n 0, 1) := by decide +kernel
theorem d_A_isKnown_11 : decode c_A_isKnown 11 = .ok (.getfield 21, 3) := by decide +kernel
theorem d_A_isKnown_14 : decode c_A_isKnown 14 = .ok (.invokevirtual 15, 3) := by decide +kernel
theorem d_A_isKnown_17 : decode c_A_isKnown 17 = .ok (.ifCond .eq 7, 3) := by decide +kernel
theorem d_A_isKnown_20 : decode c_A_isKnown 20 = .ok (.iconst 1, 1) := by decide +kernel
theorem d_A_isKnown_21 : decode c_A_isKnown 21 = .ok (.goto 4, 3) := by decide +kernel
theorem d_A_isKnown_24 : decode c_A_isKnown 24 = .ok (.iconst 0, 1) := by decide +kernel
theorem d_A_isKnown_25 : decode c_A_isKnown 25 = .ok (.ireturn, 1) := by decide +kernel

theorem d_O_isKnown_0 : decode c_O_isKnown 0 = .ok (.aload_n 0, 1) := by decide +kernel
theorem d_O_isKnown_1 : decode c_O_isKnown 1 = .ok (.getfield 9, 3) := by decide +kernel
theorem d_O_isKnown_4 : decode c_O_isKnown 4 = .ok (.invokevirtual 15, 3) := by decide +kernel
theorem d_O_isKnown_7 : decode c_O_isKnown 7 = .ok (.ifCond .ne 13, 3) := by decide +kernel
theorem d_O_isKnown_10 : decode c_O_isKnown 10 = .ok (.aload_n 0, 1) := by decide +kernel
theorem d_O_isKnown_11 : decode c_O_isKnown 11 = .ok (.getfield 21, 3) := by decide +kernel
theorem d_O_isKnown_14 : decode c_O_isKnown 14 = .ok (.invokevirtual 15, 3) := by decide +kernel
theorem d_O_isKnown_17 : decode c_O_isKnown 17 = .ok (.ifCond .eq 7, 3) := by decide +kernel
theorem d_O_isKnown_20 : decode c_O_isKnown 20 = .ok (.iconst 1, 1) := by decide +kernel
theorem d_O_isKnown_21 : decode c_O_isKnown 21 = .ok (.goto 4, 3) := by decide +kernel
theorem d_O_isKnown_24 : decode c_O_isKnown 24 = .ok (.iconst 0, 1) := by decide +kernel
theorem d_O_isKnown_25 : decode c_O_isKnown 25 = .ok (.ireturn, 1) := by decide +kernel

theorem d_A_challengeIn_0 : decode c_A_challengeIn 0 = .ok (.aload_n 0, 1) := by decide +kernel
theorem d_A_challengeIn_1 : decode c_A_challengeIn 1 = .ok (.getfield 9, 3) := by decide +kernel
theorem d_A_challengeIn_4 : decode c_A_challengeIn 4 = .ok (.aload_n 1, 1) := by decide +kernel
theorem d_A_challengeIn_5 : decode c_A_challengeIn 5 = .ok (.invokevirtual 36, 3) := by decide +kernel
theorem d_A_challengeIn_8 : decode c_A_challengeIn 8 = .ok (.istore_n 2, 1) := by decide +kernel
theorem d_A_challengeIn_9 : decode c_A_challengeIn 9 = .ok (.iload_n 2, 1) := by decide +kernel
theorem d_A_challengeIn_10 : decode c_A_challengeIn 10 = .ok (.aload_n 0, 1) := by decide +kernel
theorem d_A_challengeIn_11 : decode c_A_challengeIn 11 = .ok (.getfield 21, 3) := by decide +kernel
theorem d_A_challengeIn_14 : decode c_A_challengeIn 14 = .ok (.aload_n 1, 1) := by decide +kernel
theorem d_A_challengeIn_15 : decode c_A_challengeIn 15 = .ok (.invokevirtual 36, 3) := by decide +kernel
theorem d_A_challengeIn_18 : decode c_A_challengeIn 18 = .ok (.if_icmp .ne 7, 3) := by decide +kernel
theorem d_A_challengeIn_21 : decode c_A_challengeIn 21 = .ok (.iload_n 2, 1) := by decide +kernel
theorem d_A_challengeIn_22 : decode c_A_challengeIn 22 = .ok (.goto 4, 3) := by decide +kernel
theorem d_A_challengeIn_25 : decode c_A_challengeIn 25 = .ok (.iconst (-1), 1) := by decide +kernel
theorem d_A_challengeIn_26 : decode c_A_challengeIn 26 = .ok (.ireturn, 1) := by decide +kernel

theorem d_O_challengeIn_0 : decode c_O_challengeIn 0 = .ok (.aload_n 0, 1) := by decide +kernel
theorem d_O_challengeIn_1 : decode c_O_challengeIn 1 = .ok (.getfield 9, 3) := by decide +kernel
theorem d_O_challengeIn_4 : decode c_O_challengeIn 4 = .ok (.aload_n 1, 1) := by decide +kernel
theorem d_O_challengeIn_5 : decode c_O_challengeIn 5 = .ok (.invokevirtual 54, 3) := by decide +kernel
theorem d_O_challengeIn_8 : decode c_O_challengeIn 8 = .ok (.istore_n 2, 1) := by decide +kernel
theorem d_O_challengeIn_9 : decode c_O_challengeIn 9 = .ok (.aload_n 0, 1) := by decide +kernel
theorem d_O_challengeIn_10 : decode c_O_challengeIn 10 = .ok (.getfield 21, 3) := by decide +kernel
theorem d_O_challengeIn_13 : decode c_O_challengeIn 13 = .ok (.aload_n 1, 1) := by decide +kernel
theorem d_O_challengeIn_14 : decode c_O_challengeIn 14 = .ok (.invokevirtual 54, 3) := by decide +kernel
theorem d_O_challengeIn_17 : decode c_O_challengeIn 17 = .ok (.istore_n 3, 1) := by decide +kernel
theorem d_O_challengeIn_18 : decode c_O_challengeIn 18 = .ok (.iload_n 2, 1) := by decide +kernel
theorem d_O_challengeIn_19 : decode c_O_challengeIn 19 = .ok (.iconst (-1), 1) := by decide +kernel
theorem d_O_challengeIn_20 : decode c_O_challengeIn 20 = .ok (.if_icmp .eq 8, 3) := by decide +kernel
theorem d_O_challengeIn_23 : decode c_O_challengeIn 23 = .ok (.iload_n 3, 1) := by decide +kernel
theorem d_O_challengeIn_24 : decode c_O_challengeIn 24 = .ok (.iconst (-1), 1) := by decide +kernel
theorem d_O_challengeIn_25 : decode c_O_challengeIn 25 = .ok (.if_icmp .ne 5, 3) := by decide +kernel
theorem d_O_challengeIn_28 : decode c_O_challengeIn 28 = .ok (.iconst (-1), 1) := by decide +kernel
theorem d_O_challengeIn_29 : decode c_O_challengeIn 29 = .ok (.ireturn, 1) := by decide +kernel
theorem d_O_challengeIn_30 : decode c_O_challengeIn 30 = .ok (.iload_n 2, 1) := by decide +kernel
theorem d_O_challengeIn_31 : decode c_O_challengeIn 31 = .ok (.iload_n 3, 1) := by decide +kernel
theorem d_O_challengeIn_32 : decode c_O_challengeIn 32 = .ok (.iadd, 1) := by decide +kernel
theorem d_O_challengeIn_33 : decode c_O_challengeIn 33 = .ok (.sipush 5003, 3) := by decide +kernel
theorem d_O_challengeIn_36 : decode c_O_challengeIn 36 = .ok (.irem, 1) := by decide +kernel
theorem d_O_challengeIn_37 : decode c_O_challengeIn 37 = .ok (.ireturn, 1) := by decide +kernel

def C_isKnown (l : Launch) (D : va_G) (ca : Nat → ClassId) (n : Nat) (ad : Nat → Nat) (ct : Nat → va_E) (tt : Nat → Nat → Nat) (K : Nat → Nat) (k : Nat) : Prop := (tt 0 k = 0 → Met l y_F_isKnown (Cond.code y_F_isKnown c_F_isKnown 1 (some .boolean) :: zT) ({ frames := 1, cells := 0, slots := 0, locals := 40 }) (va_Pc [.ref (ad (tt 3 k))] (dw D ca n ad ct)) (QcRead (nI (K k))) 0 0 (fun _ => False)) ∧ (tt 0 k = 1 → Met l y_A_isKnown (Cond.code y_A_isKnown c_A_isKnown 1 (some .boolean) :: zT) (rmk k) (va_Pc [.ref (ad (tt 3 k))] (dw D ca n ad ct)) (QcRead (nI (K k))) 0 0 (fun _ => False)) ∧ (tt 0 k = 2 → Met l y_O_isKnown (Cond.code y_O_isKnown c_O_isKnown 1 (some .boolean) :: zT) (rmk k) (va_Pc [.ref (ad (tt 3 k))] (dw D ca n ad ct)) (QcRead (nI (K k))) 0 0 (fun _ => False))
section DS_isKnown
variable {p : Program} {l : Launch} {e : Env} {R : Room} {s : State} {m : MethodId} {args : Array Value} {below : List Frame} {meth : Method} {c : Code} {H H0 : Heap} {locs : List Loc} {cells slots pc nL : Nat} {ls : Array Slot} {rest : List Value} {cc : ByteArray} {Q : State → Prop} {A : Nat → Prop} {own : String} {D : va_G} {ca : Nat → ClassId} {n : Nat} {ad : Nat → Nat} {ct : Nat → va_E} {tt bb ee dd : Nat → Nat → Nat} {jt kt jd N : Nat}
set_option maxHeartbeats 4000000 in
set_option maxRecDepth 100000 in
theorem dsp_isKnown {k index : Nat} {K : Nat → Nat} (S : CallFix p m c cc nL s args zT own) (hN : zN s) (hK : va_K D zC (zty ca) s) (hP : va_P D zC (zl n ad ct) H) (hTS : tS n tt bb ee jt kt jd N) (hTW : tW ca ad tt bb ee jt kt jd N dd ct) (hk : k < N) (hC : C_isKnown l D ca n ad ct tt K k) (w1 : Cond.methodLink own index y_S_isKnown ∈ zT) (hRf : 4 + k ≤ R.frames) (hRl : 40 * (4 + k) ≤ R.locals) (hsize : ls.size = nL) (hWc : (rest.map fun v => v.category).sum ≤ 8) (hdg : decode cc pc = .ok (.invokevirtual index, 3)) (hf : cells ≤ R.cells ∧ slots ≤ R.slots)
    (kk : W p l e R s m args below meth c H locs cells slots Q (F0 m (pc + 3) ls (.int (nI (K k)) :: rest))) : W p l e R s m args below meth c H locs cells slots Q (F0 m pc ls (.ref (ad (tt 3 k)) :: rest)) := by
  obtain ⟨t1, t2, t3, t4⟩ := hTS.2.2.2.2 k hk
  obtain ⟨hct, -⟩ := hTW.2.2.2 k hk
  rcases (show tt 0 k = 0 ∨ tt 0 k = 1 ∨ tt 0 k = 2 by omega) with h0 | h0 | h0
  · exact zz_cU (As := []) (k := 0) (C := R_F) (owner := R_S) (x := y_S_isKnown) S (hC.1 h0) hN w1 mm_S_S_isKnown me_F_S_isKnown_F mo_F_isKnown mi_F md_S_isKnown mc_F_isKnown (by decide +kernel) ⟨rfl, rfl⟩ ⟨(show 1 + 1 ≤ R.frames by omega), (show 8 + (1 + 11) + 40 ≤ R.locals by omega)⟩ (dd_pre hN hK hP t1 (hct.trans (ndC_0 h0)) (r := (R_F, T_F, 7)) rfl) rfl hsize rfl hWc hdg hf kk
  · exact zz_cU (As := []) (k := 0) (C := R_A) (owner := R_S) (x := y_S_isKnown) S (hC.2.1 h0) hN w1 mm_S_S_isKnown me_A_S_isKnown_A mo_A_isKnown mi_A md_S_isKnown mc_A_isKnown (by decide +kernel) ⟨rfl, rfl⟩ ⟨(show 3 + k + 1 ≤ R.frames by omega), (show 8 + (1 + 11) + 40 * (3 + k) ≤ R.locals by omega)⟩ (dd_pre hN hK hP t1 (hct.trans (ndC_1 h0)) (r := (R_A, T_A, 3)) rfl) rfl hsize rfl hWc hdg hf kk
  · exact zz_cU (As := []) (k := 0) (C := R_O) (owner := R_S) (x := y_S_isKnown) S (hC.2.2 h0) hN w1 mm_S_S_isKnown me_O_S_isKnown_O mo_O_isKnown mi_O md_S_isKnown mc_O_isKnown (by decide +kernel) ⟨rfl, rfl⟩ ⟨(show 3 + k + 1 ≤ R.frames by omega), (show 8 + (1 + 11) + 40 * (3 + k) ≤ R.locals by omega)⟩ (dd_pre hN hK hP t1 (hct.trans (ndC_2 h0)) (r := (R_O, T_O, 5)) rfl) rfl hsize rfl hWc hdg hf kk
end DS_isKnown

set_option maxHeartbeats 4000000 in
set_option maxRecDepth 100000 in
theorem known_all (l : Launch) {D : va_G} {ca : Nat → ClassId} {n : Nat} {ad : Nat → Nat} {ct : Nat → va_E} {tt bb ee dd : Nat → Nat → Nat} {jt kt jd N : Nat} (hTS : tS n tt bb ee jt kt jd N) (hTW : tW ca ad tt bb ee jt kt jd N dd ct) (K : Nat → Nat) (hKe : ∀ k, k < N → K k = dK tt dd K k) (hK2 : ∀ k, k < N → K k < 2) : ∀ k, k < N → C_isKnown l D ca n ad ct tt K k := by
  intro k
  induction k using Nat.strongRecOn with
  | ind k ih =>
    intro hk
    obtain ⟨t1, t2, t3, t4⟩ := hTS.2.2.2.2 k hk
    obtain ⟨hct, hlf⟩ := hTW.2.2.2 k hk
    have hKk := hKe k hk
    have hKb := hK2 k hk
    refine ⟨fun h0 => ?_, fun h0 => ?_, fun h0 => ?_⟩
    · obtain ⟨u1, u2, u3, u4, u5⟩ := t4 h0
      have e1 : K k = dd 1 k := by rw [hKk]; unfold dK; rw [if_pos h0]
      rw [e1] at hKb ⊢
      exact k_isKnownF l D ca n ad ct (tt 3 k) (tt 4 k) (tt 5 k) (tt 6 k) (bb k) (ee k) (dd 0 k) (dd 1 k) (dd 2 k) (dd 3 k) t1 u1 u2 u3 (hct.trans (ndC_0 h0)) (hlf h0).1 (hlf h0).2 hKb
    · obtain ⟨hlk, hrk⟩ := t3 (by rw [h0]; decide)
      have c0 := hct.trans (ndC_1 h0)
      have b1 := hK2 (tt 1 k) (by omega)
      have b2 := hK2 (tt 2 k) (by omega)
      refine Met.ofW (cc := c_A_isKnown) (maxL := 1) (ret := (some .boolean)) (by decide) rfl ?_
      intro p e s m args below meth c s₁ B hml hv
      obtain ⟨rfl, hN, hK, hP⟩ := hv
      have hx := B.exec
      have hb := B.bytes
      have hr := B.returns
      have hts0 := atoms_spec (ws := Cond.code y_A_isKnown c_A_isKnown 1 (some .boolean) :: zT) B.pre
      have hts := fun w h => hts0 w (List.mem_cons_of_mem _ h)
      have hown : s.vm.findClass R_A = some m.cls := findClass_of_methodNamed B.named
      have hlocks := B.notSynchronized
      have hl := lv_entry ([.ref (ad (tt 3 k))]) (n := 1) (Nat.le_of_ble_eq_true rfl)
      rw [lg_entry_eq]
      generalize (lg_sl ([.ref (ad (tt 3 k))]) ++ List.replicate (1 - (lg_sl ([.ref (ad (tt 3 k))])).length) Slot.unset).toArray = ls at hl ⊢
      have hl : lv_has ls 1 [(0, .ref (ad (tt 3 k)))] := hl
      refine lv_aload_n hx hb d_A_isKnown_0 rfl (lv_at hl 0 rfl) ?_
      refine zz_get (j := tt 3 k) (ci := 2) (C := R_A) (T := T_A) (N := 3) hx hb hts in_A hown hK hP t1 c0 rfl 0 (by decide) (hts _ mf_A_9) (fun x h => u_same (hts _ mF_A_left) x h) (v := .ref (ad (tt 3 (tt 1 k)))) rfl d_A_isKnown_1 ?_
      refine dsp_isKnown (k := tt 1 k) (index := 15) (rest := []) ⟨hx, hb, hml, hown, hts⟩ hN hK hP hTS hTW (by omega) (ih (tt 1 k) hlk (by omega)) mk_A_15 (show 4 + tt 1 k ≤ 3 + k by omega) (show 40 * (4 + tt 1 k) ≤ 40 * (3 + k) by omega) hl.1 (Nat.le_of_ble_eq_true rfl) d_A_isKnown_4 ⟨Nat.zero_le _, Nat.zero_le _⟩ ?_
      refine lv_if_eq (tgt := 24) hx hb d_A_isKnown_7 rfl (fun h7 => ?_) (fun h7 => ?_)
      · skip
        have e1 := b_z b1 h7
        have hq : K k = 0 := by rw [hKk]; unfold dK; rw [if_neg (by rw [h0]; decide), if_pos h0, if_neg (by rw [e1]; exact fun q => absurd q.1 (by decide))]
        refine lv_iconst (v := 0) hx hb d_A_isKnown_24 rfl ?_
        refine zz_as (y := nI (K k)) (by rw [hq]; rfl) ?_
        exact W.zret hx hb hr (zn_narb hKb) (fun t ht hW => ⟨rfl, ht⟩) (fun q h => absurd h List.not_mem_nil) d_A_isKnown_25
      · skip
        have e1 := b_o b1 h7
        refine lv_aload_n hx hb d_A_isKnown_10 rfl (lv_at hl 0 rfl) ?_
        refine zz_get (j := tt 3 k) (ci := 2) (C := R_A) (T := T_A) (N := 3) hx hb hts in_A hown hK hP t1 c0 rfl 1 (by decide) (hts _ mf_A_21) (fun x h => u_same (hts _ mF_A_right) x h) (v := .ref (ad (tt 3 (tt 2 k)))) rfl d_A_isKnown_11 ?_
        refine dsp_isKnown (k := tt 2 k) (index := 15) (rest := []) ⟨hx, hb, hml, hown, hts⟩ hN hK hP hTS hTW (by omega) (ih (tt 2 k) hrk (by omega)) mk_A_15 (show 4 + tt 2 k ≤ 3 + k by omega) (show 40 * (4 + tt 2 k) ≤ 40 * (3 + k) by omega) hl.1 (Nat.le_of_ble_eq_true rfl) d_A_isKnown_14 ⟨Nat.zero_le _, Nat.zero_le _⟩ ?_
        refine lv_if_eq (tgt := 24) hx hb d_A_isKnown_17 rfl (fun h17 => ?_) (fun h17 => ?_)
        · skip
          have e2 := b_z b2 h17
          have hq : K k = 0 := by rw [hKk]; unfold dK; rw [if_neg (by rw [h0]; decide), if_pos h0, if_neg (by rw [e2]; exact fun q => absurd q.2 (by decide))]
          refine lv_iconst (v := 0) hx hb d_A_isKnown_24 rfl ?_
          refine zz_as (y := nI (K k)) (by rw [hq]; rfl) ?_
          exact W.zret hx hb hr (zn_narb hKb) (fun t ht hW => ⟨rfl, ht⟩) (fun q h => absurd h List.not_mem_nil) d_A_isKnown_25
        · skip
          have e2 := b_o b2 h17
          have hq : K k = 1 := by rw [hKk]; unfold dK; rw [if_neg (by rw [h0]; decide), if_pos h0, if_pos ⟨e1, e2⟩]
          refine lv_iconst (v := 1) hx hb d_A_isKnown_20 rfl ?_
          refine lv_goto (tgt := 25) hx hb d_A_isKnown_21 rfl ?_
          refine zz_as (y := nI (K k)) (by rw [hq]; rfl) ?_
          exact W.zret hx hb hr (zn_narb hKb) (fun t ht hW => ⟨rfl, ht⟩) (fun q h => absurd h List.not_mem_nil) d_A_isKnown_25
    · obtain ⟨hlk, hrk⟩ := t3 (by rw [h0]; decide)
      have c0 := hct.trans (ndC_2 h0)
      have b1 := hK2 (tt 1 k) (by omega)
      have b2 := hK2 (tt 2 k) (by omega)
      refine Met.ofW (cc := c_O_isKnown) (maxL := 1) (ret := (some .boolean)) (by decide) rfl ?_
      intro p e s m args below meth c s₁ B hml hv
      obtain ⟨rfl, hN, hK, hP⟩ := hv
      have hx := B.exec
      have hb := B.bytes
      have hr := B.returns
      have hts0 := atoms_spec (ws := Cond.code y_O_isKnown c_O_isKnown 1 (some .boolean) :: zT) B.pre
      have hts := fun w h => hts0 w (List.mem_cons_of_mem _ h)
      have hown : s.vm.findClass R_O = some m.cls := findClass_of_methodNamed B.named
      have hlocks := B.notSynchronized
      have hl := lv_entry ([.ref (ad (tt 3 k))]) (n := 1) (Nat.le_of_ble_eq_true rfl)
      rw [lg_entry_eq]
      generalize (lg_sl ([.ref (ad (tt 3 k))]) ++ List.replicate (1 - (lg_sl ([.ref (ad (tt 3 k))])).length) Slot.unset).toArray = ls at hl ⊢
      have hl : lv_has ls 1 [(0, .ref (ad (tt 3 k)))] := hl
      refine lv_aload_n hx hb d_O_isKnown_0 rfl (lv_at hl 0 rfl) ?_
      refine zz_get (j := tt 3 k) (ci := 3) (C := R_O) (T := T_O) (N := 5) hx hb hts in_O hown hK hP t1 c0 rfl 0 (by decide) (hts _ mf_O_9) (fun x h => u_same (hts _ mF_O_left) x h) (v := .ref (ad (tt 3 (tt 1 k)))) rfl d_O_isKnown_1 ?_
      refine dsp_isKnown (k := tt 1 k) (index := 15) (rest := []) ⟨hx, hb, hml, hown, hts⟩ hN hK hP hTS hTW (by omega) (ih (tt 1 k) hlk (by omega)) mk_O_15 (show 4 + tt 1 k ≤ 3 + k by omega) (show 40 * (4 + tt 1 k) ≤ 40 * (3 + k) by omega) hl.1 (Nat.le_of_ble_eq_true rfl) d_O_isKnown_4 ⟨Nat.zero_le _, Nat.zero_le _⟩ ?_
      refine lv_if_ne (tgt := 20) hx hb d_O_isKnown_7 rfl (fun h7 => ?_) (fun h7 => ?_)
      · skip
        have e1 := b_o b1 h7
        have hq : K k = 1 := by rw [hKk]; unfold dK; rw [if_neg (by rw [h0]; decide), if_neg (by rw [h0]; decide), if_pos (Or.inl e1)]
        refine lv_iconst (v := 1) hx hb d_O_isKnown_20 rfl ?_
        refine lv_goto (tgt := 25) hx hb d_O_isKnown_21 rfl ?_
        refine zz_as (y := nI (K k)) (by rw [hq]; rfl) ?_
        exact W.zret hx hb hr (zn_narb hKb) (fun t ht hW => ⟨rfl, ht⟩) (fun q h => absurd h List.not_mem_nil) d_O_isKnown_25
      · skip
        have e1 := b_z b1 h7
        refine lv_aload_n hx hb d_O_isKnown_10 rfl (lv_at hl 0 rfl) ?_
        refine zz_get (j := tt 3 k) (ci := 3) (C := R_O) (T := T_O) (N := 5) hx hb hts in_O hown hK hP t1 c0 rfl 1 (by decide) (hts _ mf_O_21) (fun x h => u_same (hts _ mF_O_right) x h) (v := .ref (ad (tt 3 (tt 2 k)))) rfl d_O_isKnown_11 ?_
        refine dsp_isKnown (k := tt 2 k) (index := 15) (rest := []) ⟨hx, hb, hml, hown, hts⟩ hN hK hP hTS hTW (by omega) (ih (tt 2 k) hrk (by omega)) mk_O_15 (show 4 + tt 2 k ≤ 3 + k by omega) (show 40 * (4 + tt 2 k) ≤ 40 * (3 + k) by omega) hl.1 (Nat.le_of_ble_eq_true rfl) d_O_isKnown_14 ⟨Nat.zero_le _, Nat.zero_le _⟩ ?_
        refine lv_if_eq (tgt := 24) hx hb d_O_isKnown_17 rfl (fun h17 => ?_) (fun h17 => ?_)
        · skip
          have e2 := b_z b2 h17
          have hq : K k = 0 := by rw [hKk]; unfold dK; rw [if_neg (by rw [h0]; decide), if_neg (by rw [h0]; decide), if_neg (by rw [e1, e2]; decide)]
          refine lv_iconst (v := 0) hx hb d_O_isKnown_24 rfl ?_
          refine zz_as (y := nI (K k)) (by rw [hq]; rfl) ?_
          exact W.zret hx hb hr (zn_narb hKb) (fun t ht hW => ⟨rfl, ht⟩) (fun q h => absurd h List.not_mem_nil) d_O_isKnown_25
        · skip
          have e2 := b_o b2 h17
          have hq : K k = 1 := by rw [hKk]; unfold dK; rw [if_neg (by rw [h0]; decide), if_neg (by rw [h0]; decide), if_pos (Or.inr e2)]
          refine lv_iconst (v := 1) hx hb d_O_isKnown_20 rfl ?_
          refine lv_goto (tgt := 25) hx hb d_O_isKnown_21 rfl ?_
          refine zz_as (y := nI (K k)) (by rw [hq]; rfl) ?_
          exact W.zret hx hb hr (zn_narb hKb) (fun t ht hW => ⟨rfl, ht⟩) (fun q h => absurd h List.not_mem_nil) d_O_isKnown_25

def C_challengeIn (l : Launch) (D : va_G) (ca : Nat → ClassId) (n : Nat) (ad : Nat → Nat) (ct : Nat → va_E) (tt : Nat → Nat → Nat) (jt : Nat) (V : Nat → Nat) (k : Nat) : Prop := (tt 0 k = 0 → Met l y_F_challengeIn (Cond.code y_F_challengeIn c_F_challengeIn 2 (some .int) :: zT) ({ frames := 2, cells := 0, slots := 0, locals := 80 }) (va_Pc [.ref (ad (tt 3 k)), .ref (ad jt)] (dw D ca n ad ct)) (QcRead (nI (V k))) 0 0 (fun _ => False)) ∧ (tt 0 k = 1 → Met l y_A_challengeIn (Cond.code y_A_challengeIn c_A_challengeIn 3 (some .int) :: zT) (rmk k) (va_Pc [.ref (ad (tt 3 k)), .ref (ad jt)] (dw D ca n ad ct)) (QcRead (nI (V k))) 0 0 (fun _ => False)) ∧ (tt 0 k = 2 → Met l y_O_challengeIn (Cond.code y_O_challengeIn c_O_challengeIn 4 (some .int) :: zT) (rmk k) (va_Pc [.ref (ad (tt 3 k)), .ref (ad jt)] (dw D ca n ad ct)) (QcRead (nI (V k))) 0 0 (fun _ => False))
section DS_challengeIn
variable {p : Program} {l : Launch} {e : Env} {R : Room} {s : State} {m : MethodId} {args : Array Value} {below : List Frame} {meth : Method} {c : Code} {H H0 : Heap} {locs : List Loc} {cells slots pc nL : Nat} {ls : Array Slot} {rest : List Value} {cc : ByteArray} {Q : State → Prop} {A : Nat → Prop} {own : String} {D : va_G} {ca : Nat → ClassId} {n : Nat} {ad : Nat → Nat} {ct : Nat → va_E} {tt bb ee dd : Nat → Nat → Nat} {jt kt jd N : Nat}
set_option maxHeartbeats 4000000 in
set_option maxRecDepth 100000 in
theorem dsp_challengeIn {k index : Nat} {V : Nat → Nat} (S : CallFix p m c cc nL s args zT own) (hN : zN s) (hK : va_K D zC (zty ca) s) (hP : va_P D zC (zl n ad ct) H) (hTS : tS n tt bb ee jt kt jd N) (hTW : tW ca ad tt bb ee jt kt jd N dd ct) (hk : k < N) (hC : C_challengeIn l D ca n ad ct tt jt V k) (w1 : Cond.methodLink own index y_S_challengeIn ∈ zT) (hRf : 4 + k ≤ R.frames) (hRl : 40 * (4 + k) ≤ R.locals) (hsize : ls.size = nL) (hWc : (rest.map fun v => v.category).sum ≤ 8) (hdg : decode cc pc = .ok (.invokevirtual index, 3)) (hf : cells ≤ R.cells ∧ slots ≤ R.slots)
    (kk : W p l e R s m args below meth c H locs cells slots Q (F0 m (pc + 3) ls (.int (nI (V k)) :: rest))) : W p l e R s m args below meth c H locs cells slots Q (F0 m pc ls (.ref (ad jt) :: .ref (ad (tt 3 k)) :: rest)) := by
  obtain ⟨t1, t2, t3, t4⟩ := hTS.2.2.2.2 k hk
  obtain ⟨hct, -⟩ := hTW.2.2.2 k hk
  rcases (show tt 0 k = 0 ∨ tt 0 k = 1 ∨ tt 0 k = 2 by omega) with h0 | h0 | h0
  · exact zz_cU (As := [.ref (ad jt)]) (k := 1) (C := R_F) (owner := R_S) (x := y_S_challengeIn) S (hC.1 h0) hN w1 mm_S_S_challengeIn me_F_S_challengeIn_F mo_F_challengeIn mi_F md_S_challengeIn mc_F_challengeIn (by decide +kernel) ⟨rfl, rfl⟩ ⟨(show 2 + 1 ≤ R.frames by omega), (show 8 + (2 + 11) + 80 ≤ R.locals by omega)⟩ (dd_pre hN hK hP t1 (hct.trans (ndC_0 h0)) (r := (R_F, T_F, 7)) rfl) rfl hsize rfl hWc hdg hf kk
  · exact zz_cU (As := [.ref (ad jt)]) (k := 1) (C := R_A) (owner := R_S) (x := y_S_challengeIn) S (hC.2.1 h0) hN w1 mm_S_S_challengeIn me_A_S_challengeIn_A mo_A_challengeIn mi_A md_S_challengeIn mc_A_challengeIn (by decide +kernel) ⟨rfl, rfl⟩ ⟨(show 3 + k + 1 ≤ R.frames by omega), (show 8 + (3 + 11) + 40 * (3 + k) ≤ R.locals by omega)⟩ (dd_pre hN hK hP t1 (hct.trans (ndC_1 h0)) (r := (R_A, T_A, 3)) rfl) rfl hsize rfl hWc hdg hf kk
  · exact zz_cU (As := [.ref (ad jt)]) (k := 1) (C := R_O) (owner := R_S) (x := y_S_challengeIn) S (hC.2.2 h0) hN w1 mm_S_S_challengeIn me_O_S_challengeIn_O mo_O_challengeIn mi_O md_S_challengeIn mc_O_challengeIn (by decide +kernel) ⟨rfl, rfl⟩ ⟨(show 3 + k + 1 ≤ R.frames by omega), (show 8 + (4 + 11) + 40 * (3 + k) ≤ R.locals by omega)⟩ (dd_pre hN hK hP t1 (hct.trans (ndC_2 h0)) (r := (R_O, T_O, 5)) rfl) rfl hsize rfl hWc hdg hf kk
end DS_challengeIn

set_option maxHeartbeats 4000000 in
set_option maxRecDepth 100000 in
theorem challenge_all (l : Launch) {D : va_G} {ca : Nat → ClassId} {n : Nat} {ad : Nat → Nat} {ct : Nat → va_E} {tt bb ee dd : Nat → Nat → Nat} {jt kt jd N : Nat} (hTS : tS n tt bb ee jt kt jd N) (hTW : tW ca ad tt bb ee jt kt jd N dd ct) (hnm : ∀ k, k < N → tt 0 k = 0 → dd 0 k < 8) (V : Nat → Nat) (hVe : ∀ k, k < N → V k = dV tt dd V k) (hVb : vB V N) : ∀ k, k < N → C_challengeIn l D ca n ad ct tt jt V k := by
  intro k
  induction k using Nat.strongRecOn with
  | ind k ih =>
    intro hk
    obtain ⟨t1, t2, t3, t4⟩ := hTS.2.2.2.2 k hk
    obtain ⟨hct, hlf⟩ := hTW.2.2.2 k hk
    have hVk := hVe k hk
    refine ⟨fun h0 => ?_, fun h0 => ?_, fun h0 => ?_⟩
    · obtain ⟨u1, u2, u3, u4, u5⟩ := t4 h0
      have e1 : V k = dd 6 (dd 0 k * 4 + 2) := by rw [hVk]; unfold dV; rw [if_pos h0]
      rw [e1]
      exact k_challengeInF l D ca n ad ct (tt 3 k) (tt 4 k) (tt 5 k) (tt 6 k) (bb k) (ee k) (dd 0 k) (dd 1 k) (dd 2 k) (dd 3 k) t1 u1 u2 u3 (hct.trans (ndC_0 h0)) (hlf h0).1 (hlf h0).2 jt kt (dd 6) hTS.1 hTS.2.1 hTW.1 hTW.2.1 (hnm k hk h0)
    · obtain ⟨hlk, hrk⟩ := t3 (by rw [h0]; decide)
      have c0 := hct.trans (ndC_1 h0)
      have b1 := hVb (tt 1 k) (by omega)
      have b2 := hVb (tt 2 k) (by omega)
      refine Met.ofW (cc := c_A_challengeIn) (maxL := 3) (ret := (some .int)) (by decide) rfl ?_
      intro p e s m args below meth c s₁ B hml hv
      obtain ⟨rfl, hN, hK, hP⟩ := hv
      have hx := B.exec
      have hb := B.bytes
      have hr := B.returns
      have hts0 := atoms_spec (ws := Cond.code y_A_challengeIn c_A_challengeIn 3 (some .int) :: zT) B.pre
      have hts := fun w h => hts0 w (List.mem_cons_of_mem _ h)
      have hown : s.vm.findClass R_A = some m.cls := findClass_of_methodNamed B.named
      have hlocks := B.notSynchronized
      have hl := lv_entry ([.ref (ad (tt 3 k)), .ref (ad jt)]) (n := 3) (Nat.le_of_ble_eq_true rfl)
      rw [lg_entry_eq]
      generalize (lg_sl ([.ref (ad (tt 3 k)), .ref (ad jt)]) ++ List.replicate (3 - (lg_sl ([.ref (ad (tt 3 k)), .ref (ad jt)])).length) Slot.unset).toArray = ls at hl ⊢
      have hl : lv_has ls 3 [(0, .ref (ad (tt 3 k))), (1, .ref (ad jt))] := hl
      refine lv_aload_n hx hb d_A_challengeIn_0 rfl (lv_at hl 0 rfl) ?_
      refine zz_get (j := tt 3 k) (ci := 2) (C := R_A) (T := T_A) (N := 3) hx hb hts in_A hown hK hP t1 c0 rfl 0 (by decide) (hts _ mf_A_9) (fun x h => u_same (hts _ mF_A_left) x h) (v := .ref (ad (tt 3 (tt 1 k)))) rfl d_A_challengeIn_1 ?_
      refine lv_aload_n hx hb d_A_challengeIn_4 rfl (lv_at hl 1 rfl) ?_
      refine dsp_challengeIn (k := tt 1 k) (index := 36) (rest := []) ⟨hx, hb, hml, hown, hts⟩ hN hK hP hTS hTW (by omega) (ih (tt 1 k) hlk (by omega)) mk_A_36 (show 4 + tt 1 k ≤ 3 + k by omega) (show 40 * (4 + tt 1 k) ≤ 40 * (3 + k) by omega) hl.1 (Nat.le_of_ble_eq_true rfl) d_A_challengeIn_5 ⟨Nat.zero_le _, Nat.zero_le _⟩ ?_
      refine lv_istore_n (lv' := [(2, .int (nI (V (tt 1 k)))), (0, .ref (ad (tt 3 k))), (1, .ref (ad jt))]) hx hb d_A_challengeIn_8 rfl hl (by decide) rfl (fun ls hl => ?_)
      refine lv_iload_n hx hb d_A_challengeIn_9 rfl (lv_at hl 0 rfl) ?_
      refine lv_aload_n hx hb d_A_challengeIn_10 rfl (lv_at hl 1 rfl) ?_
      refine zz_get (j := tt 3 k) (ci := 2) (C := R_A) (T := T_A) (N := 3) hx hb hts in_A hown hK hP t1 c0 rfl 1 (by decide) (hts _ mf_A_21) (fun x h => u_same (hts _ mF_A_right) x h) (v := .ref (ad (tt 3 (tt 2 k)))) rfl d_A_challengeIn_11 ?_
      refine lv_aload_n hx hb d_A_challengeIn_14 rfl (lv_at hl 2 rfl) ?_
      refine dsp_challengeIn (k := tt 2 k) (index := 36) (rest := [.int (nI (V (tt 1 k)))]) ⟨hx, hb, hml, hown, hts⟩ hN hK hP hTS hTW (by omega) (ih (tt 2 k) hrk (by omega)) mk_A_36 (show 4 + tt 2 k ≤ 3 + k by omega) (show 40 * (4 + tt 2 k) ≤ 40 * (3 + k) by omega) hl.1 (Nat.le_of_ble_eq_true rfl) d_A_challengeIn_15 ⟨Nat.zero_le _, Nat.zero_le _⟩ ?_
      refine lv_icmp_ne (tgt := 25) hx hb d_A_challengeIn_18 rfl (fun h18 => ?_) (fun h18 => ?_)
      · skip
        have e1 : ¬ V (tt 1 k) = V (tt 2 k) := fun q => h18 (by rw [q])
        have hq : V k = 4294967295 := by rw [hVk]; unfold dV; rw [if_neg (by rw [h0]; decide), if_pos h0, if_neg e1]
        refine lv_iconst (v := (-1)) hx hb d_A_challengeIn_25 rfl ?_
        refine zz_as (y := nI (V k)) (by rw [hq]; exact zn_m1.symm) ?_
        exact W.iret hx hb hr (fun t ht hW => ⟨rfl, ht⟩) (fun q h => absurd h List.not_mem_nil) d_A_challengeIn_26
      · skip
        have e1 : V (tt 1 k) = V (tt 2 k) := (zn_inj (by omega) (by omega)).mp h18
        have hq : V k = V (tt 1 k) := by rw [hVk]; unfold dV; rw [if_neg (by rw [h0]; decide), if_pos h0, if_pos e1]
        refine lv_iload_n hx hb d_A_challengeIn_21 rfl (lv_at hl 0 rfl) ?_
        refine lv_goto (tgt := 26) hx hb d_A_challengeIn_22 rfl ?_
        refine zz_as (y := nI (V k)) (by rw [hq]) ?_
        exact W.iret hx hb hr (fun t ht hW => ⟨rfl, ht⟩) (fun q h => absurd h List.not_mem_nil) d_A_challengeIn_26
    · obtain ⟨hlk, hrk⟩ := t3 (by rw [h0]; decide)
      have c0 := hct.trans (ndC_2 h0)
      have b1 := hVb (tt 1 k) (by omega)
      have b2 := hVb (tt 2 k) (by omega)
      refine Met.ofW (cc := c_O_challengeIn) (maxL := 4) (ret := (some .int)) (by decide) rfl ?_
      intro p e s m args below meth c s₁ B hml hv
      obtain ⟨rfl, hN, hK, hP⟩ := hv
      have hx := B.exec
      have hb := B.bytes
      have hr := B.returns
      have hts0 := atoms_spec (ws := Cond.code y_O_challengeIn c_O_challengeIn 4 (some .int) :: zT) B.pre
      have hts := fun w h => hts0 w (List.mem_cons_of_mem _ h)
      have hown : s.vm.findClass R_O = some m.cls := findClass_of_methodNamed B.named
      have hlocks := B.notSynchronized
      have hl := lv_entry ([.ref (ad (tt 3 k)), .ref (ad jt)]) (n := 4) (Nat.le_of_ble_eq_true rfl)
      rw [lg_entry_eq]
      generalize (lg_sl ([.ref (ad (tt 3 k)), .ref (ad jt)]) ++ List.replicate (4 - (lg_sl ([.ref (ad (tt 3 k)), .ref (ad jt)])).length) Slot.unset).toArray = ls at hl ⊢
      have hl : lv_has ls 4 [(0, .ref (ad (tt 3 k))), (1, .ref (ad jt))] := hl
      refine lv_aload_n hx hb d_O_challengeIn_0 rfl (lv_at hl 0 rfl) ?_
      refine zz_get (j := tt 3 k) (ci := 3) (C := R_O) (T := T_O) (N := 5) hx hb hts in_O hown hK hP t1 c0 rfl 0 (by decide) (hts _ mf_O_9) (fun x h => u_same (hts _ mF_O_left) x h) (v := .ref (ad (tt 3 (tt 1 k)))) rfl d_O_challengeIn_1 ?_
      refine lv_aload_n hx hb d_O_challengeIn_4 rfl (lv_at hl 1 rfl) ?_
      refine dsp_challengeIn (k := tt 1 k) (index := 54) (rest := []) ⟨hx, hb, hml, hown, hts⟩ hN hK hP hTS hTW (by omega) (ih (tt 1 k) hlk (by omega)) mk_O_54 (show 4 + tt 1 k ≤ 3 + k by omega) (show 40 * (4 + tt 1 k) ≤ 40 * (3 + k) by omega) hl.1 (Nat.le_of_ble_eq_true rfl) d_O_challengeIn_5 ⟨Nat.zero_le _, Nat.zero_le _⟩ ?_
      refine lv_istore_n (lv' := [(2, .int (nI (V (tt 1 k)))), (0, .ref (ad (tt 3 k))), (1, .ref (ad jt))]) hx hb d_O_challengeIn_8 rfl hl (by decide) rfl (fun ls hl => ?_)
      refine lv_aload_n hx hb d_O_challengeIn_9 rfl (lv_at hl 1 rfl) ?_
      refine zz_get (j := tt 3 k) (ci := 3) (C := R_O) (T := T_O) (N := 5) hx hb hts in_O hown hK hP t1 c0 rfl 1 (by decide) (hts _ mf_O_21) (fun x h => u_same (hts _ mF_O_right) x h) (v := .ref (ad (tt 3 (tt 2 k)))) rfl d_O_challengeIn_10 ?_
      refine lv_aload_n hx hb d_O_challengeIn_13 rfl (lv_at hl 2 rfl) ?_
      refine dsp_challengeIn (k := tt 2 k) (index := 54) (rest := []) ⟨hx, hb, hml, hown, hts⟩ hN hK hP hTS hTW (by omega) (ih (tt 2 k) hrk (by omega)) mk_O_54 (show 4 + tt 2 k ≤ 3 + k by omega) (show 40 * (4 + tt 2 k) ≤ 40 * (3 + k) by omega) hl.1 (Nat.le_of_ble_eq_true rfl) d_O_challengeIn_14 ⟨Nat.zero_le _, Nat.zero_le _⟩ ?_
      refine lv_istore_n (lv' := [(3, .int (nI (V (tt 2 k)))), (2, .int (nI (V (tt 1 k)))), (0, .ref (ad (tt 3 k))), (1, .ref (ad jt))]) hx hb d_O_challengeIn_17 rfl hl (by decide) rfl (fun ls hl => ?_)
      refine lv_iload_n hx hb d_O_challengeIn_18 rfl (lv_at hl 1 rfl) ?_
      refine lv_iconst (v := (-1)) hx hb d_O_challengeIn_19 rfl ?_
      refine lv_icmp_eq (tgt := 28) hx hb d_O_challengeIn_20 rfl (fun h20 => ?_) (fun h20 => ?_)
      · skip
        have e1 : V (tt 1 k) = 4294967295 := (zn_inj (by omega) (by decide)).mp (h20.trans zn_m1.symm)
        have hq : V k = 4294967295 := by rw [hVk]; unfold dV; rw [if_neg (by rw [h0]; decide), if_neg (by rw [h0]; decide), if_pos (Or.inl e1)]
        refine lv_iconst (v := (-1)) hx hb d_O_challengeIn_28 rfl ?_
        refine zz_as (y := nI (V k)) (by rw [hq]; exact zn_m1.symm) ?_
        exact W.iret hx hb hr (fun t ht hW => ⟨rfl, ht⟩) (fun q h => absurd h List.not_mem_nil) d_O_challengeIn_29
      · skip
        have e1 : ¬ V (tt 1 k) = 4294967295 := fun q => h20 (by rw [q]; exact zn_m1)
        refine lv_iload_n hx hb d_O_challengeIn_23 rfl (lv_at hl 0 rfl) ?_
        refine lv_iconst (v := (-1)) hx hb d_O_challengeIn_24 rfl ?_
        refine lv_icmp_ne (tgt := 30) hx hb d_O_challengeIn_25 rfl (fun h25 => ?_) (fun h25 => ?_)
        · skip
          have e2 : ¬ V (tt 2 k) = 4294967295 := fun q => h25 (by rw [q]; exact zn_m1)
          have hq : V k = (V (tt 1 k) + V (tt 2 k)) % 5003 := by rw [hVk]; unfold dV; rw [if_neg (by rw [h0]; decide), if_neg (by rw [h0]; decide), if_neg (by omega)]
          refine lv_iload_n hx hb d_O_challengeIn_30 rfl (lv_at hl 1 rfl) ?_
          refine lv_iload_n hx hb d_O_challengeIn_31 rfl (lv_at hl 0 rfl) ?_
          refine lv_iadd hx hb d_O_challengeIn_32 ?_
          refine zz_as (y := nI ((V (tt 1 k)) + (V (tt 2 k)))) (nI_add (V (tt 1 k)) (V (tt 2 k))) ?_
          refine lv_sipush (v := 5003) hx hb d_O_challengeIn_33 rfl ?_
          refine lv_irem hx hb d_O_challengeIn_36 (by decide) ?_
          refine zz_as (y := nI (((V (tt 1 k)) + (V (tt 2 k))) % 5003)) (pk_rem (d := 5003) (by omega) (by decide) (by decide)) ?_
          refine zz_as (y := nI (V k)) (by rw [hq]) ?_
          exact W.iret hx hb hr (fun t ht hW => ⟨rfl, ht⟩) (fun q h => absurd h List.not_mem_nil) d_O_challengeIn_37
        · skip
          have e2 : V (tt 2 k) = 4294967295 := (zn_inj (by omega) (by decide)).mp (h25.trans zn_m1.symm)
          have hq : V k = 4294967295 := by rw [hVk]; unfold dV; rw [if_neg (by rw [h0]; decide), if_neg (by rw [h0]; decide), if_pos (Or.inr e2)]
          refine lv_iconst (v := (-1)) hx hb d_O_challengeIn_28 rfl ?_
          refine zz_as (y := nI (V k)) (by rw [hq]; exact zn_m1.symm) ?_
          exact W.iret hx hb hr (fun t ht hW => ⟨rfl, ht⟩) (fun q h => absurd h List.not_mem_nil) d_O_challengeIn_29
