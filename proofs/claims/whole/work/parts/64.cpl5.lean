/-! the accepted statement on the two sides, and what each call does to it -/
def cX (tt bb ee dd : Nat → Nat → Nat) (N : Nat) (sc fk ln lo : Nat → Nat) (ar : Nat → Nat → Nat) : Prop := cT tt dd N (sc 1) ln lo ar ∧ cB tt bb ee (sc 1) ln ar ∧ cW dd (sc 1) ln ar ∧ cP (dd 6) (ar 14) (ar 15) (ar 16) ∧ cP fk (ar 17) (ar 18) (ar 19) ∧ ftN (dd 6) ∧ ftN fk ∧ (sc 2 = ar 0 3 ∧ sc 2 < 2) ∧ (sc 3 = ar 0 4 ∧ sc 3 < 2) ∧ (sc 3 = 1 → 0 < N → GP tt dd ar (N - 1))
theorem GP_mono {tt dd ar d1 a1 : Nat → Nat → Nat} {lo : Nat → Nat} {N : Nat} (hT : tI (tt 0) (tt 1) (tt 2) lo N) (h0 : d1 0 = dd 0) (h1 : ∀ i, i < N → dd 1 i = 1 → d1 1 i = 1) (h3 : d1 3 = dd 3) (h4 : d1 4 = dd 4) (h5 : d1 5 = dd 5) (a20 : a1 20 = ar 20) (a21 : a1 21 = ar 21) (a22 : a1 22 = ar 22) : ∀ k, k < N → GP tt dd ar k → GP tt d1 a1 k := by
  intro k
  induction k using Nat.strongRecOn with
  | ind k ih =>
    intro hk hG
    rcases tI_at hT hk with hz | ⟨hz, hn, hl, hr, -⟩
    · rw [GP_0 hz] at hG ⊢
      rw [h3, h0, a20]
      exact ⟨h1 k hk hG.1, hG.2⟩
    · rcases hz with hz | hz
      · rw [GP_1 hz hl hr] at hG ⊢
        exact ⟨ih _ hl (by omega) hG.1, ih _ hr (by omega) hG.2⟩
      · rw [GP_2 hz hl hr] at hG ⊢
        rw [h4, h5, a21, a22]
        exact ⟨hG.1, hG.2.1, hG.2.2.1, hG.2.2.2.1, fun z => ih _ hl (by omega) (hG.2.2.2.2.1 z), fun z => ih _ hr (by omega) (hG.2.2.2.2.2 z)⟩
section CX
variable {tt bb ee dd ar : Nat → Nat → Nat} {N : Nat} {sc fk ln lo : Nat → Nat}
theorem cX_ag (h : cX tt bb ee dd N sc fk ln lo ar) {a1 : Nat → Nat → Nat} (hr : ∀ j, 7 ≤ j → j ≤ 22 → a1 j = ar j) (h0 : ∀ i, 1 ≤ i → i ≤ 4 → a1 0 i = ar 0 i) : cX tt bb ee dd N sc fk ln lo a1 := by
  obtain ⟨c1, c2, c3, c4, c5, c6, c7, c8, c9, c10⟩ := h
  refine ⟨?_, ?_, ?_, ?_, ?_, c6, c7, ?_, ?_, fun z w => ?_⟩
  · unfold cT
    rw [h0 1 (by decide) (by decide), h0 2 (by decide) (by decide), hr 7 (by decide) (by decide), hr 8 (by decide) (by decide), hr 9 (by decide) (by decide), hr 10 (by decide) (by decide)]
    exact c1
  · unfold cB
    rw [hr 11 (by decide) (by decide), hr 12 (by decide) (by decide)]
    exact c2
  · unfold cW
    rw [hr 13 (by decide) (by decide)]
    exact c3
  · rw [hr 14 (by decide) (by decide), hr 15 (by decide) (by decide), hr 16 (by decide) (by decide)]
    exact c4
  · rw [hr 17 (by decide) (by decide), hr 18 (by decide) (by decide), hr 19 (by decide) (by decide)]
    exact c5
  · rw [h0 3 (by decide) (by decide)]; exact c8
  · rw [h0 4 (by decide) (by decide)]; exact c9
  · exact GP_mono c1.2.2.2.2.1 rfl (fun _ _ q => q) rfl rfl rfl (hr 20 (by decide) (by decide)) (hr 21 (by decide) (by decide)) (hr 22 (by decide) (by decide)) (N - 1) (by omega) (c10 z w)
theorem cX_up (h : cX tt bb ee dd N sc fk ln lo ar) {j : Nat} (hj : 23 ≤ j) (g : Nat → Nat) : cX tt bb ee dd N sc fk ln lo (va_up ar j g) :=
  cX_ag h (fun i a b => va_up_ne _ _ (by omega)) (fun i a b => by rw [va_up_ne _ _ (by omega)])
theorem ftN_up {f : Nat → Nat} (h : ftN f) {q v : Nat} (h1 : v < 10007) (h2 : q % 4 = 2 ∨ q % 4 = 3 → v < 5003) : ftN (va_up f q v) := by
  intro p hp
  unfold va_up
  split
  · next e => subst e; exact ⟨h1, h2⟩
  · exact h p hp
theorem dc_ft {K d0 : Nat → Nat} (hT : tI (tt 0) (tt 1) (tt 2) lo N) : ∀ (k : Nat), k < N → ∀ (real : Bool) (c : Nat) (dd : Nat → Nat → Nat), c < 5003 → dd 0 = d0 → ftN (dd 6) → ftN (dc tt bb ee K k real c dd 6) := by
  intro k
  induction k using Nat.strongRecOn with
  | ind k ih =>
    intro hk real c dd hc hd hf
    have hdv := dv_lt (dr (dd 7 0))
    have m1 : ∀ a : Nat, a % 10007 < 10007 := fun a => Nat.mod_lt _ (by decide)
    rcases tI_at hT hk with h0 | ⟨h0, hn, hl, hr, -⟩
    · rw [dc_leaf h0]
      unfold dcL
      generalize dv (dr (dd 7 0)) = x at *
      cases real
      · rw [if_neg (by decide), va_up_self]
        unfold ftS cvS
        split
        · exact ftN_up (ftN_up (ftN_up hf (m1 _) (by omega)) (by omega) (fun _ => hc)) (by omega) (fun _ => hdv)
        · exact ftN_up (ftN_up (ftN_up (ftN_up hf (m1 _) (by omega)) (m1 _) (by omega)) (by omega) (fun _ => hc)) (by omega) (fun _ => hdv)
      · rw [if_pos rfl, va_up_self]
        unfold ftR
        split
        · exact ftN_up (ftN_up (ftN_up hf (m1 _) (by omega)) (by decide) (fun _ => by decide)) (by decide) (fun _ => by decide)
        · exact ftN_up (ftN_up (ftN_up (ftN_up hf (m1 _) (by omega)) (m1 _) (by omega)) (by decide) (fun _ => by decide)) (by decide) (fun _ => by decide)
    · have i1 := fun r c d a b e => ih (tt 1 k) hl (by omega) r c d a b e
      have i2 := fun r c d a b e => ih (tt 2 k) hr (by omega) r c d a b e
      have d1 : ∀ (k : Nat) (r : Bool) (c : Nat) (d : Nat → Nat → Nat), d 0 = d0 → dc tt bb ee K k r c d 0 = d0 := fun k r c d h => (dc_row1 _ _ _ _ (by decide)).trans h
      have z0 : ∀ a x y, zs (zs (zs dd 4 k a) 7 0 x) 5 k y 0 = d0 := fun a x y => by rw [zs_row _ _ _ (by decide), zs_row _ _ _ (by decide), zs_row _ _ _ (by decide), hd]
      have z6 : ∀ a x y, ftN (zs (zs (zs dd 4 k a) 7 0 x) 5 k y 6) := fun a x y => by rw [zs_row _ _ _ (by decide), zs_row _ _ _ (by decide), zs_row _ _ _ (by decide)]; exact hf
      rcases h0 with h0 | h0
      · rw [dc_and h0 hl hr]
        exact i2 _ _ _ hc (d1 _ _ _ _ hd) (i1 _ _ _ hc hd hf)
      · cases real
        · rw [dc_orS h0 hl hr]
          exact i2 _ _ _ (ls5_lt _ _) (d1 _ _ _ _ (by rw [zs_row _ _ _ (by decide), hd])) (i1 _ _ _ hdv (by rw [zs_row _ _ _ (by decide), hd]) (by rw [zs_row _ _ _ (by decide)]; exact hf))
        · by_cases hK : K (tt 1 k) = 1
          · rw [dc_orL h0 hl hr hK]
            exact i2 _ _ _ hdv (d1 _ _ _ _ (z0 _ _ _)) (i1 _ _ _ (by decide) (z0 _ _ _) (z6 _ _ _))
          · rw [dc_orR h0 hl hr hK]
            exact i2 _ _ _ (by decide) (d1 _ _ _ _ (z0 _ _ _)) (i1 _ _ _ hdv (z0 _ _ _) (z6 _ _ _))
theorem dq_ft (hT : tI (tt 0) (tt 1) (tt 2) lo N) : ∀ (k : Nat), k < N → ∀ (c : Nat) (dd : Nat → Nat → Nat), c < 5003 → ftN (dd 6) → ftN (dq tt k c dd 6) := by
  intro k
  induction k using Nat.strongRecOn with
  | ind k ih =>
    intro hk c dd hc hf
    have m2 : ∀ a : Nat, a % 5003 < 5003 := fun a => Nat.mod_lt _ (by decide)
    rcases tI_at hT hk with h0 | ⟨h0, hn, hl, hr, -⟩
    · rw [dq_leaf h0, va_up_self]
      exact ftN_up (ftN_up hf (by omega) (fun _ => hc)) (Nat.lt_trans (m2 _) (by decide)) (fun _ => m2 _)
    · rcases h0 with h0 | h0
      · rw [dq_and h0 hl hr]
        exact ih _ hr (by omega) c _ hc (ih _ hl (by omega) c dd hc hf)
      · by_cases h1 : dd 4 k = 1
        · rw [dq_orL h0 hl hr _ _ h1]
          exact ih _ hl (by omega) _ dd (ls5_lt _ _) hf
        · rw [dq_orR h0 hl hr _ _ h1]
          exact ih _ hr (by omega) _ dd (ls5_lt _ _) hf
theorem cT_cong (h : cT tt dd N (sc 1) ln lo ar) : ∀ i, i < N → ar 7 i = tt 0 i ∧ (tt 0 i ≠ 0 → ar 8 i = tt 1 i ∧ ar 9 i = tt 2 i ∧ tt 1 i < i ∧ tt 2 i < i) ∧ (tt 0 i = 0 → ar 10 i = dd 0 i) := by
  intro i hi
  obtain ⟨-, -, -, -, -, ht, -⟩ := id h
  obtain ⟨a, b, c⟩ := ht i hi
  exact ⟨a, fun z => ⟨(b z).1, (b z).2, (cT_ch h hi z).1, (cT_ch h hi z).2⟩, fun z => (c z).1⟩
theorem cT_lf (h : cT tt dd N (sc 1) ln lo ar) : ∀ k, k < N → tt 0 k = 0 → dd 0 k < sc 1 ∧ ln (dd 0 k) = k := fun k hk h0 => (h.2.2.2.2.2.1 k hk).2.2 h0 |>.2
theorem cT_inj (h : cT tt dd N (sc 1) ln lo ar) : ∀ i j, i < N → j < N → tt 0 i = 0 → tt 0 j = 0 → dd 0 i = dd 0 j → i = j := by
  intro i j hi hj a b e
  have x := (cT_lf h i hi a).2
  have y := (cT_lf h j hj b).2
  rw [e, y] at x
  exact x.symm
/-- commit and simulate -/
theorem cX_cm (h : cX tt bb ee dd N sc fk ln lo ar) (hN : 0 < N) {K h2 : Nat → Nat} (hK : ∀ k, k < N → K k = dK tt dd K k) (hK2 : ∀ k, k < N → K k < 2) (hk2 : kOK ar h2 (ar 0 1)) (real : Bool) (c sd v : Nat) (s9 : Nat → Nat → Nat) (hc : c < 5003) (hv : v = if real then 1 else 0) (hr : real = true → K (N - 1) = 1) : cX tt bb ee (dc tt bb ee K (N - 1) real c (zs dd 7 0 sd)) N (va_up sc 3 v) fk ln lo (zs (mix (cm (ar 7) (ar 8) (ar 9) (ar 10) (ar 0 1 - 1) real c (va_up (zs ar 0 5 sd) 27 h2)) s9) 0 4 v) := by
  obtain ⟨c1, c2, c3, c4, c5, c6, c7, c8, c9, c10⟩ := id h
  obtain ⟨e1, e15, e2, e8, hI, ht, hl⟩ := id c1
  have hcm : cm (ar 7) (ar 8) (ar 9) (ar 10) (ar 0 1 - 1) real c (va_up (zs ar 0 5 sd) 27 h2) = cm (tt 0) (tt 1) (tt 2) (dd 0) (N - 1) real c (va_up (zs ar 0 5 sd) 27 h2) := by
    rw [e1]
    exact cm_cong (cT_cong c1) (N - 1) (by omega) real c _
  rw [e1] at hk2
  have hun := K_un c1 c3 hK hk2
  have hF : cF tt bb ee K N (sc 1) ln (dd 0) (zs dd 7 0 sd) (va_up (zs ar 0 5 sd) 27 h2) := by
    refine ⟨zs_row _ _ _ (by decide), fun k hk => ?_, ?_, fun k hk => by rw [va_up_self]; exact hun k hk⟩
    · rw [hK k hk]
      unfold dK
      rw [zs_row _ _ _ (by decide)]
    · unfold cB
      rw [va_up_ne _ _ (by decide), va_up_ne _ _ (by decide), zs_row _ _ _ (by decide), zs_row _ _ _ (by decide)]
      exact c2
  have hC : cC (zs dd 7 0 sd) (va_up (zs ar 0 5 sd) 27 h2) := by
    refine ⟨?_, ?_⟩
    · rw [zs_eq, va_up_ne _ _ (by decide), zs_eq]
    · rw [zs_row _ _ _ (by decide), va_up_ne _ _ (by decide), va_up_ne _ _ (by decide), va_up_ne _ _ (by decide), zs_row _ _ _ (by decide), zs_row _ _ _ (by decide), zs_row _ _ _ (by decide)]
      exact c4
  obtain ⟨q1, q2⟩ := cm_dc hI hK2 (cT_lf c1) (N - 1) (by omega) real c c _ _ (fun _ => ⟨rfl, hc⟩) hF hC
  have hft : ftN (dc tt bb ee K (N - 1) real c (zs dd 7 0 sd) 6) := dc_ft hI (N - 1) (by omega) real c _ hc rfl (by rw [zs_row _ _ _ (by decide)]; exact c6)
  have d0 : ∀ {j : Nat}, j < 3 → dc tt bb ee K (N - 1) real c (zs dd 7 0 sd) j = dd j := fun hj => (dc_row1 _ _ _ _ hj).trans (zs_row _ _ _ (by omega))
  generalize hd1 : dc tt bb ee K (N - 1) real c (zs dd 7 0 sd) = d1 at *
  have rowA : ∀ {j : Nat}, cRow j → j ≠ 27 → cm (tt 0) (tt 1) (tt 2) (dd 0) (N - 1) real c (va_up (zs ar 0 5 sd) 27 h2) j = ar j := fun hj h27 => (cm_row hj _ _ _ _).trans ((va_up_ne _ _ h27).trans (zs_row _ _ _ hj.1))
  have row0 : ∀ {q : Nat}, q ≠ 5 → cm (tt 0) (tt 1) (tt 2) (dd 0) (N - 1) real c (va_up (zs ar 0 5 sd) 27 h2) 0 q = ar 0 q := fun hq => (cm_0 hq _ _ _ _).trans ((by rw [va_up_ne _ _ (by decide)]; exact zs_ni _ _ _ _ hq))
  rw [hcm]
  generalize hm : cm (tt 0) (tt 1) (tt 2) (dd 0) (N - 1) real c (va_up (zs ar 0 5 sd) 27 h2) = m at *
  have mx : ∀ {j : Nat}, 7 ≤ j → j ≤ 22 → zs (mix m s9) 0 4 v j = m j := fun a b => (zs_row _ _ _ (by omega)).trans (by funext i; unfold mix; rw [if_neg (by omega)])
  have m0 : ∀ {i : Nat}, i ≠ 4 → i ≠ 5 → i ≠ 6 → zs (mix m s9) 0 4 v 0 i = ar 0 i := fun a b c => (zs_ni _ _ _ _ a).trans (by unfold mix; rw [if_neg (by omega)]; exact row0 b)
  have rA : ∀ {j : Nat}, 7 ≤ j → j ≤ 22 → cRow j → zs (mix m s9) 0 4 v j = ar j := fun a b hj => (mx a b).trans (rowA hj (by omega))
  refine ⟨?_, ?_, ?_, ?_, ?_, hft, c7, ?_, ?_, fun z w => ?_⟩
  · unfold cT
    rw [m0 (by decide) (by decide) (by decide), m0 (by decide) (by decide) (by decide), rA (by decide) (by decide) (by unfold cRow; decide), rA (by decide) (by decide) (by unfold cRow; decide), rA (by decide) (by decide) (by unfold cRow; decide), rA (by decide) (by decide) (by unfold cRow; decide), d0 (by decide)]
    exact c1
  · unfold cB
    rw [rA (by decide) (by decide) (by unfold cRow; decide), rA (by decide) (by decide) (by unfold cRow; decide)]
    exact c2
  · unfold cW
    rw [rA (by decide) (by decide) (by unfold cRow; decide), d0 (by decide), d0 (by decide)]
    exact c3
  · rw [mx (by decide) (by decide), mx (by decide) (by decide), mx (by decide) (by decide)]
    exact q1.2
  · rw [rA (by decide) (by decide) (by unfold cRow; decide), rA (by decide) (by decide) (by unfold cRow; decide), rA (by decide) (by decide) (by unfold cRow; decide)]
    exact c5
  · rw [m0 (by decide) (by decide) (by decide)]
    exact c8
  · rw [zs_eq, va_up_self]
    refine ⟨rfl, ?_⟩
    rw [hv]; split <;> decide
  · rw [va_up_self, hv] at z
    have hreal : real = true := by
      cases real
      · exact absurd z (by decide)
      · rfl
    exact GP_mono hI rfl (fun _ _ q => q) rfl rfl rfl (mx (by decide) (by decide)) (mx (by decide) (by decide)) (mx (by decide) (by decide)) (N - 1) (by omega) (q2 hreal (hr hreal))
/-- respond -/
theorem cX_rq (h : cX tt bb ee dd N sc fk ln lo ar) (hN : 0 < N) (hs : sc 3 = 1) (c : Nat) (hc : c < 5003) (s9 : Nat → Nat → Nat) : cX tt bb ee (dq tt (N - 1) c dd) N sc fk ln lo (mix (rq false (ar 7) (ar 8) (ar 9) (ar 10) (ar 21) (ar 22) (ar 0 1 - 1) c ar) s9) := by
  obtain ⟨c1, c2, c3, c4, c5, c6, c7, c8, c9, c10⟩ := id h
  obtain ⟨e1, e15, e2, e8, hI, ht, hl⟩ := id c1
  have hrq : rq false (ar 7) (ar 8) (ar 9) (ar 10) (ar 21) (ar 22) (ar 0 1 - 1) c ar = rq true (tt 0) (tt 1) (tt 2) (dd 0) (ar 21) (ar 22) (N - 1) c ar := by
    rw [e1, rq_cong (cT_cong c1) (N - 1) (by omega), rq_ord hI (cT_inj c1) (N - 1) (by omega)]
  have hG := c10 hs hN
  have q1 := rq_dq hI (d0 := dd 0) (N - 1) (by omega) c dd ar rfl rfl rfl (fun i hi h0 h1 => by
    obtain ⟨a, b⟩ := cT_lf c1 i hi h0
    have w := c3.2 (dd 0 i) a
    rw [b] at w
    rcases w with ⟨w1, w2, w3⟩ | ⟨w1, -⟩
    · exact w2
    · rw [w1] at h1; exact absurd h1 (by decide)) hG c4
  have hft := dq_ft hI (N - 1) (by omega) c dd hc c6
  have dR : ∀ {j : Nat}, j ≠ 6 → dq tt (N - 1) c dd j = dd j := fun hj => dq_row hj _ _ _
  generalize dq tt (N - 1) c dd = d1 at *
  have rR : ∀ {j : Nat}, j ≠ 15 → j ≠ 16 → rq true (tt 0) (tt 1) (tt 2) (dd 0) (ar 21) (ar 22) (N - 1) c ar j = ar j := fun h1 h2 => rq_row h1 h2 _ _ _
  rw [hrq]
  generalize rq true (tt 0) (tt 1) (tt 2) (dd 0) (ar 21) (ar 22) (N - 1) c ar = m at *
  have mx : ∀ {j : Nat}, 7 ≤ j → j ≤ 22 → mix m s9 j = m j := fun a b => by funext i; unfold mix; rw [if_neg (by omega)]
  have m0 : ∀ {i : Nat}, i ≠ 6 → mix m s9 0 i = ar 0 i := fun a => by unfold mix; rw [if_neg (by omega), rR (by decide) (by decide)]
  have rA : ∀ {j : Nat}, 7 ≤ j → j ≤ 22 → j ≠ 15 → j ≠ 16 → mix m s9 j = ar j := fun a b x y => (mx a b).trans (rR x y)
  refine ⟨?_, ?_, ?_, ?_, ?_, hft, c7, ?_, ?_, fun z w => ?_⟩
  · unfold cT
    rw [m0 (by decide), m0 (by decide), rA (by decide) (by decide) (by decide) (by decide), rA (by decide) (by decide) (by decide) (by decide), rA (by decide) (by decide) (by decide) (by decide), rA (by decide) (by decide) (by decide) (by decide), dR (by decide)]
    exact c1
  · unfold cB
    rw [rA (by decide) (by decide) (by decide) (by decide), rA (by decide) (by decide) (by decide) (by decide)]
    exact c2
  · unfold cW
    rw [rA (by decide) (by decide) (by decide) (by decide), dR (by decide), dR (by decide)]
    exact c3
  · rw [mx (by decide) (by decide), mx (by decide) (by decide), mx (by decide) (by decide)]
    exact q1
  · rw [rA (by decide) (by decide) (by decide) (by decide), rA (by decide) (by decide) (by decide) (by decide), rA (by decide) (by decide) (by decide) (by decide)]
    exact c5
  · rw [m0 (by decide)]; exact c8
  · rw [m0 (by decide)]; exact c9
  · exact GP_mono hI (dR (by decide)) (fun _ _ q => by rw [dR (by decide)]; exact q) (dR (by decide)) (dR (by decide)) (dR (by decide)) (rA (by decide) (by decide) (by decide) (by decide)) (rA (by decide) (by decide) (by decide) (by decide)) (rA (by decide) (by decide) (by decide) (by decide)) (N - 1) (by omega) hG
end CX
