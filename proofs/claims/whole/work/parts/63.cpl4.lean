/-! commit and respond over the tree: the two sides go together -/
section CE
variable {tt bb ee : Nat → Nat → Nat} {K lo ln d0 : Nat → Nat} {N lc : Nat}
theorem cC_or {dd ar : Nat → Nat → Nat} (hF : cF tt bb ee K N lc ln d0 dd ar) (hC : cC dd ar) (k a : Nat) (lr : Bool) : cF tt bb ee K N lc ln d0 (zs (zs (zs dd 4 k a) 7 0 (dr (dd 7 0))) 5 k (dv (dr (dd 7 0)))) (cmO k lr ar) ∧ cC (zs (zs (zs dd 4 k a) 7 0 (dr (dd 7 0))) 5 k (dv (dr (dd 7 0)))) (cmO k lr ar) := by
  refine ⟨cF_of hF ?_ ?_ (cmO_row (by unfold cRow; decide) _ _ _) (cmO_row (by unfold cRow; decide) _ _ _) (cmO_row (by unfold cRow; decide) _ _ _), ?_, ?_⟩
  · rw [zs_row _ _ _ (by decide), zs_row _ _ _ (by decide), zs_row _ _ _ (by decide)]
  · rw [zs_row _ _ _ (by decide), zs_row _ _ _ (by decide), zs_row _ _ _ (by decide)]
  · unfold cmO
    rw [zs_nj _ _ _ _ (by decide), zs_eq, zs_nj _ _ _ _ (by decide), zs_nj _ _ _ _ (by decide), zs_eq, hC.1]
  · unfold cmO
    rw [zs_row _ _ _ (by decide), zs_row _ _ _ (by decide), zs_row _ _ _ (by decide)]
    rw [zs_row ar _ _ (show 14 ≠ 0 by decide) |> fun h => (by rw [zs_row _ _ _ (by decide), zs_row _ _ _ (by decide), h] : zs (zs (zs ar 0 5 (dr (ar 0 5))) 22 k (dv (dr (ar 0 5)))) 21 k (if lr = true then 1 else 0) 14 = ar 14)]
    rw [zs_row ar _ _ (show 15 ≠ 0 by decide) |> fun h => (by rw [zs_row _ _ _ (by decide), zs_row _ _ _ (by decide), h] : zs (zs (zs ar 0 5 (dr (ar 0 5))) 22 k (dv (dr (ar 0 5)))) 21 k (if lr = true then 1 else 0) 15 = ar 15)]
    rw [zs_row ar _ _ (show 16 ≠ 0 by decide) |> fun h => (by rw [zs_row _ _ _ (by decide), zs_row _ _ _ (by decide), h] : zs (zs (zs ar 0 5 (dr (ar 0 5))) 22 k (dv (dr (ar 0 5)))) 21 k (if lr = true then 1 else 0) 16 = ar 16)]
    exact hC.2
theorem cC_orS {dd ar : Nat → Nat → Nat} (hF : cF tt bb ee K N lc ln d0 dd ar) (hC : cC dd ar) (k : Nat) (lr : Bool) : cF tt bb ee K N lc ln d0 (zs dd 7 0 (dr (dd 7 0))) (cmO k lr ar) ∧ cC (zs dd 7 0 (dr (dd 7 0))) (cmO k lr ar) := by
  refine ⟨cF_of hF ?_ ?_ (cmO_row (by unfold cRow; decide) _ _ _) (cmO_row (by unfold cRow; decide) _ _ _) (cmO_row (by unfold cRow; decide) _ _ _), ?_, ?_⟩
  · rw [zs_row _ _ _ (by decide)]
  · rw [zs_row _ _ _ (by decide)]
  · unfold cmO
    rw [zs_eq, zs_nj _ _ _ _ (by decide), zs_nj _ _ _ _ (by decide), zs_eq, hC.1]
  · have h2 := (cC_or hF hC k 0 lr).2.2
    rw [zs_row _ _ _ (by decide), zs_row _ _ _ (by decide), zs_row _ _ _ (by decide)] at h2
    rw [zs_row _ _ _ (by decide)]
    exact h2
/-- the left tree's good path stands behind the right tree's commitment -/
theorem GP_right (hT : tI (tt 0) (tt 1) (tt 2) lo N) (hlf : ∀ k, k < N → tt 0 k = 0 → d0 k < lc ∧ ln (d0 k) = k) {l r : Nat} (hl : l < N) (hr : r < N) (hlr : l < lo r) {dd ar : Nat → Nat → Nat} (h0 : dd 0 = d0) (real : Bool) (c c' : Nat) (hG : GP tt dd ar l) : GP tt (dc tt bb ee K r real c dd) (cm (tt 0) (tt 1) (tt 2) d0 r real c' ar) l := by
  refine GP_ag hT l hl (fun i x y => ⟨fun j hj _ => dc_out hT r hr real c dd j i hj (by omega), (cm_out hT r hr real c' ar).1 21 i (Or.inl rfl) (by omega), (cm_out hT r hr real c' ar).1 22 i (Or.inr rfl) (by omega), fun hi => ?_⟩) hG
  refine (cm_out hT r hr real c' ar).2 _ (fun i' x' y' z' e => ?_)
  have a := (hlf i' (by omega) z').2
  have b := (hlf i (by omega) hi).2
  rw [e, h0, b] at a
  omega
def cmdc (tt bb ee : Nat → Nat → Nat) (K ln d0 : Nat → Nat) (N lc k : Nat) : Prop := ∀ (real : Bool) (c c' : Nat) (dd ar : Nat → Nat → Nat), (real = false → c = c' ∧ c < 5003) → cF tt bb ee K N lc ln d0 dd ar → cC dd ar → cC (dc tt bb ee K k real c dd) (cm (tt 0) (tt 1) (tt 2) d0 k real c' ar) ∧ (real = true → K k = 1 → GP tt (dc tt bb ee K k real c dd) (cm (tt 0) (tt 1) (tt 2) d0 k real c' ar) k)
theorem cmdc_leaf (hT : tI (tt 0) (tt 1) (tt 2) lo N) (hK2 : ∀ k, k < N → K k < 2) (hlf : ∀ k, k < N → tt 0 k = 0 → d0 k < lc ∧ ln (d0 k) = k) {k : Nat} (hk : k < N) (h0 : tt 0 k = 0) : cmdc tt bb ee K ln d0 N lc k := by
  intro real c c' dd ar hc hF hC
  have hKe := hF.2.1 k hk
  obtain ⟨a, b⟩ := hlf k hk h0
  rw [cm_leaf h0]
  obtain ⟨e1, e2⟩ := dc_leaf_eq hF h0 a b real c c' hc hC
  refine ⟨e1, fun hreal hKk => ?_⟩
  have r1 : dc tt bb ee K k real c dd 1 = dd 1 := dc_row1 _ _ _ _ (by decide)
  have r0 : dc tt bb ee K k real c dd 0 = dd 0 := dc_row1 _ _ _ _ (by decide)
  rw [GP_0 h0, e2 hreal, r1, r0, hF.1]
  unfold dK at hKe
  rw [if_pos h0] at hKe
  refine ⟨hKe.symm.trans hKk, rfl, ?_⟩
  rw [cmL_20, if_pos rfl]
  exact dv_lt _
theorem cmdc_and (hT : tI (tt 0) (tt 1) (tt 2) lo N) (hK2 : ∀ k, k < N → K k < 2) (hlf : ∀ k, k < N → tt 0 k = 0 → d0 k < lc ∧ ln (d0 k) = k) {k : Nat} (hk : k < N) (hn : tt 0 k ≠ 0) (hl : tt 1 k < k) (hr : tt 2 k < k) (g3 : tt 1 k < lo (tt 2 k)) (i1 : cmdc tt bb ee K ln d0 N lc (tt 1 k)) (i2 : cmdc tt bb ee K ln d0 N lc (tt 2 k)) (h0 : tt 0 k = 1) : cmdc tt bb ee K ln d0 N lc k := by
  intro real c c' dd ar hc hF hC
  have hKe := hF.2.1 k hk
  rw [dc_and h0 hl hr, cm_and h0 hl hr]
  obtain ⟨p1, p2⟩ := i1 real c c' dd ar hc hF hC
  have hF1 := cF_step hF (tt 1 k) real c c' (kd := tt 0) (lf := tt 1) (rt := tt 2) (lv := d0)
  obtain ⟨q1, q2⟩ := i2 real c c' _ _ hc hF1 p1
  refine ⟨q1, fun hreal hKk => ?_⟩
  have hb : K (tt 1 k) = 1 ∧ K (tt 2 k) = 1 := by
    unfold dK at hKe
    rw [if_neg hn, if_pos h0, hKk] at hKe
    by_cases e : K (tt 1 k) = 1 ∧ K (tt 2 k) = 1
    · exact e
    · rw [if_neg e] at hKe; exact absurd hKe (by decide)
  rw [GP_1 h0 hl hr]
  exact ⟨GP_right hT hlf (by omega) (by omega) g3 hF1.1 real c c' (p2 hreal hb.1), q2 hreal hb.2⟩
theorem cmdc_orS (hT : tI (tt 0) (tt 1) (tt 2) lo N) (hK2 : ∀ k, k < N → K k < 2) (hlf : ∀ k, k < N → tt 0 k = 0 → d0 k < lc ∧ ln (d0 k) = k) {k : Nat} (hk : k < N) (hn : tt 0 k ≠ 0) (hl : tt 1 k < k) (hr : tt 2 k < k) (g3 : tt 1 k < lo (tt 2 k)) (i1 : cmdc tt bb ee K ln d0 N lc (tt 1 k)) (i2 : cmdc tt bb ee K ln d0 N lc (tt 2 k)) {dd ar : Nat → Nat → Nat} (hF : cF tt bb ee K N lc ln d0 dd ar) (hC : cC dd ar) (h0 : tt 0 k = 2) {c : Nat} (hc5 : c < 5003) : cC (dc tt bb ee K k false c dd) (cm (tt 0) (tt 1) (tt 2) d0 k false c ar) ∧ (false = true → K k = 1 → GP tt (dc tt bb ee K k false c dd) (cm (tt 0) (tt 1) (tt 2) d0 k false c ar) k) := by
  have h27 : ar 27 (tt 1 k) = K (tt 1 k) := hF.2.2.2 _ (by omega)
  have hdv := dv_lt (dr (dd 7 0))
  have hcm := cm_or (kd := tt 0) (lf := tt 1) (rt := tt 2) (lv := d0) h0 hl hr false c ar
  rw [Bool.false_and, Bool.false_and, if_neg (by decide), ← hC.1] at hcm
  have hdc := dc_orS (bb := bb) (ee := ee) (K := K) h0 hl hr c dd
  obtain ⟨hF0, hC0⟩ := cC_orS hF hC k false
  generalize hsd : dr (dd 7 0) = sd at *
  generalize hxx : dv sd = x at *
  rw [hdc, hcm]
  obtain ⟨p1, -⟩ := i1 false x x _ _ (fun _ => ⟨rfl, hdv⟩) hF0 hC0
  have hF1 := cF_step hF0 (tt 1 k) false x x (kd := tt 0) (lf := tt 1) (rt := tt 2) (lv := d0)
  obtain ⟨q1, -⟩ := i2 false (ls5 c x) (ls5 c x) _ _ (fun _ => ⟨rfl, ls5_lt _ _⟩) hF1 p1
  exact ⟨q1, fun h => absurd h (by decide)⟩
theorem cmdc_orL (hT : tI (tt 0) (tt 1) (tt 2) lo N) (hK2 : ∀ k, k < N → K k < 2) (hlf : ∀ k, k < N → tt 0 k = 0 → d0 k < lc ∧ ln (d0 k) = k) {k : Nat} (hk : k < N) (hn : tt 0 k ≠ 0) (hl : tt 1 k < k) (hr : tt 2 k < k) (g3 : tt 1 k < lo (tt 2 k)) (i1 : cmdc tt bb ee K ln d0 N lc (tt 1 k)) (i2 : cmdc tt bb ee K ln d0 N lc (tt 2 k)) {dd ar : Nat → Nat → Nat} (hF : cF tt bb ee K N lc ln d0 dd ar) (hC : cC dd ar) (h0 : tt 0 k = 2) (hKl : K (tt 1 k) = 1) (c c' : Nat) : cC (dc tt bb ee K k true c dd) (cm (tt 0) (tt 1) (tt 2) d0 k true c' ar) ∧ (true = true → K k = 1 → GP tt (dc tt bb ee K k true c dd) (cm (tt 0) (tt 1) (tt 2) d0 k true c' ar) k) := by
  have hKe := hF.2.1 k hk
  have h27 : ar 27 (tt 1 k) = K (tt 1 k) := hF.2.2.2 _ (by omega)
  have hdv := dv_lt (dr (dd 7 0))
  have hcm := cm_or (kd := tt 0) (lf := tt 1) (rt := tt 2) (lv := d0) h0 hl hr true c' ar
  rw [h27, decide_eq_true hKl, if_pos rfl, ← hC.1] at hcm
  have hcm : cm (tt 0) (tt 1) (tt 2) d0 k true c' ar = cm (tt 0) (tt 1) (tt 2) d0 (tt 2 k) false (dv (dr (dd 7 0))) (cm (tt 0) (tt 1) (tt 2) d0 (tt 1 k) true (dv (dr (dd 7 0))) (cmO k true ar)) := hcm
  have hdc := dc_orL (bb := bb) (ee := ee) h0 hl hr hKl c dd
  obtain ⟨hF0, hC0⟩ := cC_or hF hC k (K (tt 1 k)) true
  generalize hsd : dr (dd 7 0) = sd at *
  generalize hxx : dv sd = x at *
  rw [hdc, hcm]
  obtain ⟨p1, p2⟩ := i1 true 0 x _ _ (fun h => absurd h (by decide)) hF0 hC0
  have hF1 := cF_step hF0 (tt 1 k) true 0 x (kd := tt 0) (lf := tt 1) (rt := tt 2) (lv := d0)
  obtain ⟨q1, -⟩ := i2 false x x _ _ (fun _ => ⟨rfl, hdv⟩) hF1 p1
  refine ⟨q1, fun _ hKk => ?_⟩
  have e4v : K (tt 1 k) = 1 := hKl
  rw [GP_2 h0 hl hr]
  rw [dc_out hT _ (by omega) _ _ _ 5 k (by decide) (Or.inr hr), dc_out hT _ (by omega) _ _ _ 5 k (by decide) (Or.inr hl), dc_out hT _ (by omega) _ _ _ 4 k (by decide) (Or.inr hr), dc_out hT _ (by omega) _ _ _ 4 k (by decide) (Or.inr hl)]
  rw [(cm_out hT (tt 2 k) (by omega) _ _ _).1 21 k (Or.inl rfl) (Or.inr hr), (cm_out hT (tt 1 k) (by omega) _ _ _).1 21 k (Or.inl rfl) (Or.inr hl), (cm_out hT (tt 2 k) (by omega) _ _ _).1 22 k (Or.inr rfl) (Or.inr hr), (cm_out hT (tt 1 k) (by omega) _ _ _).1 22 k (Or.inr rfl) (Or.inr hl)]
  have e4 : zs (zs (zs dd 4 k (K (tt 1 k))) 7 0 sd) 5 k x 4 k = 1 := by
    rw [zs_nj _ _ _ _ (by decide), zs_nj _ _ _ _ (by decide), zs_eq, e4v]
  rw [e4, zs_eq]
  have e22 : cmO k true ar 22 k = x := by
    unfold cmO
    rw [zs_nj _ _ _ _ (by decide), zs_eq, ← hC.1, hsd, hxx]
  have e21 : cmO k true ar 21 k = 1 := by
    unfold cmO
    rw [zs_eq]; rfl
  rw [e22, e21]
  exact ⟨rfl, hdv, rfl, by decide, fun _ => GP_right hT hlf (by omega) (by omega) g3 hF1.1 false _ _ (p2 rfl hKl), fun h => absurd rfl h⟩
theorem cmdc_orR (hT : tI (tt 0) (tt 1) (tt 2) lo N) (hK2 : ∀ k, k < N → K k < 2) (hlf : ∀ k, k < N → tt 0 k = 0 → d0 k < lc ∧ ln (d0 k) = k) {k : Nat} (hk : k < N) (hn : tt 0 k ≠ 0) (hl : tt 1 k < k) (hr : tt 2 k < k) (g3 : tt 1 k < lo (tt 2 k)) (i1 : cmdc tt bb ee K ln d0 N lc (tt 1 k)) (i2 : cmdc tt bb ee K ln d0 N lc (tt 2 k)) {dd ar : Nat → Nat → Nat} (hF : cF tt bb ee K N lc ln d0 dd ar) (hC : cC dd ar) (h0 : tt 0 k = 2) (hKl : ¬ K (tt 1 k) = 1) (c c' : Nat) : cC (dc tt bb ee K k true c dd) (cm (tt 0) (tt 1) (tt 2) d0 k true c' ar) ∧ (true = true → K k = 1 → GP tt (dc tt bb ee K k true c dd) (cm (tt 0) (tt 1) (tt 2) d0 k true c' ar) k) := by
  have hKe := hF.2.1 k hk
  have h27 : ar 27 (tt 1 k) = K (tt 1 k) := hF.2.2.2 _ (by omega)
  have hdv := dv_lt (dr (dd 7 0))
  have hcm := cm_or (kd := tt 0) (lf := tt 1) (rt := tt 2) (lv := d0) h0 hl hr true c' ar
  rw [h27, decide_eq_false hKl, if_pos rfl, ← hC.1] at hcm
  have hcm : cm (tt 0) (tt 1) (tt 2) d0 k true c' ar = cm (tt 0) (tt 1) (tt 2) d0 (tt 2 k) true (dv (dr (dd 7 0))) (cm (tt 0) (tt 1) (tt 2) d0 (tt 1 k) false (dv (dr (dd 7 0))) (cmO k false ar)) := hcm
  have hdc := dc_orR (bb := bb) (ee := ee) h0 hl hr hKl c dd
  obtain ⟨hF0, hC0⟩ := cC_or hF hC k (K (tt 1 k)) false
  generalize hsd : dr (dd 7 0) = sd at *
  generalize hxx : dv sd = x at *
  rw [hdc, hcm]
  have hKl0 : K (tt 1 k) = 0 := by have := hK2 (tt 1 k) (by omega); omega
  obtain ⟨p1, -⟩ := i1 false x x _ _ (fun _ => ⟨rfl, hdv⟩) hF0 hC0
  have hF1 := cF_step hF0 (tt 1 k) false x x (kd := tt 0) (lf := tt 1) (rt := tt 2) (lv := d0)
  obtain ⟨q1, q2⟩ := i2 true 0 x _ _ (fun h => absurd h (by decide)) hF1 p1
  refine ⟨q1, fun _ hKk => ?_⟩
  have e4v : K (tt 1 k) = 0 := hKl0
  have hKr : K (tt 2 k) = 1 := by
    unfold dK at hKe
    rw [if_neg hn, if_neg (by omega), hKk] at hKe
    by_cases e : K (tt 1 k) = 1 ∨ K (tt 2 k) = 1
    · exact e.resolve_left hKl
    · rw [if_neg e] at hKe; exact absurd hKe (by decide)
  rw [GP_2 h0 hl hr]
  rw [dc_out hT _ (by omega) _ _ _ 5 k (by decide) (Or.inr hr), dc_out hT _ (by omega) _ _ _ 5 k (by decide) (Or.inr hl), dc_out hT _ (by omega) _ _ _ 4 k (by decide) (Or.inr hr), dc_out hT _ (by omega) _ _ _ 4 k (by decide) (Or.inr hl)]
  rw [(cm_out hT (tt 2 k) (by omega) _ _ _).1 21 k (Or.inl rfl) (Or.inr hr), (cm_out hT (tt 1 k) (by omega) _ _ _).1 21 k (Or.inl rfl) (Or.inr hl), (cm_out hT (tt 2 k) (by omega) _ _ _).1 22 k (Or.inr rfl) (Or.inr hr), (cm_out hT (tt 1 k) (by omega) _ _ _).1 22 k (Or.inr rfl) (Or.inr hl)]
  have e4 : zs (zs (zs dd 4 k (K (tt 1 k))) 7 0 sd) 5 k x 4 k = 0 := by
    rw [zs_nj _ _ _ _ (by decide), zs_nj _ _ _ _ (by decide), zs_eq, e4v]
  rw [e4, zs_eq]
  have e22 : cmO k false ar 22 k = x := by
    unfold cmO
    rw [zs_nj _ _ _ _ (by decide), zs_eq, ← hC.1, hsd, hxx]
  have e21 : cmO k false ar 21 k = 0 := by
    unfold cmO
    rw [zs_eq]; rfl
  rw [e22, e21]
  exact ⟨rfl, hdv, rfl, by decide, fun h => absurd h (by decide), fun _ => q2 rfl hKr⟩
theorem cm_dc (hT : tI (tt 0) (tt 1) (tt 2) lo N) (hK2 : ∀ k, k < N → K k < 2) (hlf : ∀ k, k < N → tt 0 k = 0 → d0 k < lc ∧ ln (d0 k) = k) : ∀ (k : Nat), k < N → cmdc tt bb ee K ln d0 N lc k := by
  intro k
  induction k using Nat.strongRecOn with
  | ind k ih =>
    intro hk
    rcases tI_at hT hk with h0 | ⟨h0, hn, hl, hr, g1, g2, g3, g4⟩
    · exact cmdc_leaf hT hK2 hlf hk h0
    · have i1 := ih (tt 1 k) hl (by omega)
      have i2 := ih (tt 2 k) hr (by omega)
      rcases h0 with h0 | h0
      · exact cmdc_and hT hK2 hlf hk hn hl hr g3 i1 i2 h0
      · intro real c c' dd ar hc hF hC
        cases real
        · obtain ⟨rfl, hc5⟩ := hc rfl
          exact cmdc_orS hT hK2 hlf hk hn hl hr g3 i1 i2 hF hC h0 hc5
        · by_cases hKl : K (tt 1 k) = 1
          · exact cmdc_orL hT hK2 hlf hk hn hl hr g3 i1 i2 hF hC h0 hKl c c'
          · exact cmdc_orR hT hK2 hlf hk hn hl hr g3 i1 i2 hF hC h0 hKl c c'
theorem rq_dq (hT : tI (tt 0) (tt 1) (tt 2) lo N) {lr dn : Nat → Nat} : ∀ (k : Nat), k < N → ∀ (c : Nat) (dd ar : Nat → Nat → Nat), dd 0 = d0 → ar 21 = lr → ar 22 = dn → (∀ i, i < N → tt 0 i = 0 → dd 1 i = 1 → dd 2 i = ar 13 (dd 0 i)) → GP tt dd ar k → cP (dd 6) (ar 14) (ar 15) (ar 16) → cP (dq tt k c dd 6) (rq true (tt 0) (tt 1) (tt 2) d0 lr dn k c ar 14) (rq true (tt 0) (tt 1) (tt 2) d0 lr dn k c ar 15) (rq true (tt 0) (tt 1) (tt 2) d0 lr dn k c ar 16) := by
  intro k
  induction k using Nat.strongRecOn with
  | ind k ih =>
    intro hk c dd ar hd hlr hdn hw hG hP
    rcases tI_at hT hk with h0 | ⟨h0, hn, hl, hr, g1, g2, g3, g4⟩
    · rw [GP_0 h0] at hG
      rw [rq_leaf h0, dq_leaf h0, va_up_self]
      unfold rspL
      rw [zs_row _ _ _ (by decide), zs_row _ _ _ (by decide), zs_row _ _ _ (show 15 ≠ 16 by decide), zs_rw, zs_rw, zs_row _ _ _ (by decide), ← hd, ← hG.2.1, ← hw k hk h0 hG.1, Nat.add_mod_mod]
      exact cP_up2 hP
    · rcases h0 with h0 | h0
      · rw [GP_1 h0 hl hr] at hG
        rw [dq_and h0 hl hr, rq_and h0 hl hr, if_pos rfl]
        have p1 := ih (tt 1 k) hl (by omega) c dd ar hd hlr hdn hw hG.1 hP
        have r13 : ∀ {j : Nat}, j ≠ 15 → j ≠ 16 → rq true (tt 0) (tt 1) (tt 2) d0 lr dn (tt 1 k) c ar j = ar j := fun h1 h2 => rq_row h1 h2 _ _ _
        refine ih (tt 2 k) hr (by omega) c _ _ ((dq_row (by decide) _ _ _).trans hd) ((r13 (by decide) (by decide)).trans hlr) ((r13 (by decide) (by decide)).trans hdn) ?_ ?_ p1
        · rw [dq_row (by decide), dq_row (by decide), dq_row (by decide), r13 (by decide) (by decide)]
          exact hw
        · refine GP_ag hT (tt 2 k) (by omega) (fun i x y => ⟨fun j hj _ => by rw [dq_row (by omega)], by rw [r13 (by decide) (by decide)], by rw [r13 (by decide) (by decide)], fun _ => by rw [r13 (by decide) (by decide)]⟩) hG.2
      · rw [GP_2 h0 hl hr] at hG
        obtain ⟨a, b, e, f, g, h⟩ := hG
        rw [hlr] at e
        rw [hdn] at a
        by_cases z : dd 4 k = 1
        · rw [dq_orL h0 hl hr _ _ z, rq_orL h0 hl hr (by rw [← e]; exact z), ← a]
          exact ih (tt 1 k) hl (by omega) _ dd ar hd hlr hdn hw (g z) hP
        · rw [dq_orR h0 hl hr _ _ z, rq_orR h0 hl hr (by rw [← e]; exact z), ← a]
          exact ih (tt 2 k) hr (by omega) _ dd ar hd hlr hdn hw (h z) hP
end CE
