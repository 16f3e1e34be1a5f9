/-! commit and respond on the two sides -/
def GP (tt dd ar : Nat → Nat → Nat) (k : Nat) : Prop :=
  if tt 0 k = 0 then dd 1 k = 1 ∧ dd 3 k = ar 20 (dd 0 k) ∧ dd 3 k < 5003
  else if h : tt 1 k < k ∧ tt 2 k < k then
    (if tt 0 k = 1 then GP tt dd ar (tt 1 k) ∧ GP tt dd ar (tt 2 k)
    else dd 5 k = ar 22 k ∧ dd 5 k < 5003 ∧ dd 4 k = ar 21 k ∧ dd 4 k < 2 ∧ (dd 4 k = 1 → GP tt dd ar (tt 1 k)) ∧ (dd 4 k ≠ 1 → GP tt dd ar (tt 2 k)))
  else False
termination_by k
decreasing_by all_goals first | exact h.1 | exact h.2
section CG
variable {tt dd ar : Nat → Nat → Nat} {k N : Nat} {lo : Nat → Nat}
theorem GP_0 (h0 : tt 0 k = 0) : GP tt dd ar k ↔ (dd 1 k = 1 ∧ dd 3 k = ar 20 (dd 0 k) ∧ dd 3 k < 5003) := by
  rw [GP, if_pos h0]
theorem GP_1 (h0 : tt 0 k = 1) (hl : tt 1 k < k) (hr : tt 2 k < k) : GP tt dd ar k ↔ (GP tt dd ar (tt 1 k) ∧ GP tt dd ar (tt 2 k)) := by
  rw [GP, if_neg (by rw [h0]; decide), dif_pos ⟨hl, hr⟩, if_pos h0]
theorem GP_2 (h0 : tt 0 k = 2) (hl : tt 1 k < k) (hr : tt 2 k < k) : GP tt dd ar k ↔ (dd 5 k = ar 22 k ∧ dd 5 k < 5003 ∧ dd 4 k = ar 21 k ∧ dd 4 k < 2 ∧ (dd 4 k = 1 → GP tt dd ar (tt 1 k)) ∧ (dd 4 k ≠ 1 → GP tt dd ar (tt 2 k))) := by
  rw [GP, if_neg (by rw [h0]; decide), dif_pos ⟨hl, hr⟩, if_neg (by rw [h0]; decide)]
theorem tI_at (hT : tI (tt 0) (tt 1) (tt 2) lo N) (hk : k < N) : (tt 0 k = 0) ∨ ((tt 0 k = 1 ∨ tt 0 k = 2) ∧ tt 0 k ≠ 0 ∧ tt 1 k < k ∧ tt 2 k < k ∧ lo k ≤ lo (tt 1 k) ∧ lo (tt 1 k) ≤ tt 1 k ∧ tt 1 k < lo (tt 2 k) ∧ lo (tt 2 k) ≤ tt 2 k) := by
  obtain ⟨a, b, c⟩ := hT k hk
  by_cases h0 : tt 0 k = 0
  · exact Or.inl h0
  · obtain ⟨c1, c2, c3, c4, c5⟩ := c h0
    exact Or.inr ⟨by omega, h0, by omega, c5, c1, c2, c3, c4⟩
theorem GP_ag {d1 a1 : Nat → Nat → Nat} (hT : tI (tt 0) (tt 1) (tt 2) lo N) : ∀ k, k < N → (∀ i, lo k ≤ i → i ≤ k → (∀ j, j < 6 → j ≠ 2 → d1 j i = dd j i) ∧ a1 21 i = ar 21 i ∧ a1 22 i = ar 22 i ∧ (tt 0 i = 0 → a1 20 (dd 0 i) = ar 20 (dd 0 i))) → GP tt dd ar k → GP tt d1 a1 k := by
  intro k
  induction k using Nat.strongRecOn with
  | ind k ih =>
    intro hk ha hG
    have hle := (hT k hk).2.1
    obtain ⟨e1, e2, e3, e4⟩ := ha k hle (Nat.le_refl _)
    rcases tI_at hT hk with h0 | ⟨h0, hn, hl, hr, g1, g2, g3, g4⟩
    · rw [GP_0 h0] at hG ⊢
      rw [e1 1 (by decide) (by decide), e1 3 (by decide) (by decide), e1 0 (by decide) (by decide), e4 h0]
      exact hG
    · rcases h0 with h0 | h0
      · rw [GP_1 h0 hl hr] at hG ⊢
        exact ⟨ih _ hl (by omega) (fun i x y => ha i (by omega) (by omega)) hG.1, ih _ hr (by omega) (fun i x y => ha i (by omega) (by omega)) hG.2⟩
      · rw [GP_2 h0 hl hr] at hG ⊢
        obtain ⟨a, b, c, d, f, g⟩ := hG
        rw [e1 5 (by decide) (by decide), e1 4 (by decide) (by decide), e2, e3]
        exact ⟨a, b, c, d, fun z => ih _ hl (by omega) (fun i x y => ha i (by omega) (by omega)) (f z), fun z => ih _ hr (by omega) (fun i x y => ha i (by omega) (by omega)) (g z)⟩
/-- the good path as respond's own premisses ask for it -/
theorem GP_gD {lc : Nat} {ln : Nat → Nat} (h : cT tt dd N lc ln lo ar) (hw : cW dd lc ln ar) : gD tt dd N (GP tt dd ar) := by
  obtain ⟨-, -, -, h8, hI, ht, -⟩ := id h
  intro k hk hG
  rcases tI_at hI hk with h0 | ⟨h0, hn, hl, hr, -⟩
  · refine ⟨fun _ => ?_, fun z => absurd (h0.symm.trans z) (by decide), fun z => absurd (h0.symm.trans z) (by decide)⟩
    rw [GP_0 h0] at hG
    obtain ⟨a, b, c⟩ := (ht k hk).2.2 h0
    have w := hw.2 (dd 0 k) b
    rw [c] at w
    rcases w with ⟨w1, w2, w3⟩ | ⟨w1, -⟩
    · exact ⟨by omega, by omega, hG.2.2⟩
    · rw [w1] at hG; exact absurd hG.1 (by decide)
  · refine ⟨fun z => absurd z hn, fun z => (GP_1 z hl hr).mp hG, fun z => ?_⟩
    obtain ⟨a, b, c, d, f, g⟩ := (GP_2 z hl hr).mp hG
    exact ⟨b, d, f, g⟩
theorem GP_gC {lc : Nat} {ln : Nat → Nat} (h : cT tt dd N lc ln lo ar) (hw : cW dd lc ln ar) : gC (ar 7) (ar 8) (ar 9) (ar 10) (ar 21) (ar 22) (ar 13) (ar 20) N (GP tt dd ar) := by
  obtain ⟨-, -, -, h8, hI, ht, -⟩ := id h
  intro k hk hG
  obtain ⟨t1, t2, t3⟩ := ht k hk
  rw [t1]
  rcases tI_at hI hk with h0 | ⟨h0, hn, hl, hr, -⟩
  · refine ⟨fun _ => ?_, fun z => absurd (h0.symm.trans z) (by decide), fun z => absurd (h0.symm.trans z) (by decide)⟩
    rw [GP_0 h0] at hG
    obtain ⟨a, b, c⟩ := t3 h0
    have w := hw.2 (dd 0 k) b
    rw [c] at w
    rw [a, ← hG.2.1]
    rcases w with ⟨w1, w2, w3⟩ | ⟨w1, -⟩
    · exact ⟨w3, hG.2.2⟩
    · rw [w1] at hG; exact absurd hG.1 (by decide)
  · rw [(t2 hn).1, (t2 hn).2]
    refine ⟨fun z => absurd z hn, fun z => (GP_1 z hl hr).mp hG, fun z => ?_⟩
    obtain ⟨a, b, c, d, f, g⟩ := (GP_2 z hl hr).mp hG
    rw [← a, ← c]
    exact ⟨b, d, f, g⟩
end CG
/-- a commitment leaves alone what lies outside its tree -/
theorem dc_out {tt bb ee : Nat → Nat → Nat} {K lo : Nat → Nat} {N : Nat} (hT : tI (tt 0) (tt 1) (tt 2) lo N) : ∀ (k : Nat), k < N → ∀ (real : Bool) (c : Nat) (dd : Nat → Nat → Nat) (j i : Nat), j < 6 → (i < lo k ∨ k < i) → dc tt bb ee K k real c dd j i = dd j i := by
  intro k
  induction k using Nat.strongRecOn with
  | ind k ih =>
    intro hk real c dd j i hj hi
    have hle := (hT k hk).2.1
    have e6 : j ≠ 6 := by omega
    have e7 : j ≠ 7 := by omega
    rcases tI_at hT hk with h0 | ⟨h0, hn, hl, hr, g1, g2, g3, g4⟩
    · rw [dc_leaf h0]
      unfold dcL
      cases real
      · rw [if_neg (by decide), va_up_ne _ _ e6, zs_nj _ _ _ _ e7]
      · rw [if_pos rfl, va_up_ne _ _ e6, zs_at, if_neg (by omega), zs_nj _ _ _ _ e7]
    · have i1 : ∀ (r : Bool) (c : Nat) (d : Nat → Nat → Nat), dc tt bb ee K (tt 1 k) r c d j i = d j i := fun r c d => ih _ hl (by omega) r c d j i hj (by omega)
      have i2 : ∀ (r : Bool) (c : Nat) (d : Nat → Nat → Nat), dc tt bb ee K (tt 2 k) r c d j i = d j i := fun r c d => ih _ hr (by omega) r c d j i hj (by omega)
      have z3 : (zs (zs (zs dd 4 k (K (tt 1 k))) 7 0 (dr (dd 7 0))) 5 k (dv (dr (dd 7 0)))) j i = dd j i := by
        rw [zs_at, if_neg (by omega), zs_nj _ _ _ _ e7, zs_at, if_neg (by omega)]
      rcases h0 with h0 | h0
      · rw [dc_and h0 hl hr, i2, i1]
      · cases real
        · rw [dc_orS h0 hl hr, i2, i1, zs_nj _ _ _ _ e7]
        · by_cases hK : K (tt 1 k) = 1
          · rw [dc_orL h0 hl hr hK, i2, i1, z3]
          · rw [dc_orR h0 hl hr hK, i2, i1, z3]
theorem cmL_21 (j i : Nat) (hj : j = 21 ∨ j = 22) (m : Nat) (real : Bool) (c : Nat) (ar : Nat → Nat → Nat) : cmL m real c ar j i = ar j i := by
  simp only [cmL]
  by_cases a0 : 0 < ar 11 (2 * m) <;> by_cases a1 : 0 < ar 11 (2 * m + 1) <;> rcases hj with rfl | rfl <;> simp [a0, a1, zs_at]
theorem cmL_20 (i : Nat) (m : Nat) (real : Bool) (c : Nat) (ar : Nat → Nat → Nat) : cmL m real c ar 20 i = if i = m then dv (dr (ar 0 5)) else ar 20 i := by
  simp only [cmL]
  by_cases a0 : 0 < ar 11 (2 * m) <;> by_cases a1 : 0 < ar 11 (2 * m + 1) <;> simp [a0, a1, zs_at]
theorem cm_out {tt : Nat → Nat → Nat} {lv lo : Nat → Nat} {N : Nat} (hT : tI (tt 0) (tt 1) (tt 2) lo N) : ∀ (k : Nat), k < N → ∀ (real : Bool) (c : Nat) (ar : Nat → Nat → Nat), (∀ j i, j = 21 ∨ j = 22 → (i < lo k ∨ k < i) → cm (tt 0) (tt 1) (tt 2) lv k real c ar j i = ar j i) ∧ ∀ m, (∀ i, lo k ≤ i → i ≤ k → tt 0 i = 0 → lv i ≠ m) → cm (tt 0) (tt 1) (tt 2) lv k real c ar 20 m = ar 20 m := by
  intro k
  induction k using Nat.strongRecOn with
  | ind k ih =>
    intro hk real c ar
    have hle := (hT k hk).2.1
    rcases tI_at hT hk with h0 | ⟨h0, hn, hl, hr, g1, g2, g3, g4⟩
    · rw [cm_leaf h0]
      exact ⟨fun j i hj _ => cmL_21 j i hj _ _ _ _, fun m hm => by rw [cmL_20, if_neg (fun e => hm k hle (Nat.le_refl _) h0 e.symm)]⟩
    · have i1 := fun r c a => ih (tt 1 k) hl (by omega) r c a
      have i2 := fun r c a => ih (tt 2 k) hr (by omega) r c a
      rcases h0 with h0 | h0
      · rw [cm_and h0 hl hr]
        refine ⟨fun j i hj hi => ?_, fun m hm => ?_⟩
        · rw [(i2 _ _ _).1 j i hj (by omega), (i1 _ _ _).1 j i hj (by omega)]
        · rw [(i2 _ _ _).2 m (fun i x y => hm i (by omega) (by omega)), (i1 _ _ _).2 m (fun i x y => hm i (by omega) (by omega))]
      · rw [cm_or h0 hl hr]
        refine ⟨fun j i hj hi => ?_, fun m hm => ?_⟩
        · rw [(i2 _ _ _).1 j i hj (by omega), (i1 _ _ _).1 j i hj (by omega)]
          unfold cmO
          rw [zs_at, if_neg (by omega), zs_at, if_neg (by omega), zs_at, if_neg (by omega)]
        · rw [(i2 _ _ _).2 m (fun i x y => hm i (by omega) (by omega)), (i1 _ _ _).2 m (fun i x y => hm i (by omega) (by omega))]
          unfold cmO
          rw [zs_nj _ _ _ _ (by decide), zs_nj _ _ _ _ (by decide), zs_nj _ _ _ _ (by decide)]
theorem cm_cong {kd lf rt lv kd' lf' rt' lv' : Nat → Nat} {N : Nat} (h : ∀ i, i < N → kd i = kd' i ∧ (kd' i ≠ 0 → lf i = lf' i ∧ rt i = rt' i ∧ lf' i < i ∧ rt' i < i) ∧ (kd' i = 0 → lv i = lv' i)) : ∀ (k : Nat), k < N → ∀ (real : Bool) (c : Nat) (ar : Nat → Nat → Nat), cm kd lf rt lv k real c ar = cm kd' lf' rt' lv' k real c ar := by
  intro k
  induction k using Nat.strongRecOn with
  | ind k ih =>
    intro hk real c ar
    obtain ⟨a, b, d⟩ := h k hk
    rw [cm, cm.eq_1 kd', a]
    by_cases h0 : kd' k = 0
    · rw [if_pos h0, if_pos h0, d h0]
    · obtain ⟨b1, b2, b3, b4⟩ := b h0
      rw [if_neg h0, if_neg h0, dif_pos (by rw [b1, b2]; exact ⟨b3, b4⟩), dif_pos ⟨b3, b4⟩, b1, b2]
      simp only [ih _ b3 (show lf' k < N by omega), ih _ b4 (show rt' k < N by omega)]
theorem rq_cong {ord : Bool} {kd lf rt lv kd' lf' rt' lv' lr dn : Nat → Nat} {N : Nat} (h : ∀ i, i < N → kd i = kd' i ∧ (kd' i ≠ 0 → lf i = lf' i ∧ rt i = rt' i ∧ lf' i < i ∧ rt' i < i) ∧ (kd' i = 0 → lv i = lv' i)) : ∀ (k : Nat), k < N → ∀ (c : Nat) (ar : Nat → Nat → Nat), rq ord kd lf rt lv lr dn k c ar = rq ord kd' lf' rt' lv' lr dn k c ar := by
  intro k
  induction k using Nat.strongRecOn with
  | ind k ih =>
    intro hk c ar
    obtain ⟨a, b, d⟩ := h k hk
    rw [rq, rq.eq_1 ord kd', a]
    by_cases h0 : kd' k = 0
    · rw [if_pos h0, if_pos h0, d h0]
    · obtain ⟨b1, b2, b3, b4⟩ := b h0
      rw [if_neg h0, if_neg h0, dif_pos (by rw [b1, b2]; exact ⟨b3, b4⟩), dif_pos ⟨b3, b4⟩, b1, b2]
      simp only [ih _ b3 (show lf' k < N by omega), ih _ b4 (show rt' k < N by omega)]
/-! respond: the order does not matter -/
theorem rspL_comm {n m : Nat} (h : n ≠ m) (x y : Nat) (o : Nat → Nat → Nat) : rspL (rspL o n x) m y = rspL (rspL o m y) n x := by
  funext j i
  simp only [rspL, zs_at]
  by_cases e1 : i = n
  · subst e1
    by_cases h15 : j = 15
    · subst h15; simp [h, Ne.symm h]
    · by_cases h16 : j = 16
      · subst h16; simp [h, Ne.symm h]
      · simp [h15, h16]
  · by_cases e2 : i = m
    · subst e2
      by_cases h15 : j = 15
      · subst h15; simp [h, Ne.symm h]
      · by_cases h16 : j = 16
        · subst h16; simp [h, Ne.symm h]
        · simp [h15, h16]
    · simp [e1, e2]
section CR
variable {tt : Nat → Nat → Nat} {lv lr dn lo : Nat → Nat} {N : Nat} {ord : Bool}
theorem rq_rspL (hT : tI (tt 0) (tt 1) (tt 2) lo N) (n x : Nat) : ∀ (k : Nat), k < N → (∀ i, lo k ≤ i → i ≤ k → tt 0 i = 0 → lv i ≠ n) → ∀ (c : Nat) (o : Nat → Nat → Nat), rq ord (tt 0) (tt 1) (tt 2) lv lr dn k c (rspL o n x) = rspL (rq ord (tt 0) (tt 1) (tt 2) lv lr dn k c o) n x := by
  intro k
  induction k using Nat.strongRecOn with
  | ind k ih =>
    intro hk hm c o
    have hle := (hT k hk).2.1
    rcases tI_at hT hk with h0 | ⟨h0, hn, hl, hr, g1, g2, g3, g4⟩
    · rw [rq_leaf h0, rq_leaf h0]
      exact rspL_comm (Ne.symm (hm k hle (Nat.le_refl _) h0)) _ _ _
    · have i1 := fun c o => ih (tt 1 k) hl (by omega) (fun i x y => hm i (by omega) (by omega)) c o
      have i2 := fun c o => ih (tt 2 k) hr (by omega) (fun i x y => hm i (by omega) (by omega)) c o
      rcases h0 with h0 | h0
      · rw [rq_and h0 hl hr, rq_and h0 hl hr]
        cases ord
        · rw [if_neg (by decide), if_neg (by decide), i2, i1]
        · rw [if_pos rfl, if_pos rfl, i1, i2]
      · by_cases h1 : lr k = 1
        · rw [rq_orL h0 hl hr h1, rq_orL h0 hl hr h1, i1]
        · rw [rq_orR h0 hl hr h1, rq_orR h0 hl hr h1, i2]
theorem rq_rq (hT : tI (tt 0) (tt 1) (tt 2) lo N) (hinj : ∀ i j, i < N → j < N → tt 0 i = 0 → tt 0 j = 0 → lv i = lv j → i = j) (r : Nat) (hr : r < N) (c' : Nat) : ∀ (k : Nat), k < N → (k < lo r ∨ r < lo k) → ∀ (c : Nat) (o : Nat → Nat → Nat), rq ord (tt 0) (tt 1) (tt 2) lv lr dn k c (rq ord (tt 0) (tt 1) (tt 2) lv lr dn r c' o) = rq ord (tt 0) (tt 1) (tt 2) lv lr dn r c' (rq ord (tt 0) (tt 1) (tt 2) lv lr dn k c o) := by
  intro k
  induction k using Nat.strongRecOn with
  | ind k ih =>
    intro hk hd c o
    have hle := (hT k hk).2.1
    have hler := (hT r hr).2.1
    rcases tI_at hT hk with h0 | ⟨h0, hn, hl, hr', g1, g2, g3, g4⟩
    · rw [rq_leaf h0, rq_leaf h0]
      refine (rq_rspL hT (lv k) c r hr (fun i x y z e => ?_) c' o).symm
      have := hinj i k (by omega) hk z h0 e
      omega
    · have i1 := fun c o => ih (tt 1 k) hl (by omega) (by omega) c o
      have i2 := fun c o => ih (tt 2 k) hr' (by omega) (by omega) c o
      rcases h0 with h0 | h0
      · rw [rq_and h0 hl hr', rq_and h0 hl hr']
        cases ord
        · rw [if_neg (by decide), if_neg (by decide), i2, i1]
        · rw [if_pos rfl, if_pos rfl, i1, i2]
      · by_cases h1 : lr k = 1
        · rw [rq_orL h0 hl hr' h1, rq_orL h0 hl hr' h1, i1]
        · rw [rq_orR h0 hl hr' h1, rq_orR h0 hl hr' h1, i2]
theorem rq_ord (hT : tI (tt 0) (tt 1) (tt 2) lo N) (hinj : ∀ i j, i < N → j < N → tt 0 i = 0 → tt 0 j = 0 → lv i = lv j → i = j) : ∀ (k : Nat), k < N → ∀ (c : Nat) (o : Nat → Nat → Nat), rq false (tt 0) (tt 1) (tt 2) lv lr dn k c o = rq true (tt 0) (tt 1) (tt 2) lv lr dn k c o := by
  intro k
  induction k using Nat.strongRecOn with
  | ind k ih =>
    intro hk c o
    rcases tI_at hT hk with h0 | ⟨h0, hn, hl, hr, g1, g2, g3, g4⟩
    · rw [rq_leaf h0, rq_leaf h0]
    · rcases h0 with h0 | h0
      · rw [rq_and h0 hl hr, rq_and h0 hl hr, if_neg (by decide), if_pos rfl, ih _ hl (by omega), ih _ hr (by omega)]
        exact rq_rq hT hinj (tt 2 k) (by omega) c (tt 1 k) (by omega) (Or.inl g3) c o
      · by_cases h1 : lr k = 1
        · rw [rq_orL h0 hl hr h1, rq_orL h0 hl hr h1, ih _ hl (by omega)]
        · rw [rq_orR h0 hl hr h1, rq_orR h0 hl hr h1, ih _ hr (by omega)]
end CR
