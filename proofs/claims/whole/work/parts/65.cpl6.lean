/-! tell, change, save, extract on the two sides -/
section CY
variable {tt bb ee dd ar : Nat → Nat → Nat} {N : Nat} {sc fk ln lo : Nat → Nat}
theorem cX_tell (h : cX tt bb ee dd N sc fk ln lo ar) {w x : Nat} (hw : w < sc 1) (hx : x < 5003) : cX tt bb ee (zs (zs dd 1 (ln w) 1) 2 (ln w) x) N sc fk ln lo (zs ar 13 w x) := by
  obtain ⟨c1, c2, c3, c4, c5, c6, c7, c8, c9, c10⟩ := id h
  obtain ⟨e1, e15, e2, e8, hI, ht, hl⟩ := id c1
  have dR : ∀ {j : Nat}, j ≠ 1 → j ≠ 2 → zs (zs dd 1 (ln w) 1) 2 (ln w) x j = dd j := fun a b => by rw [zs_row _ _ _ b, zs_row _ _ _ a]
  have aR : ∀ {j : Nat}, j ≠ 13 → zs ar 13 w x j = ar j := fun a => zs_row _ _ _ a
  refine ⟨?_, ?_, ?_, ?_, ?_, ?_, c7, ?_, ?_, fun z w' => ?_⟩
  · unfold cT
    rw [aR (by decide), aR (by decide), aR (by decide), aR (by decide), aR (by decide), dR (by decide) (by decide)]
    exact c1
  · unfold cB
    rw [aR (by decide), aR (by decide)]
    exact c2
  · refine ⟨fun i hi => ?_, fun i hi => ?_⟩
    · rw [zs_at]
      split
      · omega
      · exact c3.1 i hi
    · by_cases e : i = w
      · subst e
        refine Or.inl ⟨?_, ?_, ?_⟩
        · rw [zs_nj _ _ _ _ (by decide), zs_eq]
        · rw [zs_eq, zs_eq]
        · rw [zs_eq]; exact hx
      · have ne : ln i ≠ ln w := fun q => e (by
          have a := (hl i hi).2.2
          have b := (hl w hw).2.2
          rw [q] at a; exact a.symm.trans b)
        rw [zs_ni _ _ _ _ ne, zs_ni _ _ _ _ ne, zs_ni _ _ _ _ ne, zs_ni _ _ _ _ ne, zs_ni _ _ _ _ e]
        exact c3.2 i hi
  · rw [dR (by decide) (by decide), aR (by decide), aR (by decide), aR (by decide)]
    exact c4
  · rw [aR (by decide), aR (by decide), aR (by decide)]
    exact c5
  · rw [dR (by decide) (by decide)]; exact c6
  · rw [aR (by decide)]; exact c8
  · rw [aR (by decide)]; exact c9
  · refine GP_mono hI (dR (by decide) (by decide)) (fun i _ q => ?_) (dR (by decide) (by decide)) (dR (by decide) (by decide)) (dR (by decide) (by decide)) (aR (by decide)) (aR (by decide)) (aR (by decide)) (N - 1) (by omega) (c10 z w')
    rw [zs_nj _ _ _ _ (by decide), zs_at]
    split
    · rfl
    · exact q
theorem cP_set {f a b c : Nat → Nat} (h : cP f a b c) {w q v : Nat} (hq : q < 4) : cP (va_up f (w * 4 + q) v) (if q < 2 then va_up a (2 * w + q) v else a) (if q = 2 then va_up b w v else b) (if q = 3 then va_up c w v else c) := by
  intro j hj
  obtain ⟨h1, h2, h3, h4⟩ := h j hj
  rcases (show q = 0 ∨ q = 1 ∨ q = 2 ∨ q = 3 by omega) with rfl | rfl | rfl | rfl
  · rw [if_pos (by decide), if_neg (by decide), if_neg (by decide)]
    unfold va_up
    refine ⟨?_, ?_, ?_, ?_⟩ <;> (repeat' split) <;> first | omega | assumption
  · rw [if_pos (by decide), if_neg (by decide), if_neg (by decide)]
    unfold va_up
    refine ⟨?_, ?_, ?_, ?_⟩ <;> (repeat' split) <;> first | omega | assumption
  · rw [if_neg (by decide), if_pos rfl, if_neg (by decide)]
    unfold va_up
    refine ⟨?_, ?_, ?_, ?_⟩ <;> (repeat' split) <;> first | omega | assumption
  · rw [if_neg (by decide), if_neg (by decide), if_pos rfl]
    unfold va_up
    refine ⟨?_, ?_, ?_, ?_⟩ <;> (repeat' split) <;> first | omega | assumption
theorem chg_rows {w q v : Nat} (hq : q < 4) : (∀ j, j ≠ 14 → j ≠ 15 → j ≠ 16 → chg ar w q v j = ar j) ∧ chg ar w q v 14 = (if q < 2 then va_up (ar 14) (2 * w + q) v else ar 14) ∧ chg ar w q v 15 = (if q = 2 then va_up (ar 15) w v else ar 15) ∧ chg ar w q v 16 = (if q = 3 then va_up (ar 16) w v else ar 16) := by
  unfold chg
  by_cases a : q < 2
  · rw [if_pos a, if_pos a, if_neg (by omega), if_neg (by omega)]
    exact ⟨fun j h1 h2 h3 => zs_row _ _ _ h1, zs_rw _ _ _ _, zs_row _ _ _ (by decide), zs_row _ _ _ (by decide)⟩
  · rw [if_neg a, if_neg a]
    by_cases b : q = 2
    · rw [if_pos b, if_pos b, if_neg (by omega)]
      exact ⟨fun j h1 h2 h3 => zs_row _ _ _ h2, zs_row _ _ _ (by decide), zs_rw _ _ _ _, zs_row _ _ _ (by decide)⟩
    · rw [if_neg b, if_neg b, if_pos (by omega)]
      exact ⟨fun j h1 h2 h3 => zs_row _ _ _ h3, zs_row _ _ _ (by decide), zs_row _ _ _ (by decide), zs_rw _ _ _ _⟩
theorem cX_chg (h : cX tt bb ee dd N sc fk ln lo ar) {w q v : Nat} (hq : q < 4) (hv : v < if q < 2 then 10007 else 5003) : cX tt bb ee (va_up dd 6 (va_up (dd 6) (w * 4 + q) v)) N sc fk ln lo (chg ar w q v) := by
  obtain ⟨c1, c2, c3, c4, c5, c6, c7, c8, c9, c10⟩ := id h
  obtain ⟨aR, a14, a15, a16⟩ := chg_rows (ar := ar) (w := w) (v := v) hq
  have dR : ∀ {j : Nat}, j ≠ 6 → va_up dd 6 (va_up (dd 6) (w * 4 + q) v) j = dd j := fun a => va_up_ne _ _ a
  refine ⟨?_, ?_, ?_, ?_, ?_, ?_, c7, ?_, ?_, fun z w' => ?_⟩
  · unfold cT
    rw [aR 0 (by decide) (by decide) (by decide), aR 7 (by decide) (by decide) (by decide), aR 8 (by decide) (by decide) (by decide), aR 9 (by decide) (by decide) (by decide), aR 10 (by decide) (by decide) (by decide), dR (by decide)]
    exact c1
  · unfold cB
    rw [aR 11 (by decide) (by decide) (by decide), aR 12 (by decide) (by decide) (by decide)]
    exact c2
  · unfold cW
    rw [aR 13 (by decide) (by decide) (by decide), dR (by decide), dR (by decide)]
    exact c3
  · rw [va_up_self, a14, a15, a16]
    exact cP_set c4 hq
  · rw [aR 17 (by decide) (by decide) (by decide), aR 18 (by decide) (by decide) (by decide), aR 19 (by decide) (by decide) (by decide)]
    exact c5
  · rw [va_up_self]
    refine ftN_up c6 ?_ (fun e => ?_)
    · split at hv <;> omega
    · rw [if_neg (by omega)] at hv; exact hv
  · rw [aR 0 (by decide) (by decide) (by decide)]; exact c8
  · rw [aR 0 (by decide) (by decide) (by decide)]; exact c9
  · exact GP_mono c1.2.2.2.2.1 (dR (by decide)) (fun _ _ q => by rw [dR (by decide)]; exact q) (dR (by decide)) (dR (by decide)) (dR (by decide)) (aR 20 (by decide) (by decide) (by decide)) (aR 21 (by decide) (by decide) (by decide)) (aR 22 (by decide) (by decide) (by decide)) (N - 1) (by omega) (c10 z w')
theorem cX_save (h : cX tt bb ee dd N sc fk ln lo ar) {f1 h1 h2 h3 : Nat → Nat} (hf : ∀ i, i < 32 → f1 i = dd 6 i) (g1 : ∀ i, i < 16 → h1 i = ar 14 i) (g2 : ∀ i, i < 8 → h2 i = ar 15 i) (g3 : ∀ i, i < 8 → h3 i = ar 16 i) : cX tt bb ee dd N (va_up sc 2 1) f1 ln lo (zs (va_up (va_up (va_up ar 17 h1) 18 h2) 19 h3) 0 3 1) := by
  obtain ⟨c1, c2, c3, c4, c5, c6, c7, c8, c9, c10⟩ := id h
  have aR : ∀ {j : Nat}, j ≠ 0 → j ≠ 17 → j ≠ 18 → j ≠ 19 → zs (va_up (va_up (va_up ar 17 h1) 18 h2) 19 h3) 0 3 1 j = ar j := fun a b c d => by rw [zs_row _ _ _ a, va_up_ne _ _ d, va_up_ne _ _ c, va_up_ne _ _ b]
  have a0 : ∀ {i : Nat}, i ≠ 3 → zs (va_up (va_up (va_up ar 17 h1) 18 h2) 19 h3) 0 3 1 0 i = ar 0 i := fun a => by rw [zs_ni _ _ _ _ a, va_up_ne _ _ (by decide), va_up_ne _ _ (by decide), va_up_ne _ _ (by decide)]
  refine ⟨?_, ?_, ?_, ?_, ?_, c6, fun q hq => ?_, ?_, ?_, fun z w' => ?_⟩
  · unfold cT
    rw [a0 (by decide), a0 (by decide), aR (by decide) (by decide) (by decide) (by decide), aR (by decide) (by decide) (by decide) (by decide), aR (by decide) (by decide) (by decide) (by decide), aR (by decide) (by decide) (by decide) (by decide)]
    exact c1
  · unfold cB
    rw [aR (by decide) (by decide) (by decide) (by decide), aR (by decide) (by decide) (by decide) (by decide)]
    exact c2
  · unfold cW
    rw [aR (by decide) (by decide) (by decide) (by decide)]
    exact c3
  · rw [aR (by decide) (by decide) (by decide) (by decide), aR (by decide) (by decide) (by decide) (by decide), aR (by decide) (by decide) (by decide) (by decide)]
    exact c4
  · intro i hi
    obtain ⟨x1, x2, x3, x4⟩ := c4 i hi
    rw [zs_row _ _ _ (by decide), zs_row _ _ _ (by decide), zs_row _ _ _ (by decide), va_up_ne _ _ (by decide), va_up_ne _ _ (by decide), va_up_self, va_up_ne _ _ (by decide), va_up_self, va_up_self, hf _ (by omega), hf _ (by omega), hf _ (by omega), hf _ (by omega), g1 _ (by omega), g1 _ (by omega), g2 _ hi, g3 _ hi]
    exact ⟨x1, x2, x3, x4⟩
  · rw [hf q hq]; exact c6 q hq
  · rw [zs_eq, va_up_self]; exact ⟨rfl, by decide⟩
  · rw [a0 (by decide), va_up_ne _ _ (by decide)]; exact c9
  · rw [va_up_ne _ _ (by decide)] at z
    exact GP_mono c1.2.2.2.2.1 rfl (fun _ _ q => q) rfl rfl rfl (aR (by decide) (by decide) (by decide) (by decide)) (aR (by decide) (by decide) (by decide) (by decide)) (aR (by decide) (by decide) (by decide) (by decide)) (N - 1) (by omega) (c10 z w')
theorem ex_eq (h : cX tt bb ee dd N sc fk ln lo ar) : ∀ m, m ≤ sc 1 → cX tt bb ee (exD dd ln fk m) N sc fk ln lo (va_up ar 13 (exR ar m)) ∧ exC dd fk m = exN ar m := by
  obtain ⟨c1, c2, c3, c4, c5, c6, c7, c8, c9, c10⟩ := id h
  have h8 := c1.2.2.2.1
  intro m
  induction m with
  | zero =>
    intro _
    refine ⟨?_, rfl⟩
    rw [show exR ar 0 = ar 13 from rfl, va_up_row]
    exact h
  | succ m ih =>
    intro hm
    obtain ⟨i1, i2⟩ := ih (by omega)
    obtain ⟨x1, x2, x3, x4⟩ := c4 m (by omega)
    obtain ⟨y1, y2, y3, y4⟩ := c5 m (by omega)
    have b1 := (c6 (m * 4 + 2) (by omega)).2 (by omega)
    have b2 := (c7 (m * 4 + 2) (by omega)).2 (by omega)
    have e0 : dd 6 (m * 4 + 2) = fk (m * 4 + 2) ↔ ls5 (ar 15 m) (ar 18 m) = 0 := by
      rw [x3] at b1
      rw [y3] at b2
      rw [x3, y3, ls5_0 b1 b2]
    by_cases e : dd 6 (m * 4 + 2) = fk (m * 4 + 2)
    · have e' := e0.mp e
      rw [show exD dd ln fk (m + 1) = exD dd ln fk m from if_pos e, show exR ar (m + 1) = exR ar m from if_pos e', show exC dd fk (m + 1) = exC dd fk m from if_pos e, show exN ar (m + 1) = exN ar m from if_pos e']
      exact ⟨i1, i2⟩
    · have e' : ¬ ls5 (ar 15 m) (ar 18 m) = 0 := fun q => e (e0.mpr q)
      have hv : gvD (dd 6) fk m = exV ar m := by
        unfold gvD exV
        rw [x3, x4, y3, y4]
      rw [show exD dd ln fk (m + 1) = zs (zs (exD dd ln fk m) 1 (ln m) 1) 2 (ln m) (gvD (dd 6) fk m) from if_neg e, show exR ar (m + 1) = va_up (exR ar m) m (exV ar m) from if_neg e', show exC dd fk (m + 1) = exC dd fk m + 1 from if_neg e, show exN ar (m + 1) = exN ar m + 1 from if_neg e', hv, i2]
      have h5 : exV ar m < 5003 := Nat.mod_lt _ (by decide)
      generalize exV ar m = x at *
      refine ⟨?_, rfl⟩
      have t := cX_tell i1 (w := m) (x := x) (by omega) h5
      rw [zs_up] at t
      exact t
end CY
