/-! the model's state in two: what commit and respond give (o), and the work list (sc: queue, with, real, todo) -/
def isS (j i : Nat) : Prop := j = 23 ∨ j = 24 ∨ j = 25 ∨ (j = 0 ∧ i = 6)
def mix (o sc : Nat → Nat → Nat) : Nat → Nat → Nat := fun j i => if j = 23 ∨ j = 24 ∨ j = 25 ∨ (j = 0 ∧ i = 6) then sc j i else o j i
theorem zs_mixS (o sc : Nat → Nat → Nat) {j i : Nat} (v : Nat) (h : j = 23 ∨ j = 24 ∨ j = 25 ∨ (j = 0 ∧ i = 6)) : zs (mix o sc) j i v = mix o (zs sc j i v) := by
  funext a b
  simp only [mix, zs_at]
  by_cases e : a = j ∧ b = i
  · obtain ⟨rfl, rfl⟩ := e
    rw [if_pos ⟨rfl, rfl⟩, if_pos h, if_pos ⟨rfl, rfl⟩]
  · rw [if_neg e, if_neg e]
theorem zs_mixO (o sc : Nat → Nat → Nat) {j i : Nat} (v : Nat) (h : ¬ (j = 23 ∨ j = 24 ∨ j = 25 ∨ (j = 0 ∧ i = 6))) : zs (mix o sc) j i v = mix (zs o j i v) sc := by
  funext a b
  simp only [mix, zs_at]
  by_cases e : a = j ∧ b = i
  · obtain ⟨rfl, rfl⟩ := e
    rw [if_pos ⟨rfl, rfl⟩, if_neg h, if_pos ⟨rfl, rfl⟩]
  · rw [if_neg e, if_neg e]
theorem mix_self (o : Nat → Nat → Nat) : mix o o = o := by
  funext a b
  simp only [mix, ite_self]
theorem lat_mix (o sc : Nat → Nat → Nat) (k b c : Nat) : lat (mix o sc) k b c = mix o (lat sc k b c) := by
  unfold lat
  rw [show mix o sc 0 6 = sc 0 6 from rfl, zs_mixS o sc k (by omega), zs_mixS _ _ b (by omega), zs_mixS _ _ c (by omega), zs_mixS _ _ _ (by omega)]
theorem cmL_mix (i : Nat) (real : Bool) (c : Nat) (o sc : Nat → Nat → Nat) : cmL i real c (mix o sc) = mix (cmL i real c o) sc := by
  simp only [cmL]
  rw [show mix o sc 0 5 = o 0 5 from rfl, show mix o sc 11 (2 * i) = o 11 (2 * i) from rfl, show mix o sc 11 (2 * i + 1) = o 11 (2 * i + 1) from rfl, show mix o sc 12 (2 * i) = o 12 (2 * i) from rfl, show mix o sc 12 (2 * i + 1) = o 12 (2 * i + 1) from rfl]
  rw [zs_mixO o sc _ (by omega), zs_mixO _ sc _ (by omega), zs_mixO _ sc _ (by omega), zs_mixO _ sc _ (by omega)]
  by_cases h0 : 0 < o 11 (2 * i) <;> by_cases h1 : 0 < o 11 (2 * i + 1)
  · rw [if_pos h0, if_pos h1, if_pos h0, if_pos h1, zs_mixO _ sc _ (by omega), zs_mixO _ sc _ (by omega)]
  · rw [if_pos h0, if_neg h1, if_pos h0, if_neg h1, zs_mixO _ sc _ (by omega)]
  · rw [if_neg h0, if_pos h1, if_neg h0, if_pos h1, zs_mixO _ sc _ (by omega)]
  · rw [if_neg h0, if_neg h1, if_neg h0, if_neg h1]
theorem cOr_mix (k : Nat) (real : Bool) (c : Nat) (o sc : Nat → Nat → Nat) : cOr (mix o sc) k real c = mix (cmO k (real && decide (o 27 (o 8 k) = 1)) o) (lat (lat sc (o 9 k) (if real && !(real && decide (o 27 (o 8 k) = 1)) then 1 else 0) (if real then dv (dr (o 0 5)) else ls5 c (dv (dr (o 0 5))))) (o 8 k) (if real && decide (o 27 (o 8 k) = 1) then 1 else 0) (dv (dr (o 0 5)))) := by
  unfold cOr cmO
  rw [show mix o sc 0 5 = o 0 5 from rfl, show mix o sc 8 k = o 8 k from rfl, show mix o sc 9 k = o 9 k from rfl, show mix o sc 27 (o 8 k) = o 27 (o 8 k) from rfl]
  rw [zs_mixO o sc _ (by omega), zs_mixO _ sc _ (by omega), zs_mixO _ sc _ (by omega), lat_mix, lat_mix]
theorem rspL_mix (n c : Nat) (o sc : Nat → Nat → Nat) : rspL (mix o sc) n c = mix (rspL o n c) sc := by
  unfold rspL
  rw [show mix o sc 20 n = o 20 n from rfl, show mix o sc 13 n = o 13 n from rfl, zs_mixO o sc _ (by omega), zs_mixO _ sc _ (by omega)]
theorem lat_06 (a : Nat → Nat → Nat) (k b c : Nat) : lat a k b c 0 6 = a 0 6 + 1 := by simp [lat, zs_at]
theorem lat_23 (a : Nat → Nat → Nat) (k b c i : Nat) : lat a k b c 23 i = if i = a 0 6 then k else a 23 i := by simp [lat, zs_at]
theorem lat_24 (a : Nat → Nat → Nat) (k b c i : Nat) : lat a k b c 24 i = if i = k then c else a 24 i := by simp [lat, zs_at]
theorem lat_25 (a : Nat → Nat → Nat) (k b c i : Nat) : lat a k b c 25 i = if i = k then b else a 25 i := by simp [lat, zs_at]
/-- rows that commit leaves alone -/
def cRow (j : Nat) : Prop := j ≠ 0 ∧ j ≠ 14 ∧ j ≠ 15 ∧ j ≠ 16 ∧ j ≠ 20 ∧ j ≠ 21 ∧ j ≠ 22
theorem cmL_row {j : Nat} (h : cRow j) (i : Nat) (real : Bool) (c : Nat) (o : Nat → Nat → Nat) : cmL i real c o j = o j := by
  obtain ⟨h0, h14, h15, h16, h20, h21, h22⟩ := h
  simp only [cmL]
  by_cases a0 : 0 < o 11 (2 * i) <;> by_cases a1 : 0 < o 11 (2 * i + 1)
  · rw [if_pos a1, if_pos a0, zs_row _ _ _ h14, zs_row _ _ _ h14, zs_row _ _ _ h16, zs_row _ _ _ h15, zs_row _ _ _ h20, zs_row _ _ _ h0]
  · rw [if_neg a1, if_pos a0, zs_row _ _ _ h14, zs_row _ _ _ h16, zs_row _ _ _ h15, zs_row _ _ _ h20, zs_row _ _ _ h0]
  · rw [if_pos a1, if_neg a0, zs_row _ _ _ h14, zs_row _ _ _ h16, zs_row _ _ _ h15, zs_row _ _ _ h20, zs_row _ _ _ h0]
  · rw [if_neg a1, if_neg a0, zs_row _ _ _ h16, zs_row _ _ _ h15, zs_row _ _ _ h20, zs_row _ _ _ h0]
theorem cmL_0 {q : Nat} (hq : q ≠ 5) (i : Nat) (real : Bool) (c : Nat) (o : Nat → Nat → Nat) : cmL i real c o 0 q = o 0 q := by
  simp only [cmL]
  by_cases a0 : 0 < o 11 (2 * i) <;> by_cases a1 : 0 < o 11 (2 * i + 1) <;> simp [a0, a1, zs_at, hq]
theorem cmO_row {j : Nat} (h : cRow j) (k : Nat) (lr : Bool) (o : Nat → Nat → Nat) : cmO k lr o j = o j := by
  obtain ⟨h0, h14, h15, h16, h20, h21, h22⟩ := h
  unfold cmO
  rw [zs_row _ _ _ h21, zs_row _ _ _ h22, zs_row _ _ _ h0]
theorem cmO_0 {q : Nat} (hq : q ≠ 5) (k : Nat) (lr : Bool) (o : Nat → Nat → Nat) : cmO k lr o 0 q = o 0 q := by
  simp [cmO, zs_at, hq]
theorem cm_row {kd lf rt lv : Nat → Nat} {j : Nat} (h : cRow j) : ∀ (k : Nat) (real : Bool) (c : Nat) (o : Nat → Nat → Nat), cm kd lf rt lv k real c o j = o j := by
  intro k
  induction k using Nat.strongRecOn with
  | ind k ih =>
    intro real c o
    rw [cm]
    by_cases h0 : kd k = 0
    · rw [if_pos h0]; exact cmL_row h _ _ _ _
    · rw [if_neg h0]
      by_cases hc : lf k < k ∧ rt k < k
      · rw [dif_pos hc]
        by_cases h1 : kd k = 1
        · rw [if_pos h1, ih _ hc.2, ih _ hc.1]
        · rw [if_neg h1, ih _ hc.2, ih _ hc.1, cmO_row h]
      · rw [dif_neg hc]
theorem cm_0 {kd lf rt lv : Nat → Nat} {q : Nat} (hq : q ≠ 5) : ∀ (k : Nat) (real : Bool) (c : Nat) (o : Nat → Nat → Nat), cm kd lf rt lv k real c o 0 q = o 0 q := by
  intro k
  induction k using Nat.strongRecOn with
  | ind k ih =>
    intro real c o
    rw [cm]
    by_cases h0 : kd k = 0
    · rw [if_pos h0]; exact cmL_0 hq _ _ _ _
    · rw [if_neg h0]
      by_cases hc : lf k < k ∧ rt k < k
      · rw [dif_pos hc]
        by_cases h1 : kd k = 1
        · rw [if_pos h1, ih _ hc.2, ih _ hc.1]
        · rw [if_neg h1, ih _ hc.2, ih _ hc.1, cmO_0 hq]
      · rw [dif_neg hc]
/-- the tables stand as kd lf rt lv (tree), bt it (leaves), hd (known), lc (how many leaves) say -/
def tb (kd lf rt lv bt it hd : Nat → Nat) (lc : Nat) (o : Nat → Nat → Nat) : Prop := o 7 = kd ∧ o 8 = lf ∧ o 9 = rt ∧ o 10 = lv ∧ o 11 = bt ∧ o 12 = it ∧ o 27 = hd ∧ o 0 2 = lc
theorem tb_cm {kd lf rt lv bt it hd : Nat → Nat} {lc : Nat} {o : Nat → Nat → Nat} (h : tb kd lf rt lv bt it hd lc o) (k : Nat) (real : Bool) (c : Nat) : tb kd lf rt lv bt it hd lc (cm kd lf rt lv k real c o) := by
  obtain ⟨h1, h2, h3, h4, h5, h6, h7, h8⟩ := h
  refine ⟨?_, ?_, ?_, ?_, ?_, ?_, ?_, ?_⟩
  · rw [cm_row (by unfold cRow; decide)]; exact h1
  · rw [cm_row (by unfold cRow; decide)]; exact h2
  · rw [cm_row (by unfold cRow; decide)]; exact h3
  · rw [cm_row (by unfold cRow; decide)]; exact h4
  · rw [cm_row (by unfold cRow; decide)]; exact h5
  · rw [cm_row (by unfold cRow; decide)]; exact h6
  · rw [cm_row (by unfold cRow; decide)]; exact h7
  · rw [cm_0 (by decide)]; exact h8
theorem tb_cmO {kd lf rt lv bt it hd : Nat → Nat} {lc : Nat} {o : Nat → Nat → Nat} (h : tb kd lf rt lv bt it hd lc o) (k : Nat) (lr : Bool) : tb kd lf rt lv bt it hd lc (cmO k lr o) := by
  obtain ⟨h1, h2, h3, h4, h5, h6, h7, h8⟩ := h
  refine ⟨?_, ?_, ?_, ?_, ?_, ?_, ?_, ?_⟩
  · rw [cmO_row (by unfold cRow; decide)]; exact h1
  · rw [cmO_row (by unfold cRow; decide)]; exact h2
  · rw [cmO_row (by unfold cRow; decide)]; exact h3
  · rw [cmO_row (by unfold cRow; decide)]; exact h4
  · rw [cmO_row (by unfold cRow; decide)]; exact h5
  · rw [cmO_row (by unfold cRow; decide)]; exact h6
  · rw [cmO_row (by unfold cRow; decide)]; exact h7
  · rw [cmO_0 (by decide)]; exact h8
/-- the tree's places: a tree's nodes lie side by side, the left child's ahead of the right's -/
def tI (kd lf rt lo : Nat → Nat) (N : Nat) : Prop := ∀ k, k < N → kd k ≤ 2 ∧ lo k ≤ k ∧ (kd k ≠ 0 → lo k ≤ lo (lf k) ∧ lo (lf k) ≤ lf k ∧ lf k < lo (rt k) ∧ lo (rt k) ≤ rt k ∧ rt k < k)
/-- respond over the tree; ord: left before right -/
def rq (ord : Bool) (kd lf rt lv lr dn : Nat → Nat) (k c : Nat) (o : Nat → Nat → Nat) : Nat → Nat → Nat :=
  if kd k = 0 then rspL o (lv k) c
  else if h : lf k < k ∧ rt k < k then
    if kd k = 1 then (if ord then rq ord kd lf rt lv lr dn (rt k) c (rq ord kd lf rt lv lr dn (lf k) c o) else rq ord kd lf rt lv lr dn (lf k) c (rq ord kd lf rt lv lr dn (rt k) c o))
    else if lr k = 1 then rq ord kd lf rt lv lr dn (lf k) (ls5 c (dn k)) o else rq ord kd lf rt lv lr dn (rt k) (ls5 c (dn k)) o
  else o
termination_by k
decreasing_by all_goals first | exact h.1 | exact h.2
theorem rq_leaf {ord : Bool} {kd lf rt lv lr dn : Nat → Nat} {k : Nat} (h0 : kd k = 0) (c : Nat) (o : Nat → Nat → Nat) : rq ord kd lf rt lv lr dn k c o = rspL o (lv k) c := by
  rw [rq, if_pos h0]
theorem rq_and {ord : Bool} {kd lf rt lv lr dn : Nat → Nat} {k : Nat} (h0 : kd k = 1) (hl : lf k < k) (hr : rt k < k) (c : Nat) (o : Nat → Nat → Nat) : rq ord kd lf rt lv lr dn k c o = if ord then rq ord kd lf rt lv lr dn (rt k) c (rq ord kd lf rt lv lr dn (lf k) c o) else rq ord kd lf rt lv lr dn (lf k) c (rq ord kd lf rt lv lr dn (rt k) c o) := by
  rw [rq, if_neg (by rw [h0]; decide), dif_pos ⟨hl, hr⟩, if_pos h0]
theorem rq_orL {ord : Bool} {kd lf rt lv lr dn : Nat → Nat} {k : Nat} (h0 : kd k = 2) (hl : lf k < k) (hr : rt k < k) (h1 : lr k = 1) (c : Nat) (o : Nat → Nat → Nat) : rq ord kd lf rt lv lr dn k c o = rq ord kd lf rt lv lr dn (lf k) (ls5 c (dn k)) o := by
  rw [rq, if_neg (by rw [h0]; decide), dif_pos ⟨hl, hr⟩, if_neg (by rw [h0]; decide), if_pos h1]
theorem rq_orR {ord : Bool} {kd lf rt lv lr dn : Nat → Nat} {k : Nat} (h0 : kd k = 2) (hl : lf k < k) (hr : rt k < k) (h1 : ¬ lr k = 1) (c : Nat) (o : Nat → Nat → Nat) : rq ord kd lf rt lv lr dn k c o = rq ord kd lf rt lv lr dn (rt k) (ls5 c (dn k)) o := by
  rw [rq, if_neg (by rw [h0]; decide), dif_pos ⟨hl, hr⟩, if_neg (by rw [h0]; decide), if_neg h1]
theorem ls5_lt (a b : Nat) : ls5 a b < 5003 := Nat.mod_lt _ (by decide)
theorem rspL_row {j : Nat} (h1 : j ≠ 15) (h2 : j ≠ 16) (n c : Nat) (o : Nat → Nat → Nat) : rspL o n c j = o j := by
  unfold rspL; rw [zs_row _ _ _ h2, zs_row _ _ _ h1]
theorem rq_row {ord : Bool} {kd lf rt lv lr dn : Nat → Nat} {j : Nat} (h1 : j ≠ 15) (h2 : j ≠ 16) : ∀ (k c : Nat) (o : Nat → Nat → Nat), rq ord kd lf rt lv lr dn k c o j = o j := by
  intro k
  induction k using Nat.strongRecOn with
  | ind k ih =>
    intro c o
    rw [rq]
    by_cases h0 : kd k = 0
    · rw [if_pos h0]; exact rspL_row h1 h2 _ _ _
    · rw [if_neg h0]
      by_cases hc : lf k < k ∧ rt k < k
      · rw [dif_pos hc]
        by_cases h3 : kd k = 1
        · rw [if_pos h3]
          cases ord
          · rw [if_neg (by decide), ih _ hc.1, ih _ hc.2]
          · rw [if_pos rfl, ih _ hc.2, ih _ hc.1]
        · rw [if_neg h3]
          by_cases h4 : lr k = 1
          · rw [if_pos h4, ih _ hc.1]
          · rw [if_neg h4, ih _ hc.2]
      · rw [dif_neg hc]
