/-! the abstract state: array j at place i; trees in postfix tables; commit and respond over them -/
def zs (ar : Nat → Nat → Nat) (j i v : Nat) : Nat → Nat → Nat := va_up ar j (va_up (ar j) i v)
theorem zs_at (ar : Nat → Nat → Nat) (j i v j' i' : Nat) : zs ar j i v j' i' = if j' = j ∧ i' = i then v else ar j' i' := by
  unfold zs va_up
  by_cases h1 : j' = j
  · subst h1
    by_cases h2 : i' = i <;> simp [h2]
  · simp [h1]
theorem zs_eq (ar : Nat → Nat → Nat) (j i v : Nat) : zs ar j i v j i = v := by rw [zs_at, if_pos ⟨rfl, rfl⟩]
theorem zs_nj (ar : Nat → Nat → Nat) {j j' : Nat} (i v i' : Nat) (h : j' ≠ j) : zs ar j i v j' i' = ar j' i' := by rw [zs_at, if_neg (fun q => h q.1)]
theorem zs_ni (ar : Nat → Nat → Nat) (j : Nat) {i i' : Nat} (v j' : Nat) (h : i' ≠ i) : zs ar j i v j' i' = ar j' i' := by rw [zs_at, if_neg (fun q => h q.2)]
theorem zs_row (ar : Nat → Nat → Nat) {j j' : Nat} (i v : Nat) (h : j' ≠ j) : zs ar j i v j' = ar j' := by
  funext i'; exact zs_nj ar i v i' h
/-- the next state of the drawing, and what it draws -/
def dr (st : Nat) : Nat := (st * 1103515245 + 12345) % 4294967296
def dv (st : Nat) : Nat := st / 256 % 5003
theorem dv_lt (st : Nat) : dv st < 5003 := Nat.mod_lt _ (by decide)
/-- postfix tables: kind 0 a leaf, 1 and, 2 or; lo k: the least place of the tree that ends at k -/
def tOK (kd lo : Nat → Nat) (N : Nat) : Prop := ∀ k, k < N → (kd k = 0 ∧ lo k = k) ∨ ((kd k = 1 ∨ kd k = 2) ∧ 1 ≤ k ∧ 1 ≤ lo (k - 1) ∧ lo k = lo (lo (k - 1) - 1))
theorem tOK_le {kd lo : Nat → Nat} {N : Nat} (h : tOK kd lo N) : ∀ k, k < N → lo k ≤ k := by
  intro k
  induction k using Nat.strongRecOn with
  | ind k ih =>
    intro hk
    rcases h k hk with ⟨_, h1⟩ | ⟨_, h1, h2, h3⟩
    · omega
    · have a := ih (k - 1) (by omega) (by omega)
      have b := ih (lo (k - 1) - 1) (by omega) (by omega)
      omega
/-- the number of leaves below place j -/
def cl (kd : Nat → Nat) : Nat → Nat
  | 0 => 0
  | j + 1 => cl kd j + (if kd j = 0 then 1 else 0)
theorem cl_leaf {kd : Nat → Nat} {j : Nat} (h : kd j = 0) : cl kd (j + 1) = cl kd j + 1 := by simp [cl, h]
theorem cl_join {kd : Nat → Nat} {j : Nat} (h : kd j ≠ 0) : cl kd (j + 1) = cl kd j := by simp [cl, h]
theorem cl_mono {kd : Nat → Nat} {a b : Nat} (h : a ≤ b) : cl kd a ≤ cl kd b := by
  induction b with
  | zero => have : a = 0 := by omega
            subst this; exact Nat.le_refl _
  | succ b ih =>
    by_cases hb : a = b + 1
    · subst hb; exact Nat.le_refl _
    · exact Nat.le_trans (ih (by omega)) (by simp [cl])
theorem cl_congr {kd kd' : Nat → Nat} {n : Nat} (h : ∀ k, k < n → kd' k = kd k) : cl kd' n = cl kd n := by
  induction n with
  | zero => rfl
  | succ n ih =>
    simp only [cl]
    rw [ih (fun k hk => h k (by omega)), h n (by omega)]
/-- a tree of c leaves has 2 c - 1 nodes -/
theorem tOK_seg {kd lo : Nat → Nat} {N : Nat} (h : tOK kd lo N) : ∀ k, k < N → k + 2 + 2 * cl kd (lo k) = lo k + 2 * cl kd (k + 1) := by
  intro k
  induction k using Nat.strongRecOn with
  | ind k ih =>
    intro hk
    rcases h k hk with ⟨h0, h1⟩ | ⟨h0, h1, h2, h3⟩
    · rw [h1, cl_leaf h0]; omega
    · have hle := tOK_le h (k - 1) (by omega)
      have a := ih (k - 1) (by omega) (by omega)
      have b := ih (lo (k - 1) - 1) (by omega) (by omega)
      have hj : cl kd (k + 1) = cl kd k := cl_join (by rcases h0 with h0 | h0 <;> rw [h0] <;> decide)
      rw [h3, hj]
      have e1 : k - 1 + 1 = k := by omega
      have e2 : lo (k - 1) - 1 + 1 = lo (k - 1) := by omega
      rw [e1] at a
      rw [e2] at b
      omega
/-- a leaf's commitment: its own part of commit and simulate -/
def cv (real : Bool) (b y c x : Nat) : Nat := (b ^ x % 10007) * (if real then 1 else y ^ ((5003 - c) % 5003) % 10007) % 10007
def cmL (i : Nat) (real : Bool) (c : Nat) (ar : Nat → Nat → Nat) : Nat → Nat → Nat :=
  let st := dr (ar 0 5)
  let a1 := zs (zs (zs (zs ar 0 5 st) 20 i (dv st)) 15 i (if real then 0 else c)) 16 i (if real then 0 else dv st)
  let a2 := if 0 < ar 11 (2 * i) then zs a1 14 (2 * i) (cv real (ar 11 (2 * i)) (ar 12 (2 * i)) c (dv st)) else a1
  if 0 < ar 11 (2 * i + 1) then zs a2 14 (2 * i + 1) (cv real (ar 11 (2 * i + 1)) (ar 12 (2 * i + 1)) c (dv st)) else a2
def cmO (k : Nat) (lr : Bool) (ar : Nat → Nat → Nat) : Nat → Nat → Nat :=
  zs (zs (zs ar 0 5 (dr (ar 0 5))) 22 k (dv (dr (ar 0 5)))) 21 k (if lr then 1 else 0)
def cm (kd lf rt lv : Nat → Nat) (k : Nat) (real : Bool) (c : Nat) (ar : Nat → Nat → Nat) : Nat → Nat → Nat :=
  if kd k = 0 then cmL (lv k) real c ar
  else if h : lf k < k ∧ rt k < k then
    if kd k = 1 then cm kd lf rt lv (rt k) real c (cm kd lf rt lv (lf k) real c ar)
    else cm kd lf rt lv (rt k) (real && !(real && decide (ar 27 (lf k) = 1))) (if real then dv (dr (ar 0 5)) else (c + 5003 - dv (dr (ar 0 5))) % 5003)
      (cm kd lf rt lv (lf k) (real && decide (ar 27 (lf k) = 1)) (dv (dr (ar 0 5))) (cmO k (real && decide (ar 27 (lf k) = 1)) ar))
  else ar
termination_by k
decreasing_by all_goals first | exact h.1 | exact h.2
theorem cm_leaf {kd lf rt lv : Nat → Nat} {k : Nat} (h0 : kd k = 0) (real : Bool) (c : Nat) (ar : Nat → Nat → Nat) : cm kd lf rt lv k real c ar = cmL (lv k) real c ar := by
  rw [cm, if_pos h0]
theorem cm_and {kd lf rt lv : Nat → Nat} {k : Nat} (h0 : kd k = 1) (hl : lf k < k) (hr : rt k < k) (real : Bool) (c : Nat) (ar : Nat → Nat → Nat) : cm kd lf rt lv k real c ar = cm kd lf rt lv (rt k) real c (cm kd lf rt lv (lf k) real c ar) := by
  rw [cm, if_neg (by rw [h0]; decide), dif_pos ⟨hl, hr⟩, if_pos h0]
theorem cm_or {kd lf rt lv : Nat → Nat} {k : Nat} (h0 : kd k = 2) (hl : lf k < k) (hr : rt k < k) (real : Bool) (c : Nat) (ar : Nat → Nat → Nat) : cm kd lf rt lv k real c ar = cm kd lf rt lv (rt k) (real && !(real && decide (ar 27 (lf k) = 1))) (if real then dv (dr (ar 0 5)) else (c + 5003 - dv (dr (ar 0 5))) % 5003)
      (cm kd lf rt lv (lf k) (real && decide (ar 27 (lf k) = 1)) (dv (dr (ar 0 5))) (cmO k (real && decide (ar 27 (lf k) = 1)) ar)) := by
  rw [cm, if_neg (by rw [h0]; decide), dif_pos ⟨hl, hr⟩, if_neg (by rw [h0]; decide)]
/-- which challenge respond brings to leaf i below node k -/
def wr (kd lf rt lv lr dn : Nat → Nat) (k c i : Nat) : Option Nat :=
  if kd k = 0 then (if lv k = i then some c else none)
  else if h : lf k < k ∧ rt k < k then
    if kd k = 1 then (wr kd lf rt lv lr dn (lf k) c i).or (wr kd lf rt lv lr dn (rt k) c i)
    else if lr k = 1 then wr kd lf rt lv lr dn (lf k) ((c + 5003 - dn k) % 5003) i
    else wr kd lf rt lv lr dn (rt k) ((c + 5003 - dn k) % 5003) i
  else none
termination_by k
decreasing_by all_goals first | exact h.1 | exact h.2
def rsp (w : Nat → Option Nat) (ar : Nat → Nat → Nat) : Nat → Nat → Nat := fun j i => match w i with
  | none => ar j i
  | some x => if j = 15 then x else if j = 16 then (ar 20 i + x * ar 13 i % 5003) % 5003 else ar j i
