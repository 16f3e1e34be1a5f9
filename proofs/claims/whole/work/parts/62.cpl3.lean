/-! commit and respond: the two sides give the same transcript -/
theorem cP_up3 {f a b c : Nat → Nat} (h : cP f a b c) {i v0 vc vr : Nat} : cP (va_up (va_up (va_up f (i * 4 + 0) v0) (i * 4 + 2) vc) (i * 4 + 3) vr) (va_up a (2 * i) v0) (va_up b i vc) (va_up c i vr) := by
  intro j hj
  obtain ⟨h1, h2, h3, h4⟩ := h j hj
  unfold va_up
  refine ⟨?_, ?_, ?_, ?_⟩ <;> (repeat' split) <;> first | omega | assumption
theorem cP_up4 {f a b c : Nat → Nat} (h : cP f a b c) {i v0 v1 vc vr : Nat} : cP (va_up (va_up (va_up (va_up f (i * 4 + 0) v0) (i * 4 + 1) v1) (i * 4 + 2) vc) (i * 4 + 3) vr) (va_up (va_up a (2 * i) v0) (2 * i + 1) v1) (va_up b i vc) (va_up c i vr) := by
  intro j hj
  obtain ⟨h1, h2, h3, h4⟩ := h j hj
  unfold va_up
  refine ⟨?_, ?_, ?_, ?_⟩ <;> (repeat' split) <;> first | omega | assumption
theorem cP_up2 {f a b c : Nat → Nat} (h : cP f a b c) {i vc vr : Nat} : cP (va_up (va_up f (i * 4 + 2) vc) (i * 4 + 3) vr) a (va_up b i vc) (va_up c i vr) := by
  intro j hj
  obtain ⟨h1, h2, h3, h4⟩ := h j hj
  unfold va_up
  refine ⟨?_, ?_, ?_, ?_⟩ <;> (repeat' split) <;> first | omega | assumption
theorem zs_rw (ar : Nat → Nat → Nat) (j i v : Nat) : zs ar j i v j = va_up (ar j) i v := va_up_self _ _ _
theorem cv_t (b y c x : Nat) : cv true b y c x = b ^ x % 10007 := by
  unfold cv
  rw [if_pos rfl, Nat.mul_one, Nat.mod_mod]
theorem cv_f {b y c x : Nat} (hc : c < 5003) (hy : y ^ 5003 % 10007 = 1) : cv false b y c x = cvS b y c x := by
  unfold cv cvS
  rw [if_neg (by decide)]
  by_cases h : c = 0
  · subst h
    rw [show (5003 - 0) % 5003 = 0 from rfl, show 5003 - 0 = 5003 from rfl, hy]; rfl
  · rw [Nat.mod_eq_of_lt (show 5003 - c < 5003 by omega)]
theorem cmL_rows1 {i : Nat} {ar : Nat → Nat → Nat} (h0 : 0 < ar 11 (2 * i)) (h1 : ¬ 0 < ar 11 (2 * i + 1)) (real : Bool) (c : Nat) : cmL i real c ar 14 = va_up (ar 14) (2 * i) (cv real (ar 11 (2 * i)) (ar 12 (2 * i)) c (dv (dr (ar 0 5)))) ∧ cmL i real c ar 15 = va_up (ar 15) i (if real then 0 else c) ∧ cmL i real c ar 16 = va_up (ar 16) i (if real then 0 else dv (dr (ar 0 5))) ∧ cmL i real c ar 0 5 = dr (ar 0 5) := by
  simp only [cmL]
  rw [if_pos h0, if_neg h1]
  refine ⟨?_, ?_, ?_, ?_⟩
  · rw [zs_rw, zs_row _ _ _ (by decide), zs_row _ _ _ (by decide), zs_row _ _ _ (by decide), zs_row _ _ _ (by decide)]
  · rw [zs_row _ _ _ (by decide), zs_row _ _ _ (by decide), zs_rw, zs_row _ _ _ (by decide), zs_row _ _ _ (by decide)]
  · rw [zs_row _ _ _ (by decide), zs_rw, zs_row _ _ _ (by decide), zs_row _ _ _ (by decide), zs_row _ _ _ (by decide)]
  · rw [zs_row _ _ _ (by decide), zs_row _ _ _ (by decide), zs_row _ _ _ (by decide), zs_row _ _ _ (by decide), zs_eq]
theorem cmL_rows2 {i : Nat} {ar : Nat → Nat → Nat} (h0 : 0 < ar 11 (2 * i)) (h1 : 0 < ar 11 (2 * i + 1)) (real : Bool) (c : Nat) : cmL i real c ar 14 = va_up (va_up (ar 14) (2 * i) (cv real (ar 11 (2 * i)) (ar 12 (2 * i)) c (dv (dr (ar 0 5))))) (2 * i + 1) (cv real (ar 11 (2 * i + 1)) (ar 12 (2 * i + 1)) c (dv (dr (ar 0 5)))) ∧ cmL i real c ar 15 = va_up (ar 15) i (if real then 0 else c) ∧ cmL i real c ar 16 = va_up (ar 16) i (if real then 0 else dv (dr (ar 0 5))) ∧ cmL i real c ar 0 5 = dr (ar 0 5) := by
  simp only [cmL]
  rw [if_pos h0, if_pos h1]
  refine ⟨?_, ?_, ?_, ?_⟩
  · rw [zs_rw, zs_rw, zs_row _ _ _ (by decide), zs_row _ _ _ (by decide), zs_row _ _ _ (by decide), zs_row _ _ _ (by decide)]
  · rw [zs_row _ _ _ (by decide), zs_row _ _ _ (by decide), zs_row _ _ _ (by decide), zs_rw, zs_row _ _ _ (by decide), zs_row _ _ _ (by decide)]
  · rw [zs_row _ _ _ (by decide), zs_row _ _ _ (by decide), zs_rw, zs_row _ _ _ (by decide), zs_row _ _ _ (by decide), zs_row _ _ _ (by decide)]
  · rw [zs_row _ _ _ (by decide), zs_row _ _ _ (by decide), zs_row _ _ _ (by decide), zs_row _ _ _ (by decide), zs_row _ _ _ (by decide), zs_eq]
/-- what commit keeps of the two sides' numbers: the drawing and the transcript go together -/
def cC (dd ar : Nat → Nat → Nat) : Prop := dd 7 0 = ar 0 5 ∧ cP (dd 6) (ar 14) (ar 15) (ar 16)
section CD
variable {tt bb ee : Nat → Nat → Nat} {K lo ln : Nat → Nat} {N lc : Nat}
/-- what stands still meanwhile -/
def cF (tt bb ee : Nat → Nat → Nat) (K : Nat → Nat) (N lc : Nat) (ln d0 : Nat → Nat) (dd ar : Nat → Nat → Nat) : Prop := dd 0 = d0 ∧ (∀ k, k < N → K k = dK tt dd K k) ∧ cB tt bb ee lc ln ar ∧ ∀ k, k < N → ar 27 k = K k
theorem cF_of {d0 : Nat → Nat} {dd ar d1 a1 : Nat → Nat → Nat} (h : cF tt bb ee K N lc ln d0 dd ar) (h0 : d1 0 = dd 0) (h1 : d1 1 = dd 1) (a11 : a1 11 = ar 11) (a12 : a1 12 = ar 12) (a27 : a1 27 = ar 27) : cF tt bb ee K N lc ln d0 d1 a1 := by
  obtain ⟨x1, x2, x3, x4⟩ := h
  refine ⟨h0.trans x1, fun k hk => ?_, ?_, fun k hk => by rw [a27]; exact x4 k hk⟩
  · rw [x2 k hk]
    unfold dK
    rw [h1]
  · unfold cB
    rw [a11, a12]
    exact x3
theorem dc_row1 (k : Nat) (real : Bool) (c : Nat) (dd : Nat → Nat → Nat) {j : Nat} (hj : j < 3) : dc tt bb ee K k real c dd j = dd j := by
  funext i
  exact dc_keep _ _ _ _ _ _ (Or.inl hj)
theorem cF_step {d0 : Nat → Nat} {dd ar : Nat → Nat → Nat} (h : cF tt bb ee K N lc ln d0 dd ar) (k : Nat) (real : Bool) (c c' : Nat) {kd lf rt lv : Nat → Nat} : cF tt bb ee K N lc ln d0 (dc tt bb ee K k real c dd) (cm kd lf rt lv k real c' ar) :=
  cF_of h (dc_row1 _ _ _ _ (by decide)) (dc_row1 _ _ _ _ (by decide)) (cm_row (by unfold cRow; decide) _ _ _ _) (cm_row (by unfold cRow; decide) _ _ _ _) (cm_row (by unfold cRow; decide) _ _ _ _)
theorem dc_leaf_eq {d0 : Nat → Nat} {dd ar : Nat → Nat → Nat} (hF : cF tt bb ee K N lc ln d0 dd ar) {k : Nat} (h0 : tt 0 k = 0) (hi : d0 k < lc) (hln : ln (d0 k) = k) (real : Bool) (c c' : Nat) (hc : real = false → c = c' ∧ c < 5003) (hC : cC dd ar) : cC (dc tt bb ee K k real c dd) (cmL (d0 k) real c' ar) ∧ (real = true → dc tt bb ee K k real c dd 3 k = cmL (d0 k) real c' ar 20 (d0 k)) := by
  obtain ⟨x1, x2, x3, x4⟩ := hF
  obtain ⟨b1, b2, b3, b4, b5⟩ := x3.2 (d0 k) hi
  rw [hln] at b1 b2 b5
  obtain ⟨e1, e2⟩ := hC
  rw [dc_leaf h0]
  unfold dcL
  rw [x1]
  rcases b5 with ⟨c1, c2⟩ | ⟨c1, c2, c3, c4, c5⟩
  · obtain ⟨m1, m2, m3, m4⟩ := cmL_rows1 b3 (by omega : ¬ 0 < ar 11 (2 * d0 k + 1)) real c'
    cases real
    · obtain ⟨rfl, hc2⟩ := hc rfl
      rw [if_neg (by decide)]
      refine ⟨⟨?_, ?_⟩, fun h => absurd h (by decide)⟩
      · rw [va_up_ne _ _ (by decide), zs_eq, m4, e1]
      · rw [va_up_self, m1, m2, m3, if_neg (by decide), if_neg (by decide), ← e1]
        unfold ftS
        rw [if_pos c1, b1, b2, cv_f hc2 b4]
        exact cP_up3 e2
    · rw [if_pos rfl]
      refine ⟨⟨?_, ?_⟩, fun _ => ?_⟩
      · rw [va_up_ne _ _ (by decide), zs_nj _ _ _ _ (by decide), zs_eq, m4, e1]
      · rw [va_up_self, m1, m2, m3, if_pos rfl, if_pos rfl, ← e1]
        unfold ftR
        rw [if_pos c1, b1, cv_t]
        exact cP_up3 e2
      · rw [va_up_ne _ _ (by decide), zs_eq, cmL_20, if_pos rfl, e1]
  · obtain ⟨m1, m2, m3, m4⟩ := cmL_rows2 b3 c2 real c'
    cases real
    · obtain ⟨rfl, hc2⟩ := hc rfl
      rw [if_neg (by decide)]
      refine ⟨⟨?_, ?_⟩, fun h => absurd h (by decide)⟩
      · rw [va_up_ne _ _ (by decide), zs_eq, m4, e1]
      · rw [va_up_self, m1, m2, m3, if_neg (by decide), if_neg (by decide), ← e1]
        unfold ftS
        rw [if_neg (by omega), b1, b2, c3, c4, cv_f hc2 b4, cv_f hc2 c5]
        exact cP_up4 e2
    · rw [if_pos rfl]
      refine ⟨⟨?_, ?_⟩, fun _ => ?_⟩
      · rw [va_up_ne _ _ (by decide), zs_nj _ _ _ _ (by decide), zs_eq, m4, e1]
      · rw [va_up_self, m1, m2, m3, if_pos rfl, if_pos rfl, ← e1]
        unfold ftR
        rw [if_neg (by omega), b1, c3, cv_t, cv_t]
        exact cP_up4 e2
      · rw [va_up_ne _ _ (by decide), zs_eq, cmL_20, if_pos rfl, e1]
end CD
