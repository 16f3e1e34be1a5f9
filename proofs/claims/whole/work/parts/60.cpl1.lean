/-! the two sides' numbers: the tables, who is known, the joint challenge -/
theorem fx_ex (F : (Nat → Nat) → Nat → Nat) (N : Nat) (hF : ∀ (f g : Nat → Nat) (k : Nat), k < N → (∀ j, j < k → f j = g j) → F f k = F g k) : ∃ K : Nat → Nat, ∀ k, k < N → K k = F K k := by
  have h : ∀ M, M ≤ N → ∃ K : Nat → Nat, ∀ k, k < M → K k = F K k := by
    intro M
    induction M with
    | zero => exact fun _ => ⟨fun _ => 0, fun k hk => absurd hk (Nat.not_lt_zero _)⟩
    | succ M ih =>
      intro hM
      obtain ⟨K, hK⟩ := ih (by omega)
      refine ⟨va_up K M (F K M), fun k hk => ?_⟩
      by_cases e : k = M
      · subst e
        rw [va_up_self]
        exact hF _ _ _ (by omega) (fun j hj => (va_up_ne _ _ (by omega)).symm)
      · rw [va_up_ne _ _ e, hK k (by omega)]
        exact hF _ _ _ (by omega) (fun j hj => (va_up_ne _ _ (by omega)).symm)
  exact h N (Nat.le_refl _)
theorem fx_un (F : (Nat → Nat) → Nat → Nat) (N : Nat) (hF : ∀ (f g : Nat → Nat) (k : Nat), k < N → (∀ j, j < k → f j = g j) → F f k = F g k) {f g : Nat → Nat} (hf : ∀ k, k < N → f k = F f k) (hg : ∀ k, k < N → g k = F g k) : ∀ k, k < N → f k = g k := by
  intro k
  induction k using Nat.strongRecOn with
  | ind k ih =>
    intro hk
    rw [hf k hk, hg k hk]
    exact hF _ _ _ hk (fun j hj => ih j hj (by omega))
def cT (tt dd : Nat → Nat → Nat) (N lc : Nat) (ln lo : Nat → Nat) (ar : Nat → Nat → Nat) : Prop := ar 0 1 = N ∧ N ≤ 15 ∧ ar 0 2 = lc ∧ lc ≤ 8 ∧ tI (tt 0) (tt 1) (tt 2) lo N ∧ (∀ k, k < N → ar 7 k = tt 0 k ∧ (tt 0 k ≠ 0 → ar 8 k = tt 1 k ∧ ar 9 k = tt 2 k) ∧ (tt 0 k = 0 → ar 10 k = dd 0 k ∧ dd 0 k < lc ∧ ln (dd 0 k) = k)) ∧ ∀ i, i < lc → ln i < N ∧ tt 0 (ln i) = 0 ∧ dd 0 (ln i) = i
def cB (tt bb ee : Nat → Nat → Nat) (lc : Nat) (ln : Nat → Nat) (ar : Nat → Nat → Nat) : Prop := (∀ i, i < 16 → ar 11 i < 10007 ∧ ar 12 i < 10007) ∧ ∀ i, i < lc → bb (ln i) 0 = ar 11 (2 * i) ∧ ee (ln i) 0 = ar 12 (2 * i) ∧ 0 < ar 11 (2 * i) ∧ ar 12 (2 * i) ^ 5003 % 10007 = 1 ∧ ((tt 6 (ln i) = 1 ∧ ar 11 (2 * i + 1) = 0) ∨ (tt 6 (ln i) = 2 ∧ 0 < ar 11 (2 * i + 1) ∧ bb (ln i) 1 = ar 11 (2 * i + 1) ∧ ee (ln i) 1 = ar 12 (2 * i + 1) ∧ ar 12 (2 * i + 1) ^ 5003 % 10007 = 1))
def cW (dd : Nat → Nat → Nat) (lc : Nat) (ln : Nat → Nat) (ar : Nat → Nat → Nat) : Prop := (∀ i, i < 8 → ar 13 i < 2 ^ 32) ∧ ∀ i, i < lc → (dd 1 (ln i) = 1 ∧ dd 2 (ln i) = ar 13 i ∧ ar 13 i < 5003) ∨ (dd 1 (ln i) = 0 ∧ ar 13 i = 4294967295)
def cP (f a b c : Nat → Nat) : Prop := ∀ i, i < 8 → f (i * 4 + 0) = a (2 * i) ∧ f (i * 4 + 1) = a (2 * i + 1) ∧ f (i * 4 + 2) = b i ∧ f (i * 4 + 3) = c i
section CP
variable {tt bb ee dd ar : Nat → Nat → Nat} {N lc : Nat} {ln lo fk : Nat → Nat}
theorem cT_ch (h : cT tt dd N lc ln lo ar) {k : Nat} (hk : k < N) (h0 : tt 0 k ≠ 0) : tt 1 k < k ∧ tt 2 k < k := by
  obtain ⟨-, -, -, -, hI, -, -⟩ := h
  obtain ⟨a, b, c⟩ := hI k hk
  obtain ⟨c1, c2, c3, c4, c5⟩ := c h0
  omega
theorem dK_loc (h : cT tt dd N lc ln lo ar) (f g : Nat → Nat) (k : Nat) (hk : k < N) (hj : ∀ j, j < k → f j = g j) : dK tt dd f k = dK tt dd g k := by
  unfold dK
  by_cases h0 : tt 0 k = 0
  · rw [if_pos h0, if_pos h0]
  · obtain ⟨a, b⟩ := cT_ch h hk h0
    rw [if_neg h0, if_neg h0, hj _ a, hj _ b]
theorem kv_dK (h : cT tt dd N lc ln lo ar) (hw : cW dd lc ln ar) {k : Nat} (hk : k < N) (f : Nat → Nat) : kv ar f k = dK tt dd f k := by
  obtain ⟨-, -, -, -, hI, ht, hl⟩ := id h
  obtain ⟨t1, t2, t3⟩ := ht k hk
  have hk2 := (hI k hk).1
  unfold kv dK
  rw [t1]
  by_cases h0 : tt 0 k = 0
  · obtain ⟨a, b, c⟩ := t3 h0
    rw [if_pos h0, if_pos h0, a]
    have w := hw.2 (dd 0 k) b
    rw [c] at w
    rcases w with ⟨w1, -, w3⟩ | ⟨w1, w3⟩
    · rw [w1, if_pos (by omega)]
    · rw [w1, w3, if_neg (by decide)]
  · obtain ⟨a, b⟩ := t2 h0
    rw [if_neg h0, if_neg h0, a, b]
theorem dK_lt (hw : cW dd lc ln ar) (h : cT tt dd N lc ln lo ar) {k : Nat} (hk : k < N) (f : Nat → Nat) : dK tt dd f k < 2 := by
  unfold dK
  by_cases h0 : tt 0 k = 0
  · obtain ⟨-, -, -, -, -, ht, -⟩ := h
    obtain ⟨a, b, c⟩ := (ht k hk).2.2 h0
    have w := hw.2 (dd 0 k) b
    rw [c] at w
    rw [if_pos h0]
    rcases w with ⟨w1, -⟩ | ⟨w1, -⟩ <;> omega
  · rw [if_neg h0]
    split <;> split <;> decide
theorem K_ex (h : cT tt dd N lc ln lo ar) (hw : cW dd lc ln ar) : ∃ K : Nat → Nat, (∀ k, k < N → K k = dK tt dd K k) ∧ ∀ k, k < N → K k < 2 := by
  obtain ⟨K, hK⟩ := fx_ex (dK tt dd) N (dK_loc h)
  exact ⟨K, hK, fun k hk => by rw [hK k hk]; exact dK_lt hw h hk K⟩
theorem K_un (h : cT tt dd N lc ln lo ar) (hw : cW dd lc ln ar) {K g : Nat → Nat} (hK : ∀ k, k < N → K k = dK tt dd K k) (hg : kOK ar g N) : ∀ k, k < N → g k = K k :=
  fx_un (dK tt dd) N (dK_loc h) (fun k hk => (hg k hk).trans (kv_dK h hw hk g)) hK
theorem dV_loc (h : cT tt dd N lc ln lo ar) (f0 : Nat → Nat) (f g : Nat → Nat) (k : Nat) (hk : k < N) (hj : ∀ j, j < k → f j = g j) : dV tt (va_up dd 6 f0) f k = dV tt (va_up dd 6 f0) g k := by
  unfold dV
  by_cases h0 : tt 0 k = 0
  · rw [if_pos h0, if_pos h0]
  · obtain ⟨a, b⟩ := cT_ch h hk h0
    rw [if_neg h0, if_neg h0, hj _ a, hj _ b]
theorem V_b (h : cT tt dd N lc ln lo ar) {f0 : Nat → Nat} (hf : ftN f0) {V : Nat → Nat} (hV : ∀ k, k < N → V k = dV tt (va_up dd 6 f0) V k) : vB V N := by
  intro k
  induction k using Nat.strongRecOn with
  | ind k ih =>
    intro hk
    obtain ⟨-, -, -, h8, -, ht, -⟩ := id h
    rw [hV k hk]
    unfold dV
    by_cases h0 : tt 0 k = 0
    · obtain ⟨a, b, c⟩ := (ht k hk).2.2 h0
      rw [if_pos h0, va_up_self, va_up_ne _ _ (by decide)]
      exact Or.inl ((hf (dd 0 k * 4 + 2) (by omega)).2 (by omega))
    · obtain ⟨a, b⟩ := cT_ch h hk h0
      have i1 := ih _ a (by omega)
      rw [if_neg h0]
      split
      · split
        · exact i1
        · exact Or.inr rfl
      · split
        · exact Or.inr rfl
        · exact Or.inl (Nat.mod_lt _ (by decide))
theorem V_ex (h : cT tt dd N lc ln lo ar) {f0 : Nat → Nat} (hf : ftN f0) : ∃ V : Nat → Nat, (∀ k, k < N → V k = dV tt (va_up dd 6 f0) V k) ∧ vB V N := by
  obtain ⟨V, hV⟩ := fx_ex (dV tt (va_up dd 6 f0)) N (dV_loc h f0)
  exact ⟨V, hV, V_b h hf hV⟩
theorem V_un (h : cT tt dd N lc ln lo ar) {f0 a b c : Nat → Nat} {cr : Nat} (hc : ar cr = b) (hp : cP f0 a b c) {V g : Nat → Nat} (hV : ∀ k, k < N → V k = dV tt (va_up dd 6 f0) V k) (hg : vOK ar cr g N) (hgb : vB g N) : ∀ k, k < N → g k = V k := by
  refine fx_un (dV tt (va_up dd 6 f0)) N (dV_loc h f0) (fun k hk => (hg k hk).trans ?_) hV
  obtain ⟨-, -, -, h8, hI, ht, -⟩ := id h
  obtain ⟨t1, t2, t3⟩ := ht k hk
  have hk2 := (hI k hk).1
  unfold vv dV
  rw [t1]
  by_cases h0 : tt 0 k = 0
  · obtain ⟨x, y, z⟩ := t3 h0
    rw [if_pos h0, if_pos h0, x, hc, va_up_self, va_up_ne _ _ (by decide)]
    exact ((hp (dd 0 k) (by omega)).2.2.1).symm
  · obtain ⟨x, y⟩ := t2 h0
    obtain ⟨u, v⟩ := cT_ch h hk h0
    have g1 := hgb (tt 1 k) (by omega)
    have g2 := hgb (tt 2 k) (by omega)
    rw [if_neg h0, if_neg h0, x, y]
    by_cases h1 : tt 0 k = 1
    · rw [if_pos h1, if_neg (show ¬ tt 0 k = 2 by omega)]
      by_cases e : g (tt 1 k) = g (tt 2 k)
      · rw [if_pos e]
        split
        · rfl
        · omega
      · rw [if_neg e, ite_self]
    · rw [if_neg h1, if_pos (show tt 0 k = 2 by omega)]
      by_cases e : g (tt 1 k) = 4294967295 ∨ g (tt 2 k) = 4294967295
      · rw [if_pos e, if_neg (by omega)]
      · rw [if_neg e, if_pos (by omega)]
/-- the model's own premisses -/
theorem cT_tT (h : cT tt dd N lc ln lo ar) : tT ar := by
  obtain ⟨h1, h2, h3, h4, hI, ht, hl⟩ := id h
  unfold tT
  rw [h1, h3]
  refine ⟨h2, h4, fun k hk => ?_⟩
  obtain ⟨t1, t2, t3⟩ := ht k hk
  rw [t1]
  refine ⟨(hI k hk).1, fun h0 => by rw [(t3 h0).1]; exact (t3 h0).2.1, fun h0 => ?_⟩
  rw [(t2 h0).1, (t2 h0).2]
  exact cT_ch h hk h0
theorem cT_tI (h : cT tt dd N lc ln lo ar) : tI (ar 7) (ar 8) (ar 9) lo (ar 0 1) := by
  obtain ⟨h1, h2, h3, h4, hI, ht, hl⟩ := id h
  rw [h1]
  intro k hk
  obtain ⟨t1, t2, t3⟩ := ht k hk
  rw [t1]
  refine ⟨(hI k hk).1, (hI k hk).2.1, fun h0 => ?_⟩
  rw [(t2 h0).1, (t2 h0).2]
  exact (hI k hk).2.2 h0
theorem cP_tN (h1 : cP (dd 6) (ar 14) (ar 15) (ar 16)) (h2 : cP fk (ar 17) (ar 18) (ar 19)) (f1 : ftN (dd 6)) (f2 : ftN fk) : tN ar := by
  refine ⟨fun i hi => ?_, fun i hi => ?_⟩
  · rcases (show i = 2 * (i / 2) ∨ i = 2 * (i / 2) + 1 by omega) with e | e
    · rw [e, ← (h1 (i / 2) (by omega)).1, ← (h2 (i / 2) (by omega)).1]
      exact ⟨(f1 _ (by omega)).1, (f2 _ (by omega)).1⟩
    · rw [e, ← (h1 (i / 2) (by omega)).2.1, ← (h2 (i / 2) (by omega)).2.1]
      exact ⟨(f1 _ (by omega)).1, (f2 _ (by omega)).1⟩
  · rw [← (h1 i hi).2.2.1, ← (h1 i hi).2.2.2, ← (h2 i hi).2.2.1, ← (h2 i hi).2.2.2]
    exact ⟨(f1 _ (by omega)).2 (by omega), (f1 _ (by omega)).2 (by omega), (f2 _ (by omega)).2 (by omega), (f2 _ (by omega)).2 (by omega)⟩
theorem hs_eq (h : cT tt dd N lc ln lo ar) (hb : cB tt bb ee lc ln ar) (hp : cP (dd 6) (ar 14) (ar 15) (ar 16)) : ∀ i, i ≤ lc → hsD tt bb ee dd ln i = hs ar i := by
  intro i
  induction i with
  | zero => intro _; rfl
  | succ i ih =>
    intro hi
    obtain ⟨-, -, -, h8, -, -, hl⟩ := id h
    obtain ⟨b1, b2, b3, b4, b5⟩ := hb.2 i (by omega)
    obtain ⟨p1, p2, -, -⟩ := hp i (by omega)
    show mixL (bb (ln i)) (ee (ln i)) (dd 6) (dd 0 (ln i)) (tt 6 (ln i)) (hsD tt bb ee dd ln i) = hs1 ar i 1 (hs1 ar i 0 (hs ar i))
    rw [ih (by omega), (hl i (by omega)).2.2, hs1_t (p := 0) b3]
    unfold mixL
    rcases b5 with ⟨c1, c2⟩ | ⟨c1, c2, c3, c4, -⟩
    · rw [if_pos c1, hs1_f (by omega), b1, b2, p1]; rfl
    · rw [if_neg (by omega), hs1_t c2, b1, b2, p1, p2, c3, c4]; rfl
theorem ho_eq (h : cT tt dd N lc ln lo ar) (hb : cB tt bb ee lc ln ar) (old : Bool) {f : Nat → Nat} (hp : cP f (ar (mR old)) (ar (cR old)) (ar (rR old))) : ∀ i, i ≤ lc → hoAll tt bb ee dd ln f i = acAll ar old i := by
  intro i
  induction i with
  | zero => intro _; rfl
  | succ i ih =>
    intro hi
    obtain ⟨-, -, -, h8, -, -, hl⟩ := id h
    obtain ⟨b1, b2, b3, b4, b5⟩ := hb.2 i (by omega)
    obtain ⟨p1, p2, p3, p4⟩ := hp i (by omega)
    show (hoAll tt bb ee dd ln f i && holdB (bb (ln i)) (ee (ln i)) f (dd 0 (ln i)) (tt 6 (ln i))) = (acAll ar old i && acB ar old i)
    rw [ih (by omega), (hl i (by omega)).2.2]
    congr 1
    unfold holdB acB holdP acP
    rw [p1, p2, p3, p4, b1, b2, decide_eq_true (show 0 < ar 11 (2 * i + 0) from b3), Bool.not_true, Bool.false_or]
    congr 1
    rcases b5 with ⟨c1, c2⟩ | ⟨c1, c2, c3, c4, -⟩
    · rw [decide_eq_true c1, decide_eq_false (show ¬ 0 < ar 11 (2 * i + 1) by omega)]; rfl
    · rw [decide_eq_false (show ¬ tt 6 (ln i) = 1 by omega), decide_eq_true c2, c3, c4]; rfl
theorem sm_eq (hb : cB tt bb ee lc ln ar) (h8 : lc ≤ 8) (h1 : cP (dd 6) (ar 14) (ar 15) (ar 16)) (h2 : cP fk (ar 17) (ar 18) (ar 19)) : ∀ i, i ≤ lc → smAllD tt dd ln fk i = smAll ar i := by
  intro i
  induction i with
  | zero => intro _; rfl
  | succ i ih =>
    intro hi
    obtain ⟨b1, b2, b3, b4, b5⟩ := hb.2 i (by omega)
    obtain ⟨p1, p2, -, -⟩ := h1 i (by omega)
    obtain ⟨q1, q2, -, -⟩ := h2 i (by omega)
    show (smAllD tt dd ln fk i && smB2 tt dd ln fk i) = (smAll ar i && smB ar i)
    rw [ih (by omega)]
    congr 1
    unfold smB2 smB
    rw [p1, p2, q1, q2]
    congr 1
    rcases b5 with ⟨c1, c2⟩ | ⟨c1, c2, c3, c4, -⟩
    · rw [decide_eq_true c1, decide_eq_false (show ¬ 0 < ar 11 (2 * i + 1) by omega)]; rfl
    · rw [decide_eq_false (show ¬ tt 6 (ln i) = 1 by omega), decide_eq_true c2]; rfl
theorem fit_eq (hb : cB tt bb ee lc ln ar) {i : Nat} (hi : i < lc) (x : Nat) : fitB (bb (ln i)) (ee (ln i)) (tt 6 (ln i)) x = fitn ar i x := by
  obtain ⟨b1, b2, b3, b4, b5⟩ := hb.2 i hi
  unfold fitB fitn
  rw [b1, b2]
  congr 1
  rcases b5 with ⟨c1, c2⟩ | ⟨c1, c2, c3, c4, -⟩
  · rw [decide_eq_true c1, decide_eq_false (show ¬ 0 < ar 11 (2 * i + 1) by omega)]; rfl
  · rw [decide_eq_false (show ¬ tt 6 (ln i) = 1 by omega), decide_eq_true c2, c3, c4]; rfl
theorem ls5_0 {a b : Nat} (ha : a < 5003) (hb : b < 5003) : ls5 a b = 0 ↔ a = b := by
  unfold ls5
  omega
end CP
