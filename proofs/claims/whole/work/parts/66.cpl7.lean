/-! the stack on the two sides -/
def sd (dd : Nat → Nat → Nat) : Nat → Nat → Nat := fun j => if j < 6 then fun _ => 0 else dd j
def sL (st sb se ar : Nat → Nat → Nat) (k : Nat) : Prop := sb k 0 = ar 2 k ∧ se k 0 = ar 3 k ∧ 0 < ar 2 k ∧ ar 2 k < 10007 ∧ ar 3 k < 10007 ∧ ar 3 k ^ 5003 % 10007 = 1 ∧ ((st 6 k = 1 ∧ ar 4 k = 0 ∧ ar 5 k = 0) ∨ (st 6 k = 2 ∧ 0 < ar 4 k ∧ ar 4 k < 10007 ∧ ar 5 k < 10007 ∧ sb k 1 = ar 4 k ∧ se k 1 = ar 5 k ∧ ar 5 k ^ 5003 % 10007 = 1))
def sM (st sb se : Nat → Nat → Nat) (M : Nat) (slo : Nat → Nat) (h : Nat) (sk : Nat → Option Nat) (ad : Nat → Nat) (ar : Nat → Nat → Nat) : Prop := h = ar 0 0 ∧ h ≤ 6 ∧ ar 6 h = M ∧ ar 6 0 = 0 ∧ (h = 6 → ar 6 6 = ar 6 5 + 1) ∧ (∀ i, i < 90 → ar 1 i < 3) ∧ tOK (ar 1) slo M ∧
  (∀ i, i < h → ar 6 i < ar 6 (i + 1) ∧ slo (ar 6 (i + 1) - 1) = ar 6 i ∧ cl (ar 1) (ar 6 (i + 1)) ≤ cl (ar 1) (ar 6 i) + 8 ∧ sk i = some (ad (st 3 (ar 6 (i + 1) - 1)))) ∧
  ∀ k, k < M → st 0 k = ar 1 k ∧ (st 0 k ≠ 0 → st 1 k = slo (k - 1) - 1 ∧ st 2 k = k - 1 ∧ st 7 k + cl (ar 1) (slo k) = cl (ar 1) (k + 1)) ∧ (st 0 k = 0 → sL st sb se ar k)
section CS
variable {st sb se ar : Nat → Nat → Nat} {M h : Nat} {slo ad : Nat → Nat} {sk : Nat → Option Nat}
theorem sM_mono (hs : sM st sb se M slo h sk ad ar) : ∀ j, j ≤ h → ∀ i, i ≤ j → ar 6 i ≤ ar 6 j := by
  obtain ⟨-, -, -, -, -, -, -, hs, -⟩ := hs
  intro j
  induction j with
  | zero => intro _ i hi; rw [show i = 0 by omega]; exact Nat.le_refl _
  | succ j ih =>
    intro hj i hi
    by_cases e : i = j + 1
    · subst e; exact Nat.le_refl _
    · have a := ih (by omega) i (by omega)
      have b := (hs j (by omega)).1
      omega
theorem sM_15 (hs : sM st sb se M slo h sk ad ar) : ∀ i, i ≤ h → ar 6 i ≤ 15 * i := by
  have hm := sM_mono hs
  obtain ⟨-, -, hM, h0, -, -, hO, hs, -⟩ := hs
  intro i
  induction i with
  | zero => intro _; rw [h0]; exact Nat.le_refl _
  | succ i ih =>
    intro hi
    have a := ih (by omega)
    obtain ⟨s1, s2, s3, -⟩ := hs i (by omega)
    have hle := hm h (Nat.le_refl _) (i + 1) hi
    have t := tOK_seg hO (ar 6 (i + 1) - 1) (by omega)
    rw [s2, show ar 6 (i + 1) - 1 + 1 = ar 6 (i + 1) by omega] at t
    omega
theorem sM_lt (hs : sM st sb se M slo h sk ad ar) : ar 6 h < 90 := by
  have h15 := sM_15 hs
  obtain ⟨-, h6, -, -, hx, -⟩ := hs
  by_cases e : h = 6
  · have a := hx e
    have b := h15 5 (by omega)
    rw [e, a]; omega
  · have := h15 h (Nat.le_refl _)
    omega
theorem sM_tI (hs : sM st sb se M slo h sk ad ar) : tI (st 0) (st 1) (st 2) slo M := by
  obtain ⟨-, -, hM, h0, -, -, hO, hs, hk⟩ := hs
  intro k hkM
  obtain ⟨k1, k2, k3⟩ := hk k hkM
  have hle := tOK_le hO k hkM
  rcases hO k hkM with ⟨a, b⟩ | ⟨a, b, c, d⟩
  · rw [k1, a]
    exact ⟨by decide, hle, fun z => absurd rfl z⟩
  · have hn : st 0 k ≠ 0 := by rw [k1]; omega
    obtain ⟨x, y, z⟩ := k2 hn
    have l1 := tOK_le hO (k - 1) (by omega)
    have l2 := tOK_le hO (slo (k - 1) - 1) (by omega)
    refine ⟨by rw [k1]; omega, hle, fun _ => ?_⟩
    rw [x, y]
    omega
theorem sM_ch (hs : sM st sb se M slo h sk ad ar) : ∀ k, k < M → st 0 k ≠ 0 → st 1 k = slo (k - 1) - 1 ∧ st 2 k = k - 1 := fun k hk h0 => ⟨((hs.2.2.2.2.2.2.2.2 k hk).2.1 h0).1, ((hs.2.2.2.2.2.2.2.2 k hk).2.1 h0).2.1⟩
theorem sM_kd (hs : sM st sb se M slo h sk ad ar) : ∀ k, k < M → st 0 k = ar 1 k := fun k hk => (hs.2.2.2.2.2.2.2.2 k hk).1
theorem sM_cl (hs : sM st sb se M slo h sk ad ar) {j : Nat} (hj : j ≤ M) : cl (st 0) j = cl (ar 1) j := cl_congr (fun k hk => sM_kd hs k (by omega))
theorem sM_tOK (hs : sM st sb se M slo h sk ad ar) : tOK (st 0) slo M := by
  intro k hk
  rw [sM_kd hs k hk]
  exact hs.2.2.2.2.2.2.1 k hk
theorem sM_sz (hs : sM st sb se M slo h sk ad ar) {k : Nat} (hk : k < M) : szN st k + cl (ar 1) (slo k) = cl (ar 1) (k + 1) := by
  obtain ⟨k1, k2, k3⟩ := hs.2.2.2.2.2.2.2.2 k hk
  unfold szN
  by_cases h0 : st 0 k = 0
  · rw [if_pos h0]
    rw [k1] at h0
    rcases hs.2.2.2.2.2.2.1 k hk with ⟨a, b⟩ | ⟨a, -⟩
    · rw [b, cl_leaf h0]; omega
    · omega
  · rw [if_neg h0]; exact (k2 h0).2.2
theorem sM_ag (hs : sM st sb se M slo h sk ad ar) {a1 : Nat → Nat → Nat} (hr : ∀ j, 1 ≤ j → j ≤ 6 → a1 j = ar j) (h0 : a1 0 0 = ar 0 0) : sM st sb se M slo h sk ad a1 := by
  unfold sM sL at *
  rw [hr 1 (by decide) (by decide), hr 2 (by decide) (by decide), hr 3 (by decide) (by decide), hr 4 (by decide) (by decide), hr 5 (by decide) (by decide), hr 6 (by decide) (by decide), h0]
  exact hs
theorem sM_0 (hs : sM st sb se M slo h sk ad ar) {a1 : Nat → Nat → Nat} (hr : ∀ j, 1 ≤ j → j ≤ 6 → a1 j = ar j) (h0 : a1 0 0 = 0) (sk1 : Nat → Option Nat) : sM st sb se 0 slo 0 sk1 ad a1 := by
  obtain ⟨-, -, hM, hz, -, hkd, hO, hs, hk⟩ := hs
  refine ⟨h0.symm, by decide, ?_, ?_, fun q => absurd q (by decide), ?_, fun k hk => absurd hk (Nat.not_lt_zero _), fun i hi => absurd hi (Nat.not_lt_zero _), fun k hk => absurd hk (Nat.not_lt_zero _)⟩
  · rw [hr 6 (by decide) (by decide)]; exact hz
  · rw [hr 6 (by decide) (by decide)]; exact hz
  · rw [hr 1 (by decide) (by decide)]; exact hkd
/-- discard -/
theorem sM_drop (hs : sM st sb se M slo h sk ad ar) (h0 : 0 < h) : sM st sb se (ar 6 (h - 1)) slo (h - 1) (va_up sk (h - 1) none) ad (zs ar 0 0 (h - 1)) := by
  have hm := sM_mono hs
  obtain ⟨e, h6, hM, hz, -, hkd, hO, hs, hk⟩ := hs
  have hle : ar 6 (h - 1) ≤ M := by rw [← hM]; exact hm h (Nat.le_refl _) (h - 1) (by omega)
  have r : ∀ {j : Nat}, j ≠ 0 → zs ar 0 0 (h - 1) j = ar j := fun a => zs_row _ _ _ a
  unfold sM sL
  rw [r (show 1 ≠ 0 by decide), r (show 2 ≠ 0 by decide), r (show 3 ≠ 0 by decide), r (show 4 ≠ 0 by decide), r (show 5 ≠ 0 by decide), r (show 6 ≠ 0 by decide), zs_eq]
  refine ⟨rfl, by omega, rfl, hz, fun q => absurd q (by omega), hkd, fun k hk => hO k (by omega), fun i hi => ?_, fun k hk' => hk k (by omega)⟩
  obtain ⟨a, b, c, d⟩ := hs i (by omega)
  exact ⟨a, b, c, by rw [va_up_ne _ _ (by omega)]; exact d⟩
/-- a new leaf -/
theorem sM_push (hs : sM st sb se M slo h sk ad ar) (h6 : h < 6) {n : Nat} {ad1 : Nat → Nat} (hst : ∀ k, k < M → st 3 k < n) (hag : ∀ j, j < n → ad1 j = ad j) {b y d w np : Nat} {fb fe : Nat → Nat} (hb : 0 < b ∧ b < 10007) (hy : y < 10007 ∧ y ^ 5003 % 10007 = 1) (f0 : fb 0 = b) (f1 : fe 0 = y) (hp : (np = 1 ∧ d = 0 ∧ w = 0) ∨ (np = 2 ∧ 0 < d ∧ d < 10007 ∧ w < 10007 ∧ fb 1 = d ∧ fe 1 = w ∧ w ^ 5003 % 10007 = 1)) (x4 x5 : Nat) : sM (zs (zs (zs (zs (zs st 0 M 0) 3 M n) 4 M x4) 5 M x5) 6 M np) (va_up sb M fb) (va_up se M fe) (M + 1) (va_up slo M M) (h + 1) (va_up sk h (some (ad1 n))) ad1 (mpush ar 0 b y d w) := by
  have hlt := sM_lt hs
  have hm := sM_mono hs
  obtain ⟨e, -, hM, hz, hx, hkd, hO, hs, hk⟩ := hs
  subst e
  have m6 : mpush ar 0 b y d w 6 = va_up (ar 6) (ar 0 0 + 1) (M + 1) := by
    unfold mpush
    rw [zs_rw, zs_row _ _ _ (by decide), zs_row _ _ _ (by decide), zs_row _ _ _ (by decide), zs_row _ _ _ (by decide), zs_row _ _ _ (by decide), zs_row _ _ _ (by decide), hM]
  have m00 : mpush ar 0 b y d w 0 0 = ar 0 0 + 1 := by
    unfold mpush
    rw [zs_nj _ _ _ _ (by decide), zs_eq]
  have m1 : mpush ar 0 b y d w 1 = va_up (ar 1) M 0 := by
    unfold mpush
    rw [zs_row _ _ _ (by decide), zs_row _ _ _ (by decide), zs_row _ _ _ (by decide), zs_row _ _ _ (by decide), zs_row _ _ _ (by decide), zs_row _ _ _ (by decide), zs_rw, hM]
  have m2 : mpush ar 0 b y d w 2 = va_up (ar 2) M b := by
    unfold mpush
    rw [zs_row _ _ _ (by decide), zs_row _ _ _ (by decide), zs_row _ _ _ (by decide), zs_row _ _ _ (by decide), zs_row _ _ _ (by decide), zs_rw, zs_row _ _ _ (by decide), hM]
  have m3 : mpush ar 0 b y d w 3 = va_up (ar 3) M y := by
    unfold mpush
    rw [zs_row _ _ _ (by decide), zs_row _ _ _ (by decide), zs_row _ _ _ (by decide), zs_row _ _ _ (by decide), zs_rw, zs_row _ _ _ (by decide), zs_row _ _ _ (by decide), hM]
  have m4 : mpush ar 0 b y d w 4 = va_up (ar 4) M d := by
    unfold mpush
    rw [zs_row _ _ _ (by decide), zs_row _ _ _ (by decide), zs_row _ _ _ (by decide), zs_rw, zs_row _ _ _ (by decide), zs_row _ _ _ (by decide), zs_row _ _ _ (by decide), hM]
  have m5 : mpush ar 0 b y d w 5 = va_up (ar 5) M w := by
    unfold mpush
    rw [zs_row _ _ _ (by decide), zs_row _ _ _ (by decide), zs_rw, zs_row _ _ _ (by decide), zs_row _ _ _ (by decide), zs_row _ _ _ (by decide), zs_row _ _ _ (by decide), hM]
  have c1 : ∀ j, j ≤ M → cl (va_up (ar 1) M 0) j = cl (ar 1) j := fun j hj => cl_congr (fun k hk => va_up_ne _ _ (by omega))
  have c2 : cl (va_up (ar 1) M 0) (M + 1) = cl (ar 1) M + 1 := by rw [cl_leaf (va_up_self _ _ _), c1 M (Nat.le_refl _)]
  have lM : ∀ i, i ≤ ar 0 0 → ar 6 i ≤ M := fun i hi => by rw [← hM]; exact hm (ar 0 0) (Nat.le_refl _) i hi
  unfold sM sL
  rw [m1, m2, m3, m4, m5, m6, m00]
  refine ⟨rfl, by omega, va_up_self _ _ _, by rw [va_up_ne _ _ (by omega)]; exact hz, fun q => ?_, fun i hi => ?_, fun k hk' => ?_, fun i hi => ?_, fun k hk' => ?_⟩
  · have q5 : ar 0 0 = 5 := by omega
    rw [q5] at hM
    rw [q5]
    show va_up (ar 6) 6 (M + 1) 6 = va_up (ar 6) 6 (M + 1) 5 + 1
    rw [va_up_self, va_up_ne _ _ (by decide), hM]
  · unfold va_up; split
    · decide
    · exact hkd i hi
  · by_cases q : k = M
    · subst q; exact Or.inl ⟨va_up_self _ _ _, va_up_self _ _ _⟩
    · have o := hO k (by omega)
      rw [va_up_ne _ _ q, va_up_ne _ _ q]
      rcases o with o | ⟨o1, o2, o3, o4⟩
      · exact Or.inl o
      · have l1 := tOK_le hO (k - 1) (by omega)
        rw [va_up_ne _ _ (show k - 1 ≠ M by omega), va_up_ne _ _ (show slo (k - 1) - 1 ≠ M by omega)]
        exact Or.inr ⟨o1, o2, o3, o4⟩
  · by_cases q : i = ar 0 0
    · subst q
      rw [va_up_self, va_up_ne _ _ (by omega), va_up_self, hM, show M + 1 - 1 = M by omega, va_up_self, c2, c1 M (Nat.le_refl _)]
      refine ⟨by omega, rfl, by omega, ?_⟩
      rw [zs_nj _ _ _ _ (by decide), zs_nj _ _ _ _ (by decide), zs_nj _ _ _ _ (by decide), zs_eq]
    · obtain ⟨s1, s2, s3, s4⟩ := hs i (by omega)
      have le1 := lM (i + 1) (by omega)
      rw [va_up_ne _ _ (show i ≠ ar 0 0 + 1 by omega), va_up_ne _ _ (show i + 1 ≠ ar 0 0 + 1 by omega), va_up_ne _ _ (show ar 6 (i + 1) - 1 ≠ M by omega), c1 _ le1, c1 _ (by omega), va_up_ne _ _ q]
      refine ⟨s1, s2, s3, ?_⟩
      rw [zs_ni _ _ _ _ (show ar 6 (i + 1) - 1 ≠ M by omega), zs_ni _ _ _ _ (show ar 6 (i + 1) - 1 ≠ M by omega), zs_ni _ _ _ _ (show ar 6 (i + 1) - 1 ≠ M by omega), zs_ni _ _ _ _ (show ar 6 (i + 1) - 1 ≠ M by omega), zs_ni _ _ _ _ (show ar 6 (i + 1) - 1 ≠ M by omega), hag _ (hst _ (by omega))]
      exact s4
  · by_cases q : k = M
    · subst q
      simp only [va_up_self]
      have z0 : zs (zs (zs (zs (zs st 0 k 0) 3 k n) 4 k x4) 5 k x5) 6 k np 0 k = 0 := by rw [zs_nj _ _ _ _ (by decide), zs_nj _ _ _ _ (by decide), zs_nj _ _ _ _ (by decide), zs_nj _ _ _ _ (by decide), zs_eq]
      rw [z0, zs_eq]
      exact ⟨rfl, fun z => absurd rfl z, fun _ => ⟨f0, f1, hb.1, hb.2, hy.1, hy.2, hp⟩⟩
    · obtain ⟨k1, k2, k3⟩ := hk k (by omega)
      have zz : ∀ j, zs (zs (zs (zs (zs st 0 M 0) 3 M n) 4 M x4) 5 M x5) 6 M np j k = st j k := fun j => by rw [zs_ni _ _ _ _ q, zs_ni _ _ _ _ q, zs_ni _ _ _ _ q, zs_ni _ _ _ _ q, zs_ni _ _ _ _ q]
      have l1 := tOK_le hO k (by omega)
      rw [zz, zz, zz, zz, zz, va_up_ne _ _ q, va_up_ne _ _ q, va_up_ne _ _ q, va_up_ne _ _ q, va_up_ne _ _ q, va_up_ne _ _ q, va_up_ne _ _ q, va_up_ne _ _ q, va_up_ne _ _ (show k - 1 ≠ M by omega), c1 _ (by omega), c1 _ (by omega)]
      exact ⟨k1, k2, k3⟩
/-- two joined -/
theorem sM_join (hs : sM st sb se M slo h sk ad ar) (h2 : 2 ≤ h) (h8 : cl (ar 1) M - cl (ar 1) (ar 6 (h - 2)) ≤ 8) {n : Nat} {ad1 : Nat → Nat} (hst : ∀ k, k < M → st 3 k < n) (hag : ∀ j, j < n → ad1 j = ad j) (all : Bool) {sk1 : Nat → Option Nat} (hsk : ∀ i, i < h - 2 → sk1 i = sk i) (hsk2 : sk1 (h - 2) = some (ad1 n)) : sM (zs (zs (zs (zs (zs st 0 M (if all then 1 else 2)) 1 M (ar 6 (h - 1) - 1)) 2 M (M - 1)) 3 M n) 7 M (szN st (ar 6 (h - 1) - 1) + szN st (M - 1))) sb se (M + 1) (va_up slo M (ar 6 (h - 2))) (h - 1) sk1 ad1 (jn ar all) := by
  have hlt := sM_lt hs
  have hm := sM_mono hs
  have z1 := sM_sz hs (k := ar 6 (h - 1) - 1)
  have z2 := sM_sz hs (k := M - 1)
  obtain ⟨e, h6, hM, hz, hx, hkd, hO, hs, hk⟩ := hs
  subst e
  generalize hv : (if all then 1 else 2) = v at *
  have hv3 : v = 1 ∨ v = 2 := by rw [← hv]; split <;> simp
  obtain ⟨p1, p2, p3, p4⟩ := hs (ar 0 0 - 1) (by omega)
  obtain ⟨q1, q2, q3, q4⟩ := hs (ar 0 0 - 2) (by omega)
  rw [show ar 0 0 - 1 + 1 = ar 0 0 by omega, hM] at p1 p2 p3
  rw [show ar 0 0 - 2 + 1 = ar 0 0 - 1 by omega] at q1 q2 q3
  have j6 : jn ar all 6 = va_up (ar 6) (ar 0 0 - 1) (M + 1) := by
    unfold jn
    rw [zs_rw, zs_row _ _ _ (by decide), zs_row _ _ _ (by decide), hM]
  have j00 : jn ar all 0 0 = ar 0 0 - 1 := by
    unfold jn
    rw [zs_nj _ _ _ _ (by decide), zs_eq]
  have j1 : jn ar all 1 = va_up (ar 1) M v := by
    unfold jn
    rw [zs_row _ _ _ (by decide), zs_row _ _ _ (by decide), zs_rw, hM, hv]
  have jr : ∀ {j : Nat}, j ≠ 0 → j ≠ 1 → j ≠ 6 → jn ar all j = ar j := fun a b c => by
    unfold jn
    rw [zs_row _ _ _ c, zs_row _ _ _ a, zs_row _ _ _ b]
  have c1 : ∀ j, j ≤ M → cl (va_up (ar 1) M v) j = cl (ar 1) j := fun j hj => cl_congr (fun k hk => va_up_ne _ _ (by omega))
  have c2 : cl (va_up (ar 1) M v) (M + 1) = cl (ar 1) M := by rw [cl_join (by rw [va_up_self]; omega), c1 M (Nat.le_refl _)]
  have lM : ∀ i, i ≤ ar 0 0 → ar 6 i ≤ M := fun i hi => by rw [← hM]; exact hm (ar 0 0) (Nat.le_refl _) i hi
  have z1 := z1 (by omega)
  have z2 := z2 (by omega)
  rw [q2, show ar 6 (ar 0 0 - 1) - 1 + 1 = ar 6 (ar 0 0 - 1) by omega] at z1
  rw [p2, show M - 1 + 1 = M by omega] at z2
  unfold sM sL
  rw [j1, jr (j := 2) (by decide) (by decide) (by decide), jr (j := 3) (by decide) (by decide) (by decide), jr (j := 4) (by decide) (by decide) (by decide), jr (j := 5) (by decide) (by decide) (by decide), j6, j00]
  refine ⟨rfl, by omega, va_up_self _ _ _, by rw [va_up_ne _ _ (by omega)]; exact hz, fun q => absurd q (by omega), fun i hi => ?_, fun k hk' => ?_, fun i hi => ?_, fun k hk' => ?_⟩
  · unfold va_up; split
    · omega
    · exact hkd i hi
  · by_cases q : k = M
    · subst q
      refine Or.inr ⟨by rw [va_up_self]; exact hv3, by omega, ?_, ?_⟩
      · rw [va_up_ne _ _ (show k - 1 ≠ k by omega), p2]; omega
      · rw [va_up_self, va_up_ne _ _ (show k - 1 ≠ k by omega), p2, va_up_ne _ _ (by omega), q2]
    · have o := hO k (by omega)
      rw [va_up_ne _ _ q, va_up_ne _ _ q]
      rcases o with o | ⟨o1, o2, o3, o4⟩
      · exact Or.inl o
      · have l1 := tOK_le hO (k - 1) (by omega)
        rw [va_up_ne _ _ (show k - 1 ≠ M by omega), va_up_ne _ _ (show slo (k - 1) - 1 ≠ M by omega)]
        exact Or.inr ⟨o1, o2, o3, o4⟩
  · by_cases q : i = ar 0 0 - 2
    · subst q
      rw [show ar 0 0 - 2 + 1 = ar 0 0 - 1 by omega, va_up_self, va_up_ne _ _ (by omega), show M + 1 - 1 = M by omega, va_up_self, c2, c1 _ (by omega)]
      refine ⟨by omega, rfl, by omega, ?_⟩
      rw [zs_nj _ _ _ _ (by decide), zs_eq]
      exact hsk2
    · obtain ⟨s1, s2, s3, s4⟩ := hs i (by omega)
      have le1 := lM (i + 1) (by omega)
      have lt1 := hm (ar 0 0 - 1) (by omega) (i + 1) (by omega)
      rw [va_up_ne _ _ (show i ≠ ar 0 0 - 1 by omega), va_up_ne _ _ (show i + 1 ≠ ar 0 0 - 1 by omega), va_up_ne _ _ (show ar 6 (i + 1) - 1 ≠ M by omega), c1 _ le1, c1 _ (by omega), hsk i (by omega)]
      refine ⟨s1, s2, s3, ?_⟩
      rw [zs_ni _ _ _ _ (show ar 6 (i + 1) - 1 ≠ M by omega), zs_ni _ _ _ _ (show ar 6 (i + 1) - 1 ≠ M by omega), zs_ni _ _ _ _ (show ar 6 (i + 1) - 1 ≠ M by omega), zs_ni _ _ _ _ (show ar 6 (i + 1) - 1 ≠ M by omega), zs_ni _ _ _ _ (show ar 6 (i + 1) - 1 ≠ M by omega), hag _ (hst _ (by omega))]
      exact s4
  · by_cases q : k = M
    · subst q
      have t0 : zs (zs (zs (zs (zs st 0 k v) 1 k (ar 6 (ar 0 0 - 1) - 1)) 2 k (k - 1)) 3 k n) 7 k (szN st (ar 6 (ar 0 0 - 1) - 1) + szN st (k - 1)) 0 k = v := by rw [zs_nj _ _ _ _ (by decide), zs_nj _ _ _ _ (by decide), zs_nj _ _ _ _ (by decide), zs_nj _ _ _ _ (by decide), zs_eq]
      have t1 : zs (zs (zs (zs (zs st 0 k v) 1 k (ar 6 (ar 0 0 - 1) - 1)) 2 k (k - 1)) 3 k n) 7 k (szN st (ar 6 (ar 0 0 - 1) - 1) + szN st (k - 1)) 1 k = ar 6 (ar 0 0 - 1) - 1 := by rw [zs_nj _ _ _ _ (by decide), zs_nj _ _ _ _ (by decide), zs_nj _ _ _ _ (by decide), zs_eq]
      have t2 : zs (zs (zs (zs (zs st 0 k v) 1 k (ar 6 (ar 0 0 - 1) - 1)) 2 k (k - 1)) 3 k n) 7 k (szN st (ar 6 (ar 0 0 - 1) - 1) + szN st (k - 1)) 2 k = k - 1 := by rw [zs_nj _ _ _ _ (by decide), zs_nj _ _ _ _ (by decide), zs_eq]
      rw [t0, t1, t2, zs_eq, va_up_self, va_up_self, va_up_ne _ _ (show k - 1 ≠ k by omega), p2, c2, c1 _ (by omega)]
      exact ⟨rfl, fun _ => ⟨rfl, rfl, by omega⟩, fun z => absurd z (by omega)⟩
    · obtain ⟨k1, k2, k3⟩ := hk k (by omega)
      have zz : ∀ j, zs (zs (zs (zs (zs st 0 M v) 1 M (ar 6 (ar 0 0 - 1) - 1)) 2 M (M - 1)) 3 M n) 7 M (szN st (ar 6 (ar 0 0 - 1) - 1) + szN st (M - 1)) j k = st j k := fun j => by rw [zs_ni _ _ _ _ q, zs_ni _ _ _ _ q, zs_ni _ _ _ _ q, zs_ni _ _ _ _ q, zs_ni _ _ _ _ q]
      have l1 := tOK_le hO k (by omega)
      rw [zz, zz, zz, zz, zz, va_up_ne _ _ q, va_up_ne _ _ q, va_up_ne _ _ (show k - 1 ≠ M by omega), c1 _ (by omega), c1 _ (by omega)]
      exact ⟨k1, k2, k3⟩
end CS
