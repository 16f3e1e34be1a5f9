/-! accept on the two sides; the whole coupling -/
theorem ln_ex (kd : Nat → Nat) : ∀ M, ∃ ln : Nat → Nat, ∀ i, i < cl kd M → ln i < M ∧ kd (ln i) = 0 ∧ cl kd (ln i) = i := by
  intro M
  induction M with
  | zero => exact ⟨fun _ => 0, fun i hi => absurd hi (Nat.not_lt_zero _)⟩
  | succ M ih =>
    obtain ⟨ln, hl⟩ := ih
    by_cases h0 : kd M = 0
    · refine ⟨va_up ln (cl kd M) M, fun i hi => ?_⟩
      rw [cl_leaf h0] at hi
      by_cases e : i = cl kd M
      · subst e; rw [va_up_self]; exact ⟨by omega, h0, rfl⟩
      · rw [va_up_ne _ _ e]
        obtain ⟨a, b, c⟩ := hl i (by omega)
        exact ⟨by omega, b, c⟩
    · refine ⟨ln, fun i hi => ?_⟩
      rw [cl_join h0] at hi
      obtain ⟨a, b, c⟩ := hl i hi
      exact ⟨by omega, b, c⟩
theorem cl_un {kd : Nat → Nat} {i j : Nat} (hi : kd i = 0) (hj : kd j = 0) (h : cl kd i = cl kd j) : i = j := by
  rcases Nat.lt_trichotomy i j with q | q | q
  · have := cl_lt (k := j) q hi; omega
  · exact q
  · have := cl_lt (k := i) q hj; omega
section CA
variable {tt bb ee dd ar st sb se : Nat → Nat → Nat} {N M : Nat} {sc fk ln lo slo : Nat → Nat} {sk rw : Nat → Option Nat} {ca : Nat → ClassId} {n : Nat} {ad : Nat → Nat} {ct : Nat → va_E}
theorem cX_acc (hX : cX tt bb ee dd N sc fk ln lo ar) (hs : sM st sb se M slo 1 sk ad ar) {a d1 : Nat → Nat → Nat} {nn : Nat} {h h2 h3 h4 f1 ln1 : Nat → Nat} {rw1 : Nat → Option Nat} (hA : accI ar a slo (ar 6 1) (ar 6 1) nn) (q1 : ∀ i, i < 16 → h i = 0) (q2 : ∀ i, i < 8 → h2 i = 0) (q3 : ∀ i, i < 8 → h3 i = 0) (q4 : ∀ i, i < 8 → h4 i = 4294967295) (hnl : nlR slo st ad (M - 1) (sd dd) d1 rw rw1) (hf : ∀ i, i < 32 → f1 i = 0) (hln1 : ∀ i, i < cl (st 0) M → ln1 i < M ∧ st 0 (ln1 i) = 0 ∧ cl (st 0) (ln1 i) = i) : cX st sb se (va_up d1 6 f1) M (fun i => if i = 1 then cl (st 0) M else 0) fk ln1 slo (zs (zs (zs (va_up (va_up (va_up (va_up a 14 h) 15 h2) 16 h3) 13 h4) 0 0 0) 0 3 0) 0 4 0) := by
  have hI := sM_tI hs
  have h15 := sM_15 hs 1 (by decide)
  have hcl := fun j (hj : j ≤ M) => sM_cl hs hj
  obtain ⟨c1, c2, c3, c4, c5, c6, c7, c8, c9, c10⟩ := id hX
  obtain ⟨e, -, hM, hz, -, hkd, hO, hsg, hk⟩ := id hs
  obtain ⟨g1, g2, g3, g4, g5, -, -, -, -, -, g11⟩ := hA
  rw [hM] at g3 g4 g5 g11 h15
  obtain ⟨s1, s2, s3, s4⟩ := hsg 0 (by decide)
  rw [show 0 + 1 = 1 from rfl, hM] at s1 s2 s3
  rw [hz] at s1 s2 s3
  rw [show cl (ar 1) 0 = 0 from rfl] at s3
  have aR : ∀ {j : Nat}, j ≠ 0 → j ≠ 13 → j ≠ 14 → j ≠ 15 → j ≠ 16 → zs (zs (zs (va_up (va_up (va_up (va_up a 14 h) 15 h2) 16 h3) 13 h4) 0 0 0) 0 3 0) 0 4 0 j = a j := fun x y z u v => by rw [zs_row _ _ _ x, zs_row _ _ _ x, zs_row _ _ _ x, va_up_ne _ _ y, va_up_ne _ _ v, va_up_ne _ _ u, va_up_ne _ _ z]
  have a0 : ∀ {i : Nat}, i ≠ 0 → i ≠ 3 → i ≠ 4 → zs (zs (zs (va_up (va_up (va_up (va_up a 14 h) 15 h2) 16 h3) 13 h4) 0 0 0) 0 3 0) 0 4 0 0 i = a 0 i := fun x y z => by rw [zs_ni _ _ _ _ z, zs_ni _ _ _ _ y, zs_ni _ _ _ _ x, va_up_ne _ _ (by decide), va_up_ne _ _ (by decide), va_up_ne _ _ (by decide), va_up_ne _ _ (by decide)]
  have dR : ∀ {j : Nat}, j ≠ 6 → va_up d1 6 f1 j = d1 j := fun x => va_up_ne _ _ x
  have nl0 : ∀ k, k < M → st 0 k = 0 → d1 0 k = cl (st 0) k := fun k hk h0 => (hnl.2.1 k (by omega) (by omega) h0).1
  have hln0 : ∀ k, k < M → st 0 k = 0 → ln1 (cl (st 0) k) = k := fun k hk h0 => by
    obtain ⟨x, y, z⟩ := hln1 (cl (st 0) k) (cl_lt hk h0)
    exact cl_un y h0 z
  refine ⟨?_, ?_, ?_, ?_, ?_, ?_, c7, ?_, ?_, fun z _ => absurd (show (0 : Nat) = 1 from z) (by decide)⟩
  · show cT st (va_up d1 6 f1) M (cl (st 0) M) ln1 slo _
    refine ⟨?_, by omega, ?_, ?_, hI, fun k hk' => ?_, fun i hi => ?_⟩
    · rw [a0 (by decide) (by decide) (by decide), g3]
    · rw [a0 (by decide) (by decide) (by decide), g4, hcl M (Nat.le_refl _)]
    · rw [hcl M (Nat.le_refl _)]; omega
    · obtain ⟨k1, k2, k3⟩ := hk k hk'
      obtain ⟨x, y, z⟩ := g5 k hk'
      rw [aR (by decide) (by decide) (by decide) (by decide) (by decide), aR (by decide) (by decide) (by decide) (by decide) (by decide), aR (by decide) (by decide) (by decide) (by decide) (by decide), aR (by decide) (by decide) (by decide) (by decide) (by decide), x, ← k1, dR (by decide)]
      refine ⟨rfl, fun h0 => ?_, fun h0 => ?_⟩
      · rw [(k2 h0).1, (k2 h0).2.1]
        rw [k1] at h0
        exact z h0
      · rw [nl0 k hk' h0, hln0 k hk' h0]
        refine ⟨?_, cl_lt hk' h0, rfl⟩
        rw [(y (by rw [← k1]; exact h0)).1, hcl k (by omega)]
    · obtain ⟨x, y, z⟩ := hln1 i hi
      refine ⟨x, y, ?_⟩
      rw [dR (by decide), nl0 _ x y, z]
  · show cB st sb se (cl (st 0) M) ln1 _
    unfold cB
    rw [aR (by decide) (by decide) (by decide) (by decide) (by decide), aR (by decide) (by decide) (by decide) (by decide) (by decide)]
    have lf : ∀ i, i < cl (st 0) M → a 11 (2 * i) = ar 2 (ln1 i) ∧ a 12 (2 * i) = ar 3 (ln1 i) ∧ a 11 (2 * i + 1) = ar 4 (ln1 i) ∧ a 12 (2 * i + 1) = ar 5 (ln1 i) ∧ sL st sb se ar (ln1 i) := fun i hi => by
      obtain ⟨x, y, z⟩ := hln1 i hi
      obtain ⟨k1, k2, k3⟩ := hk _ x
      have w := (g5 _ x).2.1 (by rw [← k1]; exact y)
      rw [← hcl _ (by omega), z] at w
      exact ⟨w.2.1, w.2.2.1, w.2.2.2.1, w.2.2.2.2, k3 y⟩
    refine ⟨fun i hi => ?_, fun i hi => ?_⟩
    · by_cases q : i / 2 < cl (st 0) M
      · obtain ⟨w1, w2, w3, w4, w5, w6, w7, w8, w9, w10, w11⟩ := lf (i / 2) q
        rcases (show i = 2 * (i / 2) ∨ i = 2 * (i / 2) + 1 by omega) with p | p
        · rw [p, w1, w2]; exact ⟨w8, w9⟩
        · rw [p, w3, w4]
          rcases w11 with ⟨-, p1, p2⟩ | ⟨-, -, p1, p2, -⟩
          · rw [p1, p2]; decide
          · exact ⟨p1, p2⟩
      · have p := g11 i (by rw [← hcl M (Nat.le_refl _)]; omega)
        rw [p.1, p.2]
        exact c2.1 i hi
    · obtain ⟨w1, w2, w3, w4, w5, w6, w7, w8, w9, w10, w11⟩ := lf i hi
      rw [w1, w2, w3, w4]
      refine ⟨w5, w6, w7, w10, ?_⟩
      rcases w11 with ⟨p0, p1, p2⟩ | ⟨p0, p1, p2, p3, p4, p5, p6⟩
      · exact Or.inl ⟨p0, p1⟩
      · exact Or.inr ⟨p0, p1, p4, p5, p6⟩
  · show cW (va_up d1 6 f1) (cl (st 0) M) ln1 _
    have e13 : zs (zs (zs (va_up (va_up (va_up (va_up a 14 h) 15 h2) 16 h3) 13 h4) 0 0 0) 0 3 0) 0 4 0 13 = h4 := by rw [zs_row _ _ _ (by decide), zs_row _ _ _ (by decide), zs_row _ _ _ (by decide), va_up_self]
    unfold cW
    rw [e13]
    refine ⟨fun i hi => by rw [q4 i hi]; decide, fun i hi => Or.inr ⟨?_, q4 i (by rw [hcl M (Nat.le_refl _)] at hi; omega)⟩⟩
    rw [dR (by decide), hnl.1 1 _ (Or.inl (by decide))]
    rfl
  · have e14 : zs (zs (zs (va_up (va_up (va_up (va_up a 14 h) 15 h2) 16 h3) 13 h4) 0 0 0) 0 3 0) 0 4 0 14 = h := by rw [zs_row _ _ _ (by decide), zs_row _ _ _ (by decide), zs_row _ _ _ (by decide), va_up_ne _ _ (by decide), va_up_ne _ _ (by decide), va_up_ne _ _ (by decide), va_up_self]
    have e15 : zs (zs (zs (va_up (va_up (va_up (va_up a 14 h) 15 h2) 16 h3) 13 h4) 0 0 0) 0 3 0) 0 4 0 15 = h2 := by rw [zs_row _ _ _ (by decide), zs_row _ _ _ (by decide), zs_row _ _ _ (by decide), va_up_ne _ _ (by decide), va_up_ne _ _ (by decide), va_up_self]
    have e16 : zs (zs (zs (va_up (va_up (va_up (va_up a 14 h) 15 h2) 16 h3) 13 h4) 0 0 0) 0 3 0) 0 4 0 16 = h3 := by rw [zs_row _ _ _ (by decide), zs_row _ _ _ (by decide), zs_row _ _ _ (by decide), va_up_ne _ _ (by decide), va_up_self]
    rw [e14, e15, e16, va_up_self]
    intro i hi
    rw [hf _ (by omega), hf _ (by omega), hf _ (by omega), hf _ (by omega), q1 _ (by omega), q1 _ (by omega), q2 _ hi, q3 _ hi]
    exact ⟨rfl, rfl, rfl, rfl⟩
  · rw [aR (by decide) (by decide) (by decide) (by decide) (by decide), aR (by decide) (by decide) (by decide) (by decide) (by decide), aR (by decide) (by decide) (by decide) (by decide) (by decide), g1 17 (by decide) (by decide) (by decide) (by decide) (by decide) (by decide) (by decide) (by decide), g1 18 (by decide) (by decide) (by decide) (by decide) (by decide) (by decide) (by decide) (by decide), g1 19 (by decide) (by decide) (by decide) (by decide) (by decide) (by decide) (by decide) (by decide)]
    exact c5
  · rw [va_up_self]
    intro q hq
    rw [hf q hq]
    exact ⟨by decide, fun _ => by decide⟩
  · refine ⟨?_, show (0 : Nat) < 2 by decide⟩
    rw [zs_ni _ _ _ _ (by decide), zs_eq]; rfl
  · refine ⟨?_, show (0 : Nat) < 2 by decide⟩
    rw [zs_eq]; rfl
/-- the desk's world: the accepted statement, the stack beside it -/
def Cw (ca : Nat → ClassId) (n : Nat) (ad : Nat → Nat) (tt bb ee : Nat → Nat → Nat) (N : Nat) (dd : Nat → Nat → Nat) (sc : Nat → Nat) (sk rw : Nat → Option Nat) (fk ln : Nat → Nat) (st sb se : Nat → Nat → Nat) (M : Nat) (ct : Nat → va_E) : Prop := 8 ≤ n ∧ tS n tt bb ee 4 5 3 N ∧ dS ca ad tt bb ee N dd sc sk rw fk ln ct ∧ (∀ k, k < N → 8 ≤ tt 3 k) ∧ tS n st sb se 4 5 3 M ∧ tW ca ad st sb se 4 5 3 M (sd dd) ct ∧ (∀ k, k < M → 8 ≤ st 3 k ∧ (st 0 k = 0 → 8 ≤ st 4 k ∧ 8 ≤ st 5 k)) ∧ ∀ i k, i < M → k < N → st 3 i ≠ tt 3 k
def Cp (ca : Nat → ClassId) (n : Nat) (ad : Nat → Nat) (ct : Nat → va_E) (ar : Nat → Nat → Nat) : Prop := ∃ (tt bb ee : Nat → Nat → Nat) (N : Nat) (dd : Nat → Nat → Nat) (sc : Nat → Nat) (sk rw : Nat → Option Nat) (fk ln lo : Nat → Nat) (st sb se : Nat → Nat → Nat) (M : Nat) (slo : Nat → Nat), Cw ca n ad tt bb ee N dd sc sk rw fk ln st sb se M ct ∧ cX tt bb ee dd N sc fk ln lo ar ∧ sM st sb se M slo (sc 0) sk ad ar
theorem sd_nd (ad : Nat → Nat) (st d1 d2 : Nat → Nat → Nat) (k : Nat) : ndC ad st (sd d1) k = ndC ad st (sd d2) k := rfl
theorem fr_8 {c1 : Nat → va_E} (h : fr tt 5 3 N ct c1) : fr8 tt N ct c1 := fun q a b => h q (by omega) (by omega) b
/-- the accepted statement goes on, the stack stands -/
theorem Cw_step {d1 : Nat → Nat → Nat} {s1 f1 : Nat → Nat} {rw1 : Nat → Option Nat} {c1 : Nat → va_E} (h : Cw ca n ad tt bb ee N dd sc sk rw fk ln st sb se M ct) (hd : dS ca ad tt bb ee N d1 s1 sk rw1 f1 ln c1) (hf : fr8 tt N ct c1) : Cw ca n ad tt bb ee N d1 s1 sk rw1 f1 ln st sb se M c1 := by
  obtain ⟨h1, h2, h3, h4, h5, h6, h7, h8⟩ := h
  refine ⟨h1, h2, hd, h4, h5, ?_, h7, h8⟩
  obtain ⟨d0, d1', d2, d6, d7, dT, dl, d8⟩ := hd
  refine ⟨dT.1, dT.2.1, dT.2.2.1, fun k hk => ?_⟩
  obtain ⟨x, y⟩ := h6.2.2.2 k hk
  obtain ⟨z1, z2⟩ := h7 k hk
  refine ⟨(hf _ z1 (fun i hi => h8 k i hk hi)).trans (x.trans (sd_nd _ _ _ _ _)), fun h0 => ?_⟩
  obtain ⟨y1, y2⟩ := y h0
  obtain ⟨w1, w2⟩ := z2 h0
  have ne : ∀ q, (∃ np f, ct q = .inl (ca 0, np, .inl (zf f))) → ∀ i, i < N → q ≠ tt 3 i := fun q hq i hi e => by
    obtain ⟨np, f, hq⟩ := hq
    rw [e, (h3.2.2.2.2.2.1.2.2.2 i hi).1] at hq
    obtain ⟨o, ho⟩ := ndC_obj ad tt dd i
    rw [ho] at hq; cases hq
  exact ⟨(hf _ w1 (ne _ ⟨_, _, y1⟩)).trans y1, (hf _ w2 (ne _ ⟨_, _, y2⟩)).trans y2⟩
end CA
