/-! the stack's calls: discard, accept, leaf, equal, join -/
section CZ3
variable {tt bb ee dd ar st sb se a1 : Nat → Nat → Nat} {N M : Nat} {sc s1 fk ln lo slo : Nat → Nat} {sk sk1 rw : Nat → Option Nat} {ca : Nat → ClassId} {n n1 : Nat} {ad ad1 : Nat → Nat} {ct c1 : Nat → va_E} {r r2 : Int32}
theorem cX_sc (h : cX tt bb ee dd N sc fk ln lo ar) (h1 : s1 1 = sc 1) (h2 : s1 2 = sc 2) (h3 : s1 3 = sc 3) : cX tt bb ee dd N s1 fk ln lo ar := by
  unfold cX at *
  rw [h1, h2, h3]
  exact h
theorem tS_n {jt kt jd : Nat} (h : tS n tt bb ee jt kt jd N) (hn : n ≤ n1) : tS n1 tt bb ee jt kt jd N := by
  obtain ⟨a, b, c, d, e⟩ := h
  refine ⟨by omega, by omega, by omega, d, fun k hk => ?_⟩
  obtain ⟨e1, e2, e3, e4⟩ := e k hk
  refine ⟨by omega, e2, e3, fun h0 => ?_⟩
  obtain ⟨f1, f2, f3⟩ := e4 h0
  exact ⟨by omega, by omega, f3⟩
theorem tS_N {jt kt jd : Nat} (h : tS n tt bb ee jt kt jd N) {N1 : Nat} (hn : N1 ≤ N) : tS n tt bb ee jt kt jd N1 := ⟨h.1, h.2.1, h.2.2.1, fun i k a b => h.2.2.2.1 i k (by omega) (by omega), fun k hk => h.2.2.2.2 k (by omega)⟩
theorem tW_grow (hT : tS n tt bb ee 4 5 3 N) (h8 : 8 ≤ n) (hk8 : ∀ k, k < N → 8 ≤ tt 3 k) (hag : ∀ j, j < n → ad1 j = ad j) (hc : ∀ q, q < n → 2 ≤ q → c1 q = ct q) (h : tW ca ad tt bb ee 4 5 3 N dd ct) (hl : ∀ k, k < N → tt 0 k = 0 → 2 ≤ tt 4 k ∧ 2 ≤ tt 5 k) : tW ca ad1 tt bb ee 4 5 3 N dd c1 := by
  obtain ⟨a, b, c, d⟩ := h
  refine ⟨?_, ?_, ?_, fun k hk => ?_⟩
  · rw [hc 4 (by omega) (by decide), a, hag 5 (by omega)]
  · rw [hc 5 (by omega) (by decide), b]
  · rw [hc 3 (by omega) (by decide), c]
  · obtain ⟨t1, t2, t3, t4⟩ := hT.2.2.2.2 k hk
    have := hk8 k hk
    obtain ⟨d1, d2⟩ := d k hk
    rw [ndC_ag2 hT hk hag, hc _ t1 (by omega)]
    refine ⟨d1, fun h0 => ?_⟩
    obtain ⟨f1, f2, -⟩ := t4 h0
    obtain ⟨l1, l2⟩ := hl k hk h0
    rw [hc _ f1 l1, hc _ f2 l2]
    exact d2 h0
/-- a leaf's lists are no cell below 2: those hold the desk and the stack -/
theorem tW_l2 (hs0 : ∃ o, ct 0 = .inr o) (hs1 : ∃ x, ct 1 = .inl (ca 2, 6, .inr x)) (h : tW ca ad tt bb ee 4 5 3 N dd ct) : ∀ k, k < N → tt 0 k = 0 → 2 ≤ tt 4 k ∧ 2 ≤ tt 5 k := by
  intro k hk h0
  obtain ⟨o, e0⟩ := hs0
  obtain ⟨x, e1⟩ := hs1
  obtain ⟨d1, d2⟩ := (h.2.2.2 k hk).2 h0
  have key : ∀ q, (∃ np f, ct q = .inl (ca 0, np, .inl f)) → 2 ≤ q := fun q ⟨np, f, hq⟩ => by
    rcases (show q = 0 ∨ q = 1 ∨ 2 ≤ q by omega) with rfl | rfl | h
    · rw [e0] at hq; cases hq
    · rw [e1] at hq
      have := (Prod.mk.inj (Prod.mk.inj (Sum.inl.inj hq)).2).2
      cases this
    · exact h
  exact ⟨key _ ⟨_, _, d1⟩, key _ ⟨_, _, d2⟩⟩
theorem trV_ag (hT : tS n tt bb ee 4 5 3 N) (hag : ∀ j, j < n → ad1 j = ad j) : trV ad1 tt N = trV ad tt N := by
  unfold trV
  by_cases h : N = 0
  · rw [if_pos h, if_pos h]
  · rw [if_neg h, if_neg h, hag _ (hT.2.2.2.2 (N - 1) (by omega)).1]
/-- the desk and the stack's list change, cells are added, the stack may be cut -/
theorem Cw_grow {M1 : Nat} (h : Cw ca n ad tt bb ee N dd sc sk rw fk ln st sb se M ct) (hn : n ≤ n1) (hag : ∀ j, j < n → ad1 j = ad j) (hM : M1 ≤ M) (h0 : c1 0 = dkC ad1 (trV ad tt N) s1) (h1 : c1 1 = skC ca sk1) (hc : ∀ q, q < n → 2 ≤ q → c1 q = ct q) (hs : s1 1 = sc 1) : Cw ca n1 ad1 tt bb ee N dd s1 sk1 rw fk ln st sb se M1 c1 := by
  obtain ⟨g1, g2, g3, g4, g5, g6, g7, g8⟩ := h
  obtain ⟨d0, d1, d2, d6, d7, dT, dl, d8⟩ := g3
  refine ⟨by omega, tS_n g2 hn, ?_, g4, tS_N (tS_n g5 hn) hM, ?_, fun k hk => g7 k (by omega), fun i k hi hk => g8 i k (by omega) hk⟩
  · refine ⟨by rw [h0, trV_ag g2 hag], h1, ?_, ?_, ?_, tW_grow g2 g1 g4 hag hc dT (tW_l2 ⟨_, d0⟩ ⟨_, d1⟩ dT), fun i hi => ?_, by rw [hs]; exact d8⟩
    · rw [hc 2 (by omega) (by decide), d2]
    · rw [hc 6 (by omega) (by decide), d6, hag 7 (by omega)]
    · rw [hc 7 (by omega) (by decide), d7]
    · rw [hs] at hi
      obtain ⟨l1, l2, l3, l4⟩ := dl i hi
      rw [hag _ (g2.2.2.2.2 _ l1).1]
      exact ⟨l1, l2, l3, l4⟩
  · have t := tW_grow (c1 := c1) g5 g1 (fun k hk => (g7 k hk).1) hag hc g6 (fun k hk q => by have := (g7 k hk).2 q; omega)
    exact ⟨t.1, t.2.1, t.2.2.1, fun k hk => t.2.2.2 k (by omega)⟩
/-- a new node on the stack -/
theorem Cw_node {t1 b1 e1 : Nat → Nat → Nat} (h : Cw ca n ad tt bb ee N dd sc sk rw fk ln st sb se M ct) (ht : ∀ j k, k < M → t1 j k = st j k) (hb : ∀ k, k < M → b1 k = sb k) (he : ∀ k, k < M → e1 k = se k) {x : Nat} (hx : t1 3 M = x) (hx8 : 8 ≤ x) (hxn : x < n) (hxt : ∀ k, k < N → tt 3 k < x) (hxs : ∀ k, k < M → st 3 k < x) (hkd : t1 0 M ≤ 2) (hch : t1 0 M ≠ 0 → t1 1 M < M ∧ t1 2 M < M) (hlf : t1 0 M = 0 → (8 ≤ t1 4 M ∧ t1 4 M < n) ∧ (8 ≤ t1 5 M ∧ t1 5 M < n) ∧ (t1 6 M = 1 ∨ t1 6 M = 2) ∧ (∀ i, i < t1 6 M → b1 M i < 10007) ∧ (∀ i, i < t1 6 M → e1 M i < 10007) ∧ ct (t1 4 M) = .inl (ca 0, t1 6 M, .inl (zf (b1 M))) ∧ ct (t1 5 M) = .inl (ca 0, t1 6 M, .inl (zf (e1 M)))) (hcx : ct x = ndC ad t1 (sd dd) M) : Cw ca n ad tt bb ee N dd sc sk rw fk ln t1 b1 e1 (M + 1) ct := by
  obtain ⟨g1, g2, g3, g4, g5, g6, g7, g8⟩ := h
  obtain ⟨a, b, c, d, e⟩ := g5
  refine ⟨g1, g2, g3, g4, ⟨a, b, c, fun i k hi hk q => ?_, fun k hk => ?_⟩, ⟨g6.1, g6.2.1, g6.2.2.1, fun k hk => ?_⟩, fun k hk => ?_, fun i k hi hk q => ?_⟩
  · rcases (show i = M ∨ i < M by omega) with rfl | hi
    · rcases (show k = i ∨ k < i by omega) with rfl | hk
      · rfl
      · rw [hx, ht 3 k hk] at q
        have := hxs k hk; omega
    · rcases (show k = M ∨ k < M by omega) with rfl | hk
      · rw [hx, ht 3 i hi] at q
        have := hxs i hi; omega
      · rw [ht 3 i hi, ht 3 k hk] at q
        exact d i k hi hk q
  · rcases (show k = M ∨ k < M by omega) with rfl | hk
    · refine ⟨by omega, hkd, hch, fun h0 => ?_⟩
      obtain ⟨l1, l2, l3, l4, l5, -⟩ := hlf h0
      exact ⟨l1.2, l2.2, l3, l4, l5⟩
    · rw [ht 3 k hk, ht 0 k hk, ht 1 k hk, ht 2 k hk, ht 4 k hk, ht 5 k hk, ht 6 k hk, hb k hk, he k hk]
      exact e k hk
  · rcases (show k = M ∨ k < M by omega) with rfl | hk
    · refine ⟨by rw [hx]; exact hcx, fun h0 => ?_⟩
      obtain ⟨l1, l2, l3, l4, l5, l6⟩ := hlf h0
      exact l6
    · have : ndC ad t1 (sd dd) k = ndC ad st (sd dd) k := by
        unfold ndC
        rw [ht 0 k hk, ht 1 k hk, ht 2 k hk, ht 4 k hk, ht 5 k hk, ht 7 k hk]
        by_cases h0 : st 0 k = 0
        · rw [if_pos h0, if_pos h0]
        · obtain ⟨c1, c2⟩ := (e k hk).2.2.1 h0
          rw [ht 3 _ (by omega), ht 3 _ (by omega)]
      rw [ht 3 k hk, this, ht 0 k hk, ht 4 k hk, ht 5 k hk, ht 6 k hk, hb k hk, he k hk]
      exact g6.2.2.2 k hk
  · rcases (show k = M ∨ k < M by omega) with rfl | hk
    · rw [hx]
      refine ⟨hx8, fun h0 => ?_⟩
      obtain ⟨l1, l2, -⟩ := hlf h0
      exact ⟨l1.1, l2.1⟩
    · rw [ht 3 k hk, ht 0 k hk, ht 4 k hk, ht 5 k hk]
      exact g7 k hk
  · rcases (show i = M ∨ i < M by omega) with rfl | hi
    · rw [hx] at q
      have := hxt k hk; omega
    · rw [ht 3 i hi] at q
      exact g8 i k hi hk q
theorem E_discard (hC : Cw ca n ad tt bb ee N dd sc sk rw fk ln st sb se M ct) (hX : cX tt bb ee dd N sc fk ln lo ar) (hS : sM st sb se M slo (sc 0) sk ad ar) (hd : r = zb (decide (0 < sc 0)) ∧ c1 = if decide (0 < sc 0) then va_up (va_up ct 0 (.inr (0, [.ref (ad 1), .int (nI (sc 0 - 1)), trV ad tt N, .ref (ad 2), .int (nI (sc 1)), .ref (ad 3), .ref (ad 4), .ref (ad 6), .int (nI (sc 2)), .int (nI (sc 3))]))) 1 (skC ca (va_up sk (sc 0 - 1) none)) else ct) (hm : r2 = zb (decide (0 < ar 0 0)) ∧ a1 = if decide (0 < ar 0 0) then zs ar 0 0 (ar 0 0 - 1) else ar) : r = r2 ∧ Cp ca n ad c1 a1 := by
  rw [← hS.1] at hm
  obtain ⟨rfl, rfl⟩ := hd
  obtain ⟨rfl, rfl⟩ := hm
  refine ⟨rfl, ?_⟩
  by_cases h0 : 0 < sc 0
  · rw [decide_eq_true h0, if_pos rfl, if_pos rfl]
    have hle : ar 6 (sc 0 - 1) ≤ M := by
      have := sM_mono hS (sc 0) (Nat.le_refl _) (sc 0 - 1) (by omega)
      rw [hS.2.2.1] at this; exact this
    have hw : Cw ca n ad tt bb ee N dd (va_up sc 0 (sc 0 - 1)) (va_up sk (sc 0 - 1) none) rw fk ln st sb se (ar 6 (sc 0 - 1)) (va_up (va_up ct 0 (.inr (0, [.ref (ad 1), .int (nI (sc 0 - 1)), trV ad tt N, .ref (ad 2), .int (nI (sc 1)), .ref (ad 3), .ref (ad 4), .ref (ad 6), .int (nI (sc 2)), .int (nI (sc 3))]))) 1 (skC ca (va_up sk (sc 0 - 1) none))) := by
      refine Cw_grow hC (Nat.le_refl _) (fun j _ => rfl) hle ?_ (va_up_self _ _ _) (fun q _ hq => by rw [va_up_ne _ _ (by omega), va_up_ne _ _ (by omega)]) (va_up_ne _ _ (by decide))
      rw [va_up_ne _ _ (by decide), va_up_self]
      rfl
    refine Cp_mk hw (cX_sc (cX_ag hX (fun j a b => zs_row _ _ _ (by omega)) (fun i a b => zs_ni _ _ _ _ (by omega))) (va_up_ne _ _ (by decide)) (va_up_ne _ _ (by decide)) (va_up_ne _ _ (by decide))) (slo := slo) ?_
    rw [va_up_self]
    exact sM_drop hS h0
  · rw [decide_eq_false h0, if_neg (by decide), if_neg (by decide)]
    exact Cp_mk hC hX hS
theorem E_accept (hC : Cw ca n ad tt bb ee N dd sc sk rw fk ln st sb se M ct) (hX : cX tt bb ee dd N sc fk ln lo ar) (hS : sM st sb se M slo (sc 0) sk ad ar) {ln1 : Nat → Nat} (hln1 : ∀ i, i < cl (st 0) M → ln1 i < M ∧ st 0 (ln1 i) = 0 ∧ cl (st 0) (ln1 i) = i) (hd : (¬ sc 0 = 1 ∧ r = -1 ∧ c1 = ct) ∨ (sc 0 = 1 ∧ r = nI (cl (st 0) M) ∧ ∃ (d1 : Nat → Nat → Nat) (rw1 : Nat → Option Nat) (f1 : Nat → Nat), (∀ i, i < 32 → f1 i = 0) ∧ nlR slo st ad (M - 1) (sd dd) d1 rw rw1 ∧ dS ca ad st sb se M (va_up d1 6 f1) (fun i => if i = 1 then cl (st 0) M else 0) (va_up sk 0 none) rw1 fk ln1 c1 ∧ fr8 st M ct c1))
    (hm : (¬ ar 0 0 = 1 ∧ r2 = -1 ∧ a1 = ar) ∨ (ar 0 0 = 1 ∧ ∃ (a : Nat → Nat → Nat) (nn : Nat) (h h2 h3 h4 : Nat → Nat), accI ar a slo (ar 6 1) (ar 6 1) nn ∧ (∀ i, i < 16 → h i = 0) ∧ (∀ i, i < 8 → h2 i = 0) ∧ (∀ i, i < 8 → h3 i = 0) ∧ (∀ i, i < 8 → h4 i = 4294967295) ∧ a1 = zs (zs (zs (va_up (va_up (va_up (va_up a 14 h) 15 h2) 16 h3) 13 h4) 0 0 0) 0 3 0) 0 4 0 ∧ r2 = nI (a 0 2))) : r = r2 ∧ Cp ca n ad c1 a1 := by
  rw [← hS.1] at hm
  rcases hd with ⟨p1, rfl, rfl⟩ | ⟨p1, rfl, d1, rw1, f1, hf, hnl, hds, hfr⟩
  · rcases hm with ⟨q1, rfl, rfl⟩ | ⟨q1, -⟩
    · exact ⟨rfl, Cp_mk hC hX hS⟩
    · exact absurd q1 p1
  · rcases hm with ⟨q1, -⟩ | ⟨-, a, nn, h, h2, h3, h4, hA, q1, q2, q3, q4, rfl, rfl⟩
    · exact absurd p1 q1
    · rw [p1] at hS
      have hx := cX_acc hX hS hA q1 q2 q3 q4 hnl hf hln1
      have hM := hS.2.2.1
      have hcl := sM_cl hS (Nat.le_refl M)
      refine ⟨?_, ?_⟩
      · obtain ⟨-, -, -, g4, -⟩ := hA
        rw [g4, hM, hcl]
      · obtain ⟨g1, g2, g3, g4, g5, g6, g7, g8⟩ := hC
        have hw : Cw ca n ad st sb se M (va_up d1 6 f1) (fun i => if i = 1 then cl (st 0) M else 0) (va_up sk 0 none) rw1 fk ln1 st sb se 0 c1 := by
          obtain ⟨e1, e2, e3, e4⟩ := hds.2.2.2.2.2.1
          exact ⟨g1, g5, hds, fun k hk => (g7 k hk).1, tS_N g5 (Nat.zero_le _), ⟨e1, e2, e3, fun k hk => absurd hk (Nat.not_lt_zero _)⟩, fun k hk => absurd hk (Nat.not_lt_zero _), fun i k hi => absurd hi (Nat.not_lt_zero _)⟩
        refine Cp_mk hw hx (slo := slo) ?_
        refine sM_0 hS (fun j x y => ?_) ?_ _
        · rw [zs_row _ _ _ (by omega), zs_row _ _ _ (by omega), zs_row _ _ _ (by omega), va_up_ne _ _ (by omega), va_up_ne _ _ (by omega), va_up_ne _ _ (by omega), va_up_ne _ _ (by omega)]
          exact hA.1 j (by omega) (by omega) (by omega) (by omega) (by omega) (by omega) (by omega) (by omega)
        · rw [zs_ni _ _ _ _ (by decide), zs_ni _ _ _ _ (by decide), zs_eq]
end CZ3
