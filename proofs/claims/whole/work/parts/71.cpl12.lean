/-! leaf, equal, join; the fresh desk and the fresh model -/
section CZ4
variable {tt bb ee dd ar st sb se a1 : Nat → Nat → Nat} {N M : Nat} {sc s1 fk ln lo slo : Nat → Nat} {sk sk1 rw : Nat → Option Nat} {ca : Nat → ClassId} {n n1 : Nat} {ad ad1 : Nat → Nat} {ct c1 : Nat → va_E} {r r2 : Int32}
theorem cX_mpush (hX : cX tt bb ee dd N sc fk ln lo ar) (b y d w v : Nat) : cX tt bb ee dd N (va_up sc 0 v) fk ln lo (mpush ar 0 b y d w) := by
  refine cX_sc (cX_ag hX (fun j x z => ?_) (fun i x z => ?_)) (va_up_ne _ _ (by decide)) (va_up_ne _ _ (by decide)) (va_up_ne _ _ (by decide))
  · unfold mpush
    rw [zs_row _ _ _ (by omega), zs_row _ _ _ (by omega), zs_row _ _ _ (by omega), zs_row _ _ _ (by omega), zs_row _ _ _ (by omega), zs_row _ _ _ (by omega), zs_row _ _ _ (by omega)]
  · unfold mpush
    rw [zs_nj _ _ _ _ (by decide), zs_ni _ _ _ _ (by omega), zs_nj _ _ _ _ (by decide), zs_nj _ _ _ _ (by decide), zs_nj _ _ _ _ (by decide), zs_nj _ _ _ _ (by decide), zs_nj _ _ _ _ (by decide)]
theorem E_push (hC : Cw ca n ad tt bb ee N dd sc sk rw fk ln st sb se M ct) (hX : cX tt bb ee dd N sc fk ln lo ar) (hS : sM st sb se M slo (sc 0) sk ad ar) (h6 : sc 0 < 6) {b y d w np : Nat} {fb fe : Nat → Nat} (hb : 0 < b ∧ b < 10007) (hy : y < 10007 ∧ y ^ 5003 % 10007 = 1) (f0 : fb 0 = b) (f1 : fe 0 = y) (hp : (np = 1 ∧ d = 0 ∧ w = 0) ∨ (np = 2 ∧ 0 < d ∧ d < 10007 ∧ w < 10007 ∧ fb 1 = d ∧ fe 1 = w ∧ w ^ 5003 % 10007 = 1)) (hag : ∀ j, j < n → ad1 j = ad j) (e0 : c1 0 = dkC ad1 (trV ad tt N) (va_up sc 0 (sc 0 + 1))) (e1 : c1 1 = skC ca (va_up sk (sc 0) (some (ad1 n)))) (e2 : c1 n = .inr (4, [.int (nI 1), .ref (ad1 (n + 1)), .ref (ad1 (n + 2)), .int 0, .int 0, .int 0, .int 0])) (e3 : c1 (n + 1) = .inl (ca 0, np, .inl (zf fb))) (e4 : c1 (n + 2) = .inl (ca 0, np, .inl (zf fe))) (hc : ∀ q, q < n → 2 ≤ q → c1 q = ct q) : Cp ca (n + 3) ad1 c1 (mpush ar 0 b y d w) := by
  have hst : ∀ k, k < M → st 3 k < n := fun k hk => (hC.2.2.2.2.1.2.2.2.2 k hk).1
  have htt : ∀ k, k < N → tt 3 k < n := fun k hk => (hC.2.1.2.2.2.2 k hk).1
  have h8 : 8 ≤ n := hC.1
  have hs := sM_push hS h6 hst hag hb hy f0 f1 hp (n + 1) (n + 2)
  have hw := Cw_grow (n1 := n + 3) (ad1 := ad1) (c1 := c1) hC (by omega) hag (Nat.le_refl M) e0 e1 hc (va_up_ne _ _ (by decide))
  have z0 : zs (zs (zs (zs (zs st 0 M 0) 3 M n) 4 M (n + 1)) 5 M (n + 2)) 6 M np 0 M = 0 := by rw [zs_nj _ _ _ _ (by decide), zs_nj _ _ _ _ (by decide), zs_nj _ _ _ _ (by decide), zs_nj _ _ _ _ (by decide), zs_eq]
  have z3 : zs (zs (zs (zs (zs st 0 M 0) 3 M n) 4 M (n + 1)) 5 M (n + 2)) 6 M np 3 M = n := by rw [zs_nj _ _ _ _ (by decide), zs_nj _ _ _ _ (by decide), zs_nj _ _ _ _ (by decide), zs_eq]
  have z4 : zs (zs (zs (zs (zs st 0 M 0) 3 M n) 4 M (n + 1)) 5 M (n + 2)) 6 M np 4 M = n + 1 := by rw [zs_nj _ _ _ _ (by decide), zs_nj _ _ _ _ (by decide), zs_eq]
  have z5 : zs (zs (zs (zs (zs st 0 M 0) 3 M n) 4 M (n + 1)) 5 M (n + 2)) 6 M np 5 M = n + 2 := by rw [zs_nj _ _ _ _ (by decide), zs_eq]
  have z6 : zs (zs (zs (zs (zs st 0 M 0) 3 M n) 4 M (n + 1)) 5 M (n + 2)) 6 M np 6 M = np := zs_eq _ _ _ _
  have hzz : ∀ j k, k < M → zs (zs (zs (zs (zs st 0 M 0) 3 M n) 4 M (n + 1)) 5 M (n + 2)) 6 M np j k = st j k := fun j k hk => by rw [zs_ni _ _ _ _ (by omega), zs_ni _ _ _ _ (by omega), zs_ni _ _ _ _ (by omega), zs_ni _ _ _ _ (by omega), zs_ni _ _ _ _ (by omega)]
  generalize zs (zs (zs (zs (zs st 0 M 0) 3 M n) 4 M (n + 1)) 5 M (n + 2)) 6 M np = t1 at *
  have hw2 : Cw ca (n + 3) ad1 tt bb ee N dd (va_up sc 0 (sc 0 + 1)) (va_up sk (sc 0) (some (ad1 n))) rw fk ln t1 (va_up sb M fb) (va_up se M fe) (M + 1) c1 := by
    refine Cw_node hw hzz (fun k hk => va_up_ne _ _ (by omega)) (fun k hk => va_up_ne _ _ (by omega)) z3 h8 (by omega) htt hst (by rw [z0]; decide) (fun q => absurd z0 q) (fun _ => ?_) ?_
    · rw [z4, z5, z6, va_up_self, va_up_self]
      refine ⟨⟨by omega, by omega⟩, ⟨by omega, by omega⟩, hp.elim (fun q => Or.inl q.1) (fun q => Or.inr q.1), fun i hi => ?_, fun i hi => ?_, e3, e4⟩
      · rcases hp with ⟨q, -, -⟩ | ⟨q, -, q1, q2, q3, q4, -⟩
        · rw [show i = 0 by omega, f0]; exact hb.2
        · rcases (show i = 0 ∨ i = 1 by omega) with rfl | rfl
          · rw [f0]; exact hb.2
          · rw [q3]; exact q1
      · rcases hp with ⟨q, -, -⟩ | ⟨q, -, q1, q2, q3, q4, -⟩
        · rw [show i = 0 by omega, f1]; exact hy.1
        · rcases (show i = 0 ∨ i = 1 by omega) with rfl | rfl
          · rw [f1]; exact hy.1
          · rw [q4]; exact q2
    · rw [e2, ndC_0 z0, z4, z5]
      rfl
  refine Cp_mk hw2 (cX_mpush hX b y d w _) (slo := va_up slo M M) ?_
  rw [va_up_self]
  exact hs
theorem bs_rg {b : Nat} (h : bs b = true) : 0 < b ∧ b < 10007 := by
  unfold bs el at h
  simp only [Bool.and_eq_true, decide_eq_true_eq] at h
  exact ⟨h.2.1, h.2.2.1⟩
theorem el_rg {b : Nat} (h : el b = true) : b < 10007 ∧ b ^ 5003 % 10007 = 1 := by
  unfold el at h
  simp only [Bool.and_eq_true, decide_eq_true_eq] at h
  exact h.2
theorem E_leaf (hC : Cw ca n ad tt bb ee N dd sc sk rw fk ln st sb se M ct) (hX : cX tt bb ee dd N sc fk ln lo ar) (hS : sM st sb se M slo (sc 0) sk ad ar) {b y sz : Nat} {u : dU} (hd : ((!decide (6 ≤ sc 0) && (bs b && el y)) = false ∧ r = 0 ∧ u = (n, ad, ct)) ∨ ((!decide (6 ≤ sc 0) && (bs b && el y)) = true ∧ r = 1 ∧ u.1 = n + 3 ∧ (∀ j, j < n → u.2.1 j = ad j) ∧ zD (nA n ad sz) (n + 3) u.2.1 ∧ u.2.2 0 = dkC u.2.1 (trV ad tt N) (va_up sc 0 (sc 0 + 1)) ∧ u.2.2 1 = skC ca (va_up sk (sc 0) (some (u.2.1 n))) ∧ u.2.2 n = .inr (4, [.int (nI 1), .ref (u.2.1 (n + 1)), .ref (u.2.1 (n + 2)), .int 0, .int 0, .int 0, .int 0]) ∧ u.2.2 (n + 1) = .inl (ca 0, 1, .inl (zf (va_up (fun _ => 0) 0 b))) ∧ u.2.2 (n + 2) = .inl (ca 0, 1, .inl (zf (va_up (fun _ => 0) 0 y))) ∧ ∀ q, q < n → 2 ≤ q → u.2.2 q = ct q)) (hm : r2 = zb (bs b && (el y && !decide (ar 0 0 = 6))) ∧ a1 = if bs b && (el y && !decide (ar 0 0 = 6)) then mpush ar 0 b y 0 0 else ar) : r = r2 ∧ Cp ca u.1 u.2.1 u.2.2 a1 := by
  have h6 := hS.2.1
  have he : (bs b && (el y && !decide (ar 0 0 = 6))) = (!decide (6 ≤ sc 0) && (bs b && el y)) := by
    rw [← hS.1]
    have : decide (sc 0 = 6) = decide (6 ≤ sc 0) := by by_cases q : sc 0 = 6 <;> simp [q] <;> omega
    rw [this]
    cases bs b <;> cases el y <;> cases decide (6 ≤ sc 0) <;> rfl
  rw [he] at hm
  rcases hd with ⟨p, rfl, rfl⟩ | ⟨p, rfl, u1, u2, u3, u4, u5, u6, u7, u8, u9⟩
  · rw [p] at hm
    exact ⟨hm.1.symm, by rw [hm.2]; exact Cp_mk hC hX hS⟩
  · rw [p] at hm
    refine ⟨hm.1.symm, ?_⟩
    rw [hm.2, if_pos rfl, u1]
    simp only [Bool.and_eq_true, Bool.not_eq_true', decide_eq_false_iff_not] at p
    exact E_push hC hX hS (by omega) (bs_rg p.2.1) (el_rg p.2.2) (va_up_self _ _ _) (va_up_self _ _ _) (Or.inl ⟨rfl, rfl, rfl⟩) u2 u4 u5 u6 u7 u8 u9
theorem E_equal (hC : Cw ca n ad tt bb ee N dd sc sk rw fk ln st sb se M ct) (hX : cX tt bb ee dd N sc fk ln lo ar) (hS : sM st sb se M slo (sc 0) sk ad ar) {b y d w sz : Nat} {u : dU} (hd : ((!decide (6 ≤ sc 0) && ((bs b && el y) && (bs d && el w))) = false ∧ r = 0 ∧ u = (n, ad, ct)) ∨ ((!decide (6 ≤ sc 0) && ((bs b && el y) && (bs d && el w))) = true ∧ r = 1 ∧ u.1 = n + 3 ∧ (∀ j, j < n → u.2.1 j = ad j) ∧ zD (nA n ad sz) (n + 3) u.2.1 ∧ u.2.2 0 = dkC u.2.1 (trV ad tt N) (va_up sc 0 (sc 0 + 1)) ∧ u.2.2 1 = skC ca (va_up sk (sc 0) (some (u.2.1 n))) ∧ u.2.2 n = .inr (4, [.int (nI 1), .ref (u.2.1 (n + 1)), .ref (u.2.1 (n + 2)), .int 0, .int 0, .int 0, .int 0]) ∧ u.2.2 (n + 1) = .inl (ca 0, 2, .inl (zf (va_up (va_up (fun _ => 0) 0 b) 1 d))) ∧ u.2.2 (n + 2) = .inl (ca 0, 2, .inl (zf (va_up (va_up (fun _ => 0) 0 y) 1 w))) ∧ ∀ q, q < n → 2 ≤ q → u.2.2 q = ct q)) (hm : r2 = zb (bs b && (el y && (bs d && (el w && !decide (ar 0 0 = 6))))) ∧ a1 = if bs b && (el y && (bs d && (el w && !decide (ar 0 0 = 6)))) then mpush ar 0 b y d w else ar) : r = r2 ∧ Cp ca u.1 u.2.1 u.2.2 a1 := by
  have h6 := hS.2.1
  have he : (bs b && (el y && (bs d && (el w && !decide (ar 0 0 = 6))))) = (!decide (6 ≤ sc 0) && ((bs b && el y) && (bs d && el w))) := by
    rw [← hS.1]
    have : decide (sc 0 = 6) = decide (6 ≤ sc 0) := by by_cases q : sc 0 = 6 <;> simp [q] <;> omega
    rw [this]
    cases bs b <;> cases el y <;> cases bs d <;> cases el w <;> cases decide (6 ≤ sc 0) <;> rfl
  rw [he] at hm
  rcases hd with ⟨p, rfl, rfl⟩ | ⟨p, rfl, u1, u2, u3, u4, u5, u6, u7, u8, u9⟩
  · rw [p] at hm
    exact ⟨hm.1.symm, by rw [hm.2]; exact Cp_mk hC hX hS⟩
  · rw [p] at hm
    refine ⟨hm.1.symm, ?_⟩
    rw [hm.2, if_pos rfl, u1]
    simp only [Bool.and_eq_true, Bool.not_eq_true', decide_eq_false_iff_not] at p
    have f0 : ∀ x z : Nat, va_up (va_up (fun _ => 0) 0 x) 1 z 0 = x := fun x z => by rw [va_up_ne _ _ (by decide), va_up_self]
    exact E_push hC hX hS (by omega) (bs_rg p.2.1.1) (el_rg p.2.1.2) (f0 _ _) (f0 _ _) (Or.inr ⟨rfl, (bs_rg p.2.2.1).1, (bs_rg p.2.2.1).2, (el_rg p.2.2.2).1, va_up_self _ _ _, va_up_self _ _ _, (el_rg p.2.2.2).2⟩) u2 u4 u5 u6 u7 u8 u9
/-- the two on top: what join's contract asks -/
theorem sM_top (hC : Cw ca n ad tt bb ee N dd sc sk rw fk ln st sb se M ct) (hS : sM st sb se M slo (sc 0) sk ad ar) (h2 : 2 ≤ sc 0) : sk (sc 0 - 2) = some (ad (st 3 (ar 6 (sc 0 - 1) - 1))) ∧ sk (sc 0 - 1) = some (ad (st 3 (M - 1))) ∧ (ar 6 (sc 0 - 1) - 1 < M ∧ 8 ≤ st 3 (ar 6 (sc 0 - 1) - 1) ∧ st 3 (ar 6 (sc 0 - 1) - 1) < n) ∧ (M - 1 < M ∧ 8 ≤ st 3 (M - 1) ∧ st 3 (M - 1) < n) ∧ st 0 (ar 6 (sc 0 - 1) - 1) ≤ 2 ∧ st 0 (M - 1) ≤ 2 ∧ ct (st 3 (ar 6 (sc 0 - 1) - 1)) = ndC ad st (sd dd) (ar 6 (sc 0 - 1) - 1) ∧ ct (st 3 (M - 1)) = ndC ad st (sd dd) (M - 1) ∧ szN st (ar 6 (sc 0 - 1) - 1) ≤ 8 ∧ szN st (M - 1) ≤ 8 := by
  have z1 := sM_sz hS (k := ar 6 (sc 0 - 1) - 1)
  have z2 := sM_sz hS (k := M - 1)
  obtain ⟨e, h6, hM, hz, hx, hkd, hO, hs, hk⟩ := hS
  obtain ⟨p1, p2, p3, p4⟩ := hs (sc 0 - 1) (by omega)
  obtain ⟨q1, q2, q3, q4⟩ := hs (sc 0 - 2) (by omega)
  rw [show sc 0 - 1 + 1 = sc 0 by omega, hM] at p1 p2 p3 p4
  rw [show sc 0 - 2 + 1 = sc 0 - 1 by omega] at q1 q2 q3 q4
  have z1 := z1 (by omega)
  have z2 := z2 (by omega)
  rw [q2, show ar 6 (sc 0 - 1) - 1 + 1 = ar 6 (sc 0 - 1) by omega] at z1
  rw [p2, show M - 1 + 1 = M by omega] at z2
  obtain ⟨g1, g2, g3, g4, g5, g6, g7, g8⟩ := hC
  have a1 := g5.2.2.2.2 (ar 6 (sc 0 - 1) - 1) (by omega)
  have a2 := g5.2.2.2.2 (M - 1) (by omega)
  exact ⟨q4, p4, ⟨by omega, (g7 _ (by omega)).1, a1.1⟩, ⟨by omega, (g7 _ (by omega)).1, a2.1⟩, a1.2.1, a2.2.1, (g6.2.2.2 _ (by omega)).1, (g6.2.2.2 _ (by omega)).1, by omega, by omega⟩
theorem sM_jn (hS : sM st sb se M slo (sc 0) sk ad ar) : jnB ar = (decide (2 ≤ sc 0) && decide (szN st (ar 6 (sc 0 - 1) - 1) + szN st (M - 1) ≤ 8)) := by
  unfold jnB
  rw [← hS.1]
  by_cases h2 : 2 ≤ sc 0
  · rw [decide_eq_true h2, Bool.true_and, Bool.true_and]
    have z1 := sM_sz hS (k := ar 6 (sc 0 - 1) - 1)
    have z2 := sM_sz hS (k := M - 1)
    obtain ⟨e, h6, hM, hz, hx, hkd, hO, hs, hk⟩ := hS
    obtain ⟨p1, p2, p3, p4⟩ := hs (sc 0 - 1) (by omega)
    obtain ⟨q1, q2, q3, q4⟩ := hs (sc 0 - 2) (by omega)
    rw [show sc 0 - 1 + 1 = sc 0 by omega, hM] at p1 p2 p3 p4
    rw [show sc 0 - 2 + 1 = sc 0 - 1 by omega] at q1 q2 q3 q4
    have z1 := z1 (by omega)
    have z2 := z2 (by omega)
    rw [q2, show ar 6 (sc 0 - 1) - 1 + 1 = ar 6 (sc 0 - 1) by omega] at z1
    rw [p2, show M - 1 + 1 = M by omega] at z2
    rw [hM]
    congr 1
    exact propext ⟨fun h => by omega, fun h => by omega⟩
  · rw [decide_eq_false h2, Bool.false_and, Bool.false_and]
theorem E_join (hC : Cw ca n ad tt bb ee N dd sc sk rw fk ln st sb se M ct) (hX : cX tt bb ee dd N sc fk ln lo ar) (hS : sM st sb se M slo (sc 0) sk ad ar) {sz : Nat} {u : dU} {all : Bool} (hd : ((decide (2 ≤ sc 0) && decide (szN st (ar 6 (sc 0 - 1) - 1) + szN st (M - 1) ≤ 8)) = false ∧ r = 0 ∧ u = (n, ad, ct)) ∨ ((decide (2 ≤ sc 0) && decide (szN st (ar 6 (sc 0 - 1) - 1) + szN st (M - 1) ≤ 8)) = true ∧ r = 1 ∧ u.1 = n + 1 ∧ (∀ j, j < n → u.2.1 j = ad j) ∧ zD (nA n ad sz) (n + 1) u.2.1 ∧ u.2.2 0 = dkC u.2.1 (trV ad tt N) (va_up sc 0 (sc 0 - 1 - 1 + 1)) ∧ u.2.2 1 = skC ca (va_up (va_up (va_up sk (sc 0 - 1) none) (sc 0 - 1 - 1) none) (sc 0 - 1 - 1) (some (u.2.1 n))) ∧ u.2.2 n = (if all then .inr (2, [.ref (u.2.1 (st 3 (ar 6 (sc 0 - 1) - 1))), .ref (u.2.1 (st 3 (M - 1))), .int (nI (szN st (ar 6 (sc 0 - 1) - 1) + szN st (M - 1)))]) else .inr (3, [.ref (u.2.1 (st 3 (ar 6 (sc 0 - 1) - 1))), .ref (u.2.1 (st 3 (M - 1))), .int (nI (szN st (ar 6 (sc 0 - 1) - 1) + szN st (M - 1))), .int 0, .int 0])) ∧ ∀ q, q < n → 2 ≤ q → u.2.2 q = ct q)) (hm : r2 = zb (jnB ar) ∧ a1 = if jnB ar then jn ar all else ar) : r = r2 ∧ Cp ca u.1 u.2.1 u.2.2 a1 := by
  have hB := sM_jn hS
  rcases hd with ⟨p, rfl, rfl⟩ | ⟨p, rfl, u1, u2, u3, u4, u5, u6, u7⟩
  · rw [hB, p] at hm
    exact ⟨hm.1.symm, by rw [hm.2]; exact Cp_mk hC hX hS⟩
  · have hj : jnB ar = true := hB.trans p
    rw [hj] at hm
    refine ⟨hm.1.symm, ?_⟩
    rw [hm.2, if_pos rfl, u1]
    unfold jnB at hj
    rw [← hS.1, hS.2.2.1] at hj
    simp only [Bool.and_eq_true, decide_eq_true_eq] at hj
    obtain ⟨j2, j8⟩ := hj
    have hst : ∀ k, k < M → st 3 k < n := fun k hk => (hC.2.2.2.2.1.2.2.2.2 k hk).1
    have htt : ∀ k, k < N → tt 3 k < n := fun k hk => (hC.2.1.2.2.2.2 k hk).1
    have h8 : 8 ≤ n := hC.1
    have e11 : sc 0 - 1 - 1 = sc 0 - 2 := by omega
    rw [e11] at u5
    have hs := sM_join hS j2 j8 hst u2 all (sk1 := va_up (va_up (va_up sk (sc 0 - 1) none) (sc 0 - 2) none) (sc 0 - 2) (some (u.2.1 n))) (fun i hi => by rw [va_up_ne _ _ (by omega), va_up_ne _ _ (by omega), va_up_ne _ _ (by omega)]) (va_up_self _ _ _)
    have hw := Cw_grow (n1 := n + 1) (ad1 := u.2.1) (c1 := u.2.2) hC (by omega) u2 (Nat.le_refl M) u4 u5 u7 (va_up_ne _ _ (by decide))
    have ht := sM_top hC hS j2
    obtain ⟨-, -, ⟨l1, -, -⟩, ⟨l2, -, -⟩, -⟩ := ht
    generalize hsz : szN st (ar 6 (sc 0 - 1) - 1) + szN st (M - 1) = zz at *
    generalize ar 6 (sc 0 - 1) - 1 = kl at *
    generalize hkr : M - 1 = kr at *
    have z0 : zs (zs (zs (zs (zs st 0 M (if all then 1 else 2)) 1 M kl) 2 M kr) 3 M n) 7 M zz 0 M = (if all then 1 else 2) := by rw [zs_nj _ _ _ _ (by decide), zs_nj _ _ _ _ (by decide), zs_nj _ _ _ _ (by decide), zs_nj _ _ _ _ (by decide), zs_eq]
    have z1 : zs (zs (zs (zs (zs st 0 M (if all then 1 else 2)) 1 M kl) 2 M kr) 3 M n) 7 M zz 1 M = kl := by rw [zs_nj _ _ _ _ (by decide), zs_nj _ _ _ _ (by decide), zs_nj _ _ _ _ (by decide), zs_eq]
    have z2 : zs (zs (zs (zs (zs st 0 M (if all then 1 else 2)) 1 M kl) 2 M kr) 3 M n) 7 M zz 2 M = kr := by rw [zs_nj _ _ _ _ (by decide), zs_nj _ _ _ _ (by decide), zs_eq]
    have z3 : zs (zs (zs (zs (zs st 0 M (if all then 1 else 2)) 1 M kl) 2 M kr) 3 M n) 7 M zz 3 M = n := by rw [zs_nj _ _ _ _ (by decide), zs_eq]
    have z7 : zs (zs (zs (zs (zs st 0 M (if all then 1 else 2)) 1 M kl) 2 M kr) 3 M n) 7 M zz 7 M = zz := zs_eq _ _ _ _
    have hzz : ∀ j k, k < M → zs (zs (zs (zs (zs st 0 M (if all then 1 else 2)) 1 M kl) 2 M kr) 3 M n) 7 M zz j k = st j k := fun j k hk => by rw [zs_ni _ _ _ _ (by omega), zs_ni _ _ _ _ (by omega), zs_ni _ _ _ _ (by omega), zs_ni _ _ _ _ (by omega), zs_ni _ _ _ _ (by omega)]
    generalize zs (zs (zs (zs (zs st 0 M (if all then 1 else 2)) 1 M kl) 2 M kr) 3 M n) 7 M zz = t1 at *
    have hv : t1 0 M ≠ 0 := by rw [z0]; cases all <;> decide
    have hw2 : Cw ca (n + 1) u.2.1 tt bb ee N dd (va_up sc 0 (sc 0 - 1 - 1 + 1)) (va_up (va_up (va_up sk (sc 0 - 1) none) (sc 0 - 2) none) (sc 0 - 2) (some (u.2.1 n))) rw fk ln t1 sb se (M + 1) u.2.2 := by
      refine Cw_node hw hzz (fun k hk => rfl) (fun k hk => rfl) z3 h8 (by omega) htt hst (by rw [z0]; cases all <;> decide) (fun _ => by rw [z1, z2]; exact ⟨l1, l2⟩) (fun q => absurd q hv) ?_
      rw [u6]
      unfold ndC
      rw [z0, z1, z2, z7, hzz 3 _ l1, hzz 3 _ l2]
      cases all <;> rfl
    refine Cp_mk hw2 (slo := va_up slo M (ar 6 (sc 0 - 2))) (lo := lo) ?_ ?_
    · refine cX_sc (cX_ag hX (fun j x z => ?_) (fun i x z => ?_)) (va_up_ne _ _ (by decide)) (va_up_ne _ _ (by decide)) (va_up_ne _ _ (by decide))
      · unfold jn
        rw [zs_row _ _ _ (by omega), zs_row _ _ _ (by omega), zs_row _ _ _ (by omega)]
      · unfold jn
        rw [zs_nj _ _ _ _ (by decide), zs_ni _ _ _ _ (by omega), zs_nj _ _ _ _ (by decide)]
    · rw [va_up_self, show sc 0 - 1 - 1 + 1 = sc 0 - 1 by omega]
      exact hs
/-- the fresh desk against the fresh model -/
theorem Cp_0 {u : dU} (h0 : u.1 = 8) (e0 : u.2.2 0 = dkC u.2.1 .null (fun _ => 0)) (e1 : u.2.2 1 = skC ca (fun _ => none)) (e2 : u.2.2 2 = rwC ca (fun _ => none)) (e3 : u.2.2 3 = .inr (6, [.int 0])) (e4 : u.2.2 4 = .inr (5, [.ref (u.2.1 5)])) (e5 : u.2.2 5 = .inl (ca 0, 32, .inl (zf (fun _ => 0)))) (e6 : u.2.2 6 = .inr (5, [.ref (u.2.1 7)])) (e7 : u.2.2 7 = .inl (ca 0, 32, .inl (zf (fun _ => 0)))) : Cp ca u.1 u.2.1 u.2.2 (fun _ _ => 0) := by
  rw [h0]
  have nl : ∀ {k : Nat}, ¬ k < 0 := fun {k} => Nat.not_lt_zero k
  have hTS : tS 8 (fun _ _ => 0) (fun _ _ => 0) (fun _ _ => 0) 4 5 3 0 := ⟨by decide, by decide, by decide, fun i k hi => absurd hi nl, fun k hk => absurd hk nl⟩
  have hTW : tW ca u.2.1 (fun _ _ => 0) (fun _ _ => 0) (fun _ _ => 0) 4 5 3 0 (fun _ _ => 0) u.2.2 := ⟨e4, e5, e3, fun k hk => absurd hk nl⟩
  refine Cp_mk (tt := fun _ _ => 0) (bb := fun _ _ => 0) (ee := fun _ _ => 0) (N := 0) (dd := fun _ _ => 0) (sc := fun _ => 0) (sk := fun _ => none) (rw := fun _ => none) (fk := fun _ => 0) (ln := fun _ => 0) (lo := fun _ => 0) (st := fun _ _ => 0) (sb := fun _ _ => 0) (se := fun _ _ => 0) (M := 0) (slo := fun _ => 0) ?_ ?_ ?_
  · exact ⟨Nat.le_refl _, hTS, ⟨e0, e1, e2, e6, e7, hTW, fun i hi => absurd hi nl, Nat.zero_le _⟩, fun k hk => absurd hk nl, hTS, ⟨e4, e5, e3, fun k hk => absurd hk nl⟩, fun k hk => absurd hk nl, fun i k hi => absurd hi nl⟩
  · refine ⟨⟨rfl, Nat.zero_le _, rfl, Nat.zero_le _, fun k hk => absurd hk nl, fun k hk => absurd hk nl, fun i hi => absurd hi nl⟩, ⟨fun i hi => ⟨show 0 < 10007 by decide, show 0 < 10007 by decide⟩, fun i hi => absurd hi nl⟩, ⟨fun i hi => show 0 < 2 ^ 32 by decide, fun i hi => absurd hi nl⟩, fun i hi => ⟨rfl, rfl, rfl, rfl⟩, fun i hi => ⟨rfl, rfl, rfl, rfl⟩, fun q hq => ⟨show 0 < 10007 by decide, fun _ => show 0 < 5003 by decide⟩, fun q hq => ⟨show 0 < 10007 by decide, fun _ => show 0 < 5003 by decide⟩, ⟨rfl, show 0 < 2 by decide⟩, ⟨rfl, show 0 < 2 by decide⟩, fun h => absurd (show (0 : Nat) = 1 from h) (by decide)⟩
  · exact ⟨rfl, Nat.zero_le _, rfl, rfl, fun h => absurd (show (0 : Nat) = 6 from h) (by decide), fun i hi => show 0 < 3 by decide, fun k hk => absurd hk nl, fun i hi => absurd hi nl, fun k hk => absurd hk nl⟩
end CZ4
