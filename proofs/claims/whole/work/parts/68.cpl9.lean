/-! call by call: the answers are the same, the coupling goes on -/
section CZ
variable {tt bb ee dd ar st sb se a1 : Nat → Nat → Nat} {N M : Nat} {sc fk ln lo slo : Nat → Nat} {sk rw : Nat → Option Nat} {ca : Nat → ClassId} {n : Nat} {ad : Nat → Nat} {ct c1 : Nat → va_E} {r r2 : Int32}
theorem Cp_mk (hC : Cw ca n ad tt bb ee N dd sc sk rw fk ln st sb se M ct) (hX : cX tt bb ee dd N sc fk ln lo ar) (hS : sM st sb se M slo (sc 0) sk ad ar) : Cp ca n ad ct ar := ⟨tt, bb, ee, N, dd, sc, sk, rw, fk, ln, lo, st, sb, se, M, slo, hC, hX, hS⟩
theorem Cp_up (hC : Cw ca n ad tt bb ee N dd sc sk rw fk ln st sb se M ct) (hX : cX tt bb ee dd N sc fk ln lo ar) (hS : sM st sb se M slo (sc 0) sk ad ar) {j : Nat} (hj : 23 ≤ j) (g : Nat → Nat) : Cp ca n ad ct (va_up ar j g) :=
  Cp_mk hC (cX_up hX hj g) (sM_ag hS (fun i a b => va_up_ne _ _ (by omega)) (by rw [va_up_ne _ _ (by omega)]))
theorem E_tell (hC : Cw ca n ad tt bb ee N dd sc sk rw fk ln st sb se M ct) (hX : cX tt bb ee dd N sc fk ln lo ar) (hS : sM st sb se M slo (sc 0) sk ad ar) {w x : Nat} (hd : r = zb (decide (w < sc 1) && (ex x && fitB (bb (ln w)) (ee (ln w)) (tt 6 (ln w)) x)) ∧ c1 = if decide (w < sc 1) && (ex x && fitB (bb (ln w)) (ee (ln w)) (tt 6 (ln w)) x) then va_up ct (tt 3 (ln w)) (.inr (4, [.int 1, .ref (ad (tt 4 (ln w))), .ref (ad (tt 5 (ln w))), .int (nI (dd 0 (ln w))), .int (nI 1), .int (nI x), .int (nI (dd 3 (ln w)))])) else ct) (hm : r2 = zb (tellB ar w x) ∧ a1 = if tellB ar w x then zs ar 13 w x else ar) : r = r2 ∧ Cp ca n ad c1 a1 := by
  obtain ⟨h1, h2, h3, h4, -⟩ := id hC
  obtain ⟨x1, x2, -⟩ := id hX
  obtain ⟨-, -, e2, -, -, -, hl⟩ := id x1
  have hb : (decide (w < sc 1) && (ex x && fitB (bb (ln w)) (ee (ln w)) (tt 6 (ln w)) x)) = tellB ar w x := by
    unfold tellB
    rw [e2]
    by_cases q : w < sc 1
    · rw [fit_eq x2 q]
    · rw [decide_eq_false q, Bool.false_and, Bool.false_and]
  rw [hb] at hd
  refine ⟨hd.1.trans hm.1.symm, ?_⟩
  rw [hd.2, hm.2]
  cases hq : tellB ar w x
  · exact Cp_mk hC hX hS
  · rw [← hb] at hq
    simp only [Bool.and_eq_true, decide_eq_true_eq] at hq
    obtain ⟨y1, y2, y3⟩ := hq
    obtain ⟨n1, n2, n3⟩ := hl w y1
    obtain ⟨t1, t2⟩ := tW_nd h2 h3.2.2.2.2.2.1 n1 (d1 := zs (zs dd 1 (ln w) 1) 2 (ln w) x) (fun j q hq => by rw [zs_at, if_neg (by omega), zs_at, if_neg (by omega)]) (e := .inr (4, [.int 1, .ref (ad (tt 4 (ln w))), .ref (ad (tt 5 (ln w))), .int (nI (dd 0 (ln w))), .int (nI 1), .int (nI x), .int (nI (dd 3 (ln w)))])) (by rw [ndC_0 n2]; simp [zs_at])
    exact Cp_mk (Cw_step hC (dS_of h4 h3 t1 t2 (by rw [zs_row _ _ _ (by decide), zs_row _ _ _ (by decide)])) (fr_8 t2)) (cX_tell hX y1 (ex_is y2)) (sM_ag hS (fun i a b => zs_row _ _ _ (by omega)) (zs_nj _ _ _ _ (by decide)))
theorem E_witness (hX : cX tt bb ee dd N sc fk ln lo ar) (w : Nat) : (if N = 0 then -2 else if w < sc 1 then (if dd 1 (ln w) = 1 then nI (dd 2 (ln w)) else -3) else -1 : Int32) = (if ar 0 1 = 0 then -2 else if w < ar 0 2 then (if ar 13 w < 2147483648 then nI (ar 13 w) else -3) else -1) := by
  obtain ⟨x1, x2, x3, -⟩ := id hX
  obtain ⟨e1, -, e2, -⟩ := id x1
  rw [e1, e2]
  by_cases h0 : N = 0
  · rw [if_pos h0, if_pos h0]
  · rw [if_neg h0, if_neg h0]
    by_cases q : w < sc 1
    · rw [if_pos q, if_pos q]
      rcases x3.2 w q with ⟨a, b, c⟩ | ⟨a, b⟩
      · rw [if_pos a, if_pos (by omega), b]
      · rw [if_neg (by omega), if_neg (by omega)]
    · rw [if_neg q, if_neg q]
theorem E_known (hC : Cw ca n ad tt bb ee N dd sc sk rw fk ln st sb se M ct) (hX : cX tt bb ee dd N sc fk ln lo ar) (hS : sM st sb se M slo (sc 0) sk ad ar) {K : Nat → Nat} (hK : ∀ k, k < N → K k = dK tt dd K k) (hm : ∃ h : Nat → Nat, kOK ar h (ar 0 1) ∧ (∀ k, k < ar 0 1 → h k < 2) ∧ a1 = va_up ar 27 h ∧ r2 = zb (decide (0 < ar 0 1) && decide (h (ar 0 1 - 1) = 1))) : zb (decide (0 < N) && decide (K (N - 1) = 1)) = r2 ∧ Cp ca n ad ct a1 := by
  obtain ⟨h, hk, -, rfl, rfl⟩ := hm
  obtain ⟨x1, x2, x3, -⟩ := id hX
  rw [x1.1] at hk ⊢
  refine ⟨?_, Cp_up hC hX hS (by decide) _⟩
  by_cases h0 : 0 < N
  · rw [K_un x1 x3 hK hk (N - 1) (by omega)]
  · rw [decide_eq_false h0, Bool.false_and, Bool.false_and]
theorem dS_cr (h4 : ∀ k, k < N → 8 ≤ tt 3 k) (h3 : dS ca ad tt bb ee N dd sc sk rw fk ln ct) (hN : 0 < N) {d1 : Nat → Nat → Nat} {c2 : Nat → va_E} (t1 : tW ca ad tt bb ee 4 5 3 N d1 c2) (t2 : fr tt 5 3 N ct c2) (h0 : d1 0 = dd 0) {v : Nat} {x : Int32} (hx : x = nI v) (hc : c1 = va_up c2 0 (.inr (0, [.ref (ad 1), .int (nI (sc 0)), .ref (ad (tt 3 (N - 1))), .ref (ad 2), .int (nI (sc 1)), .ref (ad 3), .ref (ad 4), .ref (ad 6), .int (nI (sc 2)), .int x]))) : dS ca ad tt bb ee N d1 (va_up sc 3 v) sk rw fk ln c1 ∧ fr8 tt N ct c1 := by
  have hds := dS_0 h4 (dS_of h4 h3 t1 t2 h0) (va_up sc 3 v) (va_up_ne _ _ (by decide))
  have hE : va_up c2 0 (dkC ad (trV ad tt N) (va_up sc 3 v)) = c1 := by rw [hc, trV_s (by omega), hx]; rfl
  rw [hE] at hds
  exact ⟨hds, fun q a b => by rw [hc, va_up_ne _ _ (by omega)]; exact t2 q (by omega) (by omega) b⟩
theorem E_commit (hC : Cw ca n ad tt bb ee N dd sc sk rw fk ln st sb se M ct) (hX : cX tt bb ee dd N sc fk ln lo ar) (hS : sM st sb se M slo (sc 0) sk ad ar) {K : Nat → Nat} (hK : ∀ k, k < N → K k = dK tt dd K k) (hK2 : ∀ k, k < N → K k < 2) {s0 : Nat} (hd : (N = 0 ∧ r = -2 ∧ c1 = ct) ∨ (0 < N ∧ ((¬ K (N - 1) = 1 ∧ r = -3 ∧ c1 = ct) ∨ (K (N - 1) = 1 ∧ r = 0 ∧ ∃ ct2, tW ca ad tt bb ee 4 5 3 N (dc tt bb ee K (N - 1) true 0 (zs dd 7 0 s0)) ct2 ∧ fr tt 5 3 N ct ct2 ∧ c1 = va_up ct2 0 (.inr (0, [.ref (ad 1), .int (nI (sc 0)), .ref (ad (tt 3 (N - 1))), .ref (ad 2), .int (nI (sc 1)), .ref (ad 3), .ref (ad 4), .ref (ad 6), .int (nI (sc 2)), .int 1]))))))
    (hm : (ar 0 1 = 0 ∧ r2 = -2 ∧ a1 = ar) ∨ (0 < ar 0 1 ∧ ∃ h : Nat → Nat, kOK ar h (ar 0 1) ∧ (∀ k, k < ar 0 1 → h k < 2) ∧ ((¬ h (ar 0 1 - 1) = 1 ∧ r2 = -3 ∧ a1 = va_up ar 27 h) ∨ (h (ar 0 1 - 1) = 1 ∧ r2 = 0 ∧ ∃ (h2 : Nat → Nat) (s9 : Nat → Nat → Nat), kOK ar h2 (ar 0 1) ∧ (∀ k, k < ar 0 1 → h2 k < 2) ∧ a1 = zs (mix (cm (ar 7) (ar 8) (ar 9) (ar 10) (ar 0 1 - 1) true 0 (va_up (zs ar 0 5 s0) 27 h2)) s9) 0 4 1)))) : r = r2 ∧ Cp ca n ad c1 a1 := by
  obtain ⟨x1, x2, x3, -⟩ := id hX
  obtain ⟨g1, g2, g3, g4, -⟩ := id hC
  rcases hd with ⟨p1, rfl, rfl⟩ | ⟨p1, hd⟩
  · rcases hm with ⟨q1, rfl, rfl⟩ | ⟨q1, -⟩
    · exact ⟨rfl, Cp_mk hC hX hS⟩
    · rw [x1.1] at q1; omega
  · rcases hm with ⟨q1, -⟩ | ⟨q1, h, hk, -, hm⟩
    · rw [x1.1] at q1; omega
    · have hu : h (ar 0 1 - 1) = K (N - 1) := by
        rw [x1.1] at hk ⊢
        exact K_un x1 x3 hK hk (N - 1) (by omega)
      rw [hu] at hm
      rcases hd with ⟨p2, rfl, rfl⟩ | ⟨p2, rfl, ct2, t1, t2, t3⟩
      · rcases hm with ⟨q2, rfl, rfl⟩ | ⟨q2, -⟩
        · exact ⟨rfl, Cp_up hC hX hS (by decide) _⟩
        · exact absurd q2 p2
      · rcases hm with ⟨q2, -⟩ | ⟨q2, rfl, h2, s9, k2, -, rfl⟩
        · exact absurd p2 q2
        · have hx := cX_cm hX p1 hK hK2 k2 true 0 s0 1 s9 (by decide) rfl (fun _ => p2)
          obtain ⟨u1, u2⟩ := dS_cr g4 g3 p1 t1 t2 ((dc_row1 _ _ _ _ (by decide)).trans (zs_row _ _ _ (by decide))) (v := 1) rfl t3
          refine ⟨rfl, Cp_mk (slo := slo) (Cw_step hC u1 u2) hx ?_⟩
          refine sM_ag hS (fun i a b => ?_) ?_
          · rw [zs_row _ _ _ (by omega)]
            funext j
            unfold mix
            rw [if_neg (by omega), cm_row (by unfold cRow; omega), va_up_ne _ _ (by omega), zs_row _ _ _ (by omega)]
          · rw [zs_ni _ _ _ _ (by decide)]
            unfold mix
            rw [if_neg (by decide), cm_0 (by decide), va_up_ne _ _ (by decide), zs_ni _ _ _ _ (by decide)]
theorem E_simulate (hC : Cw ca n ad tt bb ee N dd sc sk rw fk ln st sb se M ct) (hX : cX tt bb ee dd N sc fk ln lo ar) (hS : sM st sb se M slo (sc 0) sk ad ar) {K : Nat → Nat} (hK : ∀ k, k < N → K k = dK tt dd K k) (hK2 : ∀ k, k < N → K k < 2) {c9 s0 : Nat} (hd : (N = 0 ∧ r = -2 ∧ c1 = ct) ∨ (0 < N ∧ ((ex c9 = false ∧ r = -1 ∧ c1 = ct) ∨ (ex c9 = true ∧ r = 0 ∧ ∃ ct2, tW ca ad tt bb ee 4 5 3 N (dc tt bb ee K (N - 1) false c9 (zs dd 7 0 s0)) ct2 ∧ fr tt 5 3 N ct ct2 ∧ c1 = va_up ct2 0 (.inr (0, [.ref (ad 1), .int (nI (sc 0)), .ref (ad (tt 3 (N - 1))), .ref (ad 2), .int (nI (sc 1)), .ref (ad 3), .ref (ad 4), .ref (ad 6), .int (nI (sc 2)), .int 0]))))))
    (hm : (ar 0 1 = 0 ∧ r2 = -2 ∧ a1 = ar) ∨ (0 < ar 0 1 ∧ ((ex c9 = false ∧ r2 = -1 ∧ a1 = ar) ∨ (ex c9 = true ∧ r2 = 0 ∧ ∃ (h2 : Nat → Nat) (s9 : Nat → Nat → Nat), kOK ar h2 (ar 0 1) ∧ (∀ k, k < ar 0 1 → h2 k < 2) ∧ a1 = zs (mix (cm (ar 7) (ar 8) (ar 9) (ar 10) (ar 0 1 - 1) false c9 (va_up (zs ar 0 5 s0) 27 h2)) s9) 0 4 0)))) : r = r2 ∧ Cp ca n ad c1 a1 := by
  obtain ⟨x1, x2, x3, -⟩ := id hX
  obtain ⟨g1, g2, g3, g4, -⟩ := id hC
  rcases hd with ⟨p1, rfl, rfl⟩ | ⟨p1, hd⟩
  · rcases hm with ⟨q1, rfl, rfl⟩ | ⟨q1, -⟩
    · exact ⟨rfl, Cp_mk hC hX hS⟩
    · rw [x1.1] at q1; omega
  · rcases hm with ⟨q1, -⟩ | ⟨q1, hm⟩
    · rw [x1.1] at q1; omega
    · rcases hd with ⟨p2, rfl, rfl⟩ | ⟨p2, rfl, ct2, t1, t2, t3⟩
      · rcases hm with ⟨q2, rfl, rfl⟩ | ⟨q2, -⟩
        · exact ⟨rfl, Cp_mk hC hX hS⟩
        · rw [p2] at q2; exact absurd q2 (by decide)
      · rcases hm with ⟨q2, -⟩ | ⟨q2, rfl, h2, s9, k2, -, rfl⟩
        · rw [p2] at q2; exact absurd q2 (by decide)
        · have hx := cX_cm hX p1 hK hK2 k2 false c9 s0 0 s9 (ex_is p2) rfl (fun h => absurd h (by decide))
          obtain ⟨u1, u2⟩ := dS_cr g4 g3 p1 t1 t2 ((dc_row1 _ _ _ _ (by decide)).trans (zs_row _ _ _ (by decide))) (v := 0) rfl t3
          refine ⟨rfl, Cp_mk (slo := slo) (Cw_step hC u1 u2) hx ?_⟩
          refine sM_ag hS (fun i a b => ?_) ?_
          · rw [zs_row _ _ _ (by omega)]
            funext j
            unfold mix
            rw [if_neg (by omega), cm_row (by unfold cRow; omega), va_up_ne _ _ (by omega), zs_row _ _ _ (by omega)]
          · rw [zs_ni _ _ _ _ (by decide)]
            unfold mix
            rw [if_neg (by decide), cm_0 (by decide), va_up_ne _ _ (by decide), zs_ni _ _ _ _ (by decide)]
theorem sM_rq (hS : sM st sb se M slo (sc 0) sk ad ar) {s9 : Nat → Nat → Nat} {kd lf rt lv lr dn : Nat → Nat} {k c : Nat} : sM st sb se M slo (sc 0) sk ad (mix (rq false kd lf rt lv lr dn k c ar) s9) := by
  refine sM_ag hS (fun i a b => ?_) ?_
  · funext j
    unfold mix
    rw [if_neg (by omega), rq_row (by omega) (by omega)]
  · unfold mix
    rw [if_neg (by decide), rq_row (by decide) (by decide)]
theorem E_respond (hC : Cw ca n ad tt bb ee N dd sc sk rw fk ln st sb se M ct) (hX : cX tt bb ee dd N sc fk ln lo ar) (hS : sM st sb se M slo (sc 0) sk ad ar) {c9 : Nat} (hd : (N = 0 ∧ r = -2 ∧ c1 = ct) ∨ (0 < N ∧ ((ex c9 = false ∧ r = -1 ∧ c1 = ct) ∨ (ex c9 = true ∧ ((sc 3 = 0 ∧ r = -4 ∧ c1 = ct) ∨ (sc 3 = 1 ∧ r = 0 ∧ tW ca ad tt bb ee 4 5 3 N (dq tt (N - 1) c9 dd) c1 ∧ fr tt 5 3 N ct c1))))))
    (hm : (ar 0 1 = 0 ∧ r2 = -2 ∧ a1 = ar) ∨ (0 < ar 0 1 ∧ ((ex c9 = false ∧ r2 = -1 ∧ a1 = ar) ∨ (ex c9 = true ∧ ((ar 0 4 = 0 ∧ r2 = -4 ∧ a1 = ar) ∨ (ar 0 4 = 1 ∧ r2 = 0 ∧ ∃ s9 : Nat → Nat → Nat, a1 = mix (rq false (ar 7) (ar 8) (ar 9) (ar 10) (ar 21) (ar 22) (ar 0 1 - 1) c9 ar) s9)))))) : r = r2 ∧ Cp ca n ad c1 a1 := by
  obtain ⟨x1, x2, x3, x4, x5, x6, x7, x8, x9, x10⟩ := id hX
  obtain ⟨g1, g2, g3, g4, -⟩ := id hC
  rcases hd with ⟨p1, rfl, rfl⟩ | ⟨p1, hd⟩
  · rcases hm with ⟨q1, rfl, rfl⟩ | ⟨q1, -⟩
    · exact ⟨rfl, Cp_mk hC hX hS⟩
    · rw [x1.1] at q1; omega
  · rcases hm with ⟨q1, -⟩ | ⟨q1, hm⟩
    · rw [x1.1] at q1; omega
    · rcases hd with ⟨p2, rfl, rfl⟩ | ⟨p2, hd⟩
      · rcases hm with ⟨q2, rfl, rfl⟩ | ⟨q2, -⟩
        · exact ⟨rfl, Cp_mk hC hX hS⟩
        · rw [p2] at q2; exact absurd q2 (by decide)
      · rcases hm with ⟨q2, -⟩ | ⟨q2, hm⟩
        · rw [p2] at q2; exact absurd q2 (by decide)
        · rcases hd with ⟨p3, rfl, rfl⟩ | ⟨p3, rfl, t1, t2⟩
          · rcases hm with ⟨q3, rfl, rfl⟩ | ⟨q3, -⟩
            · exact ⟨rfl, Cp_mk hC hX hS⟩
            · omega
          · rcases hm with ⟨q3, -⟩ | ⟨q3, rfl, s9, rfl⟩
            · omega
            · exact ⟨rfl, Cp_mk (Cw_step hC (dS_of g4 g3 t1 t2 (dq_row (by decide) _ _ _)) (fr_8 t2)) (cX_rq hX p1 p3 c9 (ex_is p2) s9) (sM_rq hS)⟩
theorem hsv_eq (hX : cX tt bb ee dd N sc fk ln lo ar) : hsD tt bb ee dd ln (sc 1) % 2147483648 % 5003 = hsv ar := by
  obtain ⟨x1, x2, x3, x4, -⟩ := id hX
  unfold hsv
  rw [hs_eq x1 x2 x4 (sc 1) (Nat.le_refl _), x1.2.2.1]
theorem E_hash (hX : cX tt bb ee dd N sc fk ln lo ar) : (if N = 0 then -2 else nI (hsD tt bb ee dd ln (sc 1) % 2147483648 % 5003) : Int32) = (if ar 0 1 = 0 then -2 else nI (hsv ar)) := by
  rw [hsv_eq hX, hX.1.1]
theorem E_prove (hC : Cw ca n ad tt bb ee N dd sc sk rw fk ln st sb se M ct) (hX : cX tt bb ee dd N sc fk ln lo ar) (hS : sM st sb se M slo (sc 0) sk ad ar) {K : Nat → Nat} (hK : ∀ k, k < N → K k = dK tt dd K k) (hK2 : ∀ k, k < N → K k < 2) {s0 : Nat} (hd : (N = 0 ∧ r = -2 ∧ c1 = ct) ∨ (0 < N ∧ ((¬ K (N - 1) = 1 ∧ r = -3 ∧ c1 = ct) ∨ (K (N - 1) = 1 ∧ r = nI (hsD tt bb ee (dc tt bb ee K (N - 1) true 0 (zs dd 7 0 s0)) ln (sc 1) % 2147483648 % 5003) ∧ dS ca ad tt bb ee N (dq tt (N - 1) (hsD tt bb ee (dc tt bb ee K (N - 1) true 0 (zs dd 7 0 s0)) ln (sc 1) % 2147483648 % 5003) (dc tt bb ee K (N - 1) true 0 (zs dd 7 0 s0))) (va_up sc 3 1) sk rw fk ln c1 ∧ fr8 tt N ct c1))))
    (hm : (ar 0 1 = 0 ∧ r2 = -2 ∧ a1 = ar) ∨ (0 < ar 0 1 ∧ ∃ h : Nat → Nat, kOK ar h (ar 0 1) ∧ (∀ k, k < ar 0 1 → h k < 2) ∧ ((¬ h (ar 0 1 - 1) = 1 ∧ r2 = -3 ∧ a1 = va_up ar 27 h) ∨ (h (ar 0 1 - 1) = 1 ∧ ∃ (h2 : Nat → Nat) (s9 a0 s8 : Nat → Nat → Nat), kOK ar h2 (ar 0 1) ∧ (∀ k, k < ar 0 1 → h2 k < 2) ∧ a0 = cmt ar true 0 s0 h2 s9 1 ∧ r2 = nI (hsv a0) ∧ a1 = mix (rq false (a0 7) (a0 8) (a0 9) (a0 10) (a0 21) (a0 22) (a0 0 1 - 1) (hsv a0) a0) s8)))) : r = r2 ∧ Cp ca n ad c1 a1 := by
  obtain ⟨x1, x2, x3, -⟩ := id hX
  obtain ⟨g1, g2, g3, g4, -⟩ := id hC
  rcases hd with ⟨p1, rfl, rfl⟩ | ⟨p1, hd⟩
  · rcases hm with ⟨q1, rfl, rfl⟩ | ⟨q1, -⟩
    · exact ⟨rfl, Cp_mk hC hX hS⟩
    · rw [x1.1] at q1; omega
  · rcases hm with ⟨q1, -⟩ | ⟨q1, h, hk, -, hm⟩
    · rw [x1.1] at q1; omega
    · have hu : h (ar 0 1 - 1) = K (N - 1) := by
        rw [x1.1] at hk ⊢
        exact K_un x1 x3 hK hk (N - 1) (by omega)
      rw [hu] at hm
      rcases hd with ⟨p2, rfl, rfl⟩ | ⟨p2, rfl, t1, t2⟩
      · rcases hm with ⟨q2, rfl, rfl⟩ | ⟨q2, -⟩
        · exact ⟨rfl, Cp_up hC hX hS (by decide) _⟩
        · exact absurd q2 p2
      · rcases hm with ⟨q2, -⟩ | ⟨q2, h2, s9, a0, s8, k2, -, ha0, rfl, rfl⟩
        · exact absurd p2 q2
        · have hx := cX_cm hX p1 hK hK2 k2 true 0 s0 1 s9 (by decide) rfl (fun _ => p2)
          rw [show zs (mix (cm (ar 7) (ar 8) (ar 9) (ar 10) (ar 0 1 - 1) true 0 (va_up (zs ar 0 5 s0) 27 h2)) s9) 0 4 1 = a0 from ha0.symm] at hx
          have hS0 : sM st sb se M slo (sc 0) sk ad a0 := by
            rw [ha0]
            unfold cmt
            refine sM_ag hS (fun i a b => ?_) ?_
            · rw [zs_row _ _ _ (by omega)]
              funext j
              unfold mix
              rw [if_neg (by omega), cm_row (by unfold cRow; omega), va_up_ne _ _ (by omega), zs_row _ _ _ (by omega)]
            · rw [zs_ni _ _ _ _ (by decide)]
              unfold mix
              rw [if_neg (by decide), cm_0 (by decide), va_up_ne _ _ (by decide), zs_ni _ _ _ _ (by decide)]
          have hh := hsv_eq hx
          rw [va_up_ne _ _ (by decide)] at hh
          rw [hh] at t1 ⊢
          have h5 : hsv a0 < 5003 := Nat.mod_lt _ (by decide)
          generalize hsv a0 = z at *
          have hx2 := cX_rq hx p1 (va_up_self _ _ _) z h5 s8
          exact ⟨rfl, Cp_mk (Cw_step hC t1 t2) hx2 (sM_rq (sc := sc) hS0)⟩
end CZ
