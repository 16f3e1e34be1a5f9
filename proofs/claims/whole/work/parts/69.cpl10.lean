/-! call by call, further: verify, challenge, part, change, save, extract -/
section CZ2
variable {tt bb ee dd ar st sb se a1 : Nat → Nat → Nat} {N M : Nat} {sc fk ln lo slo : Nat → Nat} {sk rw : Nat → Option Nat} {ca : Nat → ClassId} {n : Nat} {ad : Nat → Nat} {ct c1 : Nat → va_E} {r r2 : Int32}
theorem acc_eq (hX : cX tt bb ee dd N sc fk ln lo ar) (hN : 0 < N) (old : Bool) {f V : Nat → Nat} (hp : cP f (ar (mR old)) (ar (cR old)) (ar (rR old))) (hV : ∀ k, k < N → V k = dV tt (va_up dd 6 f) V k) {b : Bool} (h : accP ar old b) : b = (hoAll tt bb ee dd ln f (sc 1) && !decide (V (N - 1) = 4294967295)) := by
  obtain ⟨x1, x2, -⟩ := id hX
  obtain ⟨g, g1, g2, rfl⟩ := h
  rw [x1.1] at g1 g2 ⊢
  have hu := V_un x1 rfl hp hV g1 g2 (N - 1) (by omega)
  have hb := g2 (N - 1) (by omega)
  rw [x1.2.2.1, ho_eq x1 x2 old hp (sc 1) (Nat.le_refl _), hu, Bool.and_comm]
  rw [hu] at hb
  congr 1
  by_cases e : V (N - 1) = 4294967295
  · rw [decide_eq_true e, decide_eq_false (by omega)]; rfl
  · rw [decide_eq_false e, decide_eq_true (by omega)]; rfl
theorem E_verify (hC : Cw ca n ad tt bb ee N dd sc sk rw fk ln st sb se M ct) (hX : cX tt bb ee dd N sc fk ln lo ar) (hS : sM st sb se M slo (sc 0) sk ad ar) {V : Nat → Nat} (hV : ∀ k, k < N → V k = dV tt dd V k) (hm : (ar 0 1 = 0 ∧ r2 = 0 ∧ a1 = ar) ∨ (0 < ar 0 1 ∧ ∃ (h : Nat → Nat) (b : Bool), accP ar false b ∧ a1 = va_up ar 26 h ∧ r2 = zb b)) : zb (decide (0 < N) && (hoAll tt bb ee dd ln (dd 6) (sc 1) && !decide (V (N - 1) = 4294967295))) = r2 ∧ Cp ca n ad ct a1 := by
  obtain ⟨x1, x2, x3, x4, -⟩ := id hX
  rcases hm with ⟨q, rfl, rfl⟩ | ⟨q, h, b, hb, rfl, rfl⟩
  · rw [x1.1] at q
    refine ⟨?_, Cp_mk hC hX hS⟩
    rw [decide_eq_false (by omega), Bool.false_and]; rfl
  · rw [x1.1] at q
    refine ⟨?_, Cp_up hC hX hS (by decide) _⟩
    rw [acc_eq hX q false (f := dd 6) (V := V) x4 (by rw [va_up_d6]; exact hV) hb, decide_eq_true q, Bool.true_and]
theorem E_challenge (hC : Cw ca n ad tt bb ee N dd sc sk rw fk ln st sb se M ct) (hX : cX tt bb ee dd N sc fk ln lo ar) (hS : sM st sb se M slo (sc 0) sk ad ar) {V : Nat → Nat} (hV : ∀ k, k < N → V k = dV tt dd V k) (hm : (ar 0 1 = 0 ∧ r2 = -2 ∧ a1 = ar) ∨ (0 < ar 0 1 ∧ ∃ h : Nat → Nat, vOK ar 15 h (ar 0 1) ∧ vB h (ar 0 1) ∧ a1 = va_up ar 26 h ∧ r2 = if h (ar 0 1 - 1) < 2147483648 then nI (h (ar 0 1 - 1)) else -4)) : (if N = 0 then -2 else if V (N - 1) = 4294967295 then -4 else nI (V (N - 1)) : Int32) = r2 ∧ Cp ca n ad ct a1 := by
  obtain ⟨x1, x2, x3, x4, -⟩ := id hX
  rcases hm with ⟨q, rfl, rfl⟩ | ⟨q, h, g1, g2, rfl, rfl⟩
  · rw [x1.1] at q
    exact ⟨if_pos q, Cp_mk hC hX hS⟩
  · rw [x1.1] at q g1 g2 ⊢
    refine ⟨?_, Cp_up hC hX hS (by decide) _⟩
    have hu := V_un x1 rfl x4 (f0 := dd 6) (V := V) (by rw [va_up_d6]; exact hV) g1 g2 (N - 1) (by omega)
    have hb := g2 (N - 1) (by omega)
    rw [hu] at hb ⊢
    rw [if_neg (by omega)]
    by_cases e : V (N - 1) = 4294967295
    · rw [if_pos e, if_neg (by omega)]
    · rw [if_neg e, if_pos (by omega)]
theorem part_eq (hX : cX tt bb ee dd N sc fk ln lo ar) (w q : Nat) : (decide (w < sc 1) && (decide (q < 4) && (!decide (q = 1) || decide (tt 6 (ln w) = 2)))) = partB ar w q := by
  obtain ⟨x1, x2, -⟩ := id hX
  unfold partB pairB
  rw [x1.2.2.1]
  by_cases hw : w < sc 1
  · rw [decide_eq_true hw, Bool.true_and, Bool.true_and, Bool.true_and]
    obtain ⟨-, -, -, -, b5⟩ := x2.2 w hw
    rcases b5 with ⟨p, p2⟩ | ⟨p, p2, -⟩
    · rw [decide_eq_false (show ¬ tt 6 (ln w) = 2 by omega), decide_eq_false (show ¬ 0 < ar 11 (2 * w + 1) by omega)]
    · rw [decide_eq_true p, decide_eq_true p2]
  · rw [decide_eq_false hw, Bool.false_and, Bool.false_and]
theorem pv_eq (hX : cX tt bb ee dd N sc fk ln lo ar) {w q : Nat} (hw : w < sc 1) (hq : q < 4) : dd 6 (w * 4 + q) = pv ar w q := by
  obtain ⟨x1, x2, x3, x4, -⟩ := id hX
  obtain ⟨p0, p1, p2, p3⟩ := x4 w (by have := x1.2.2.2.1; omega)
  unfold pv
  rcases (show q = 0 ∨ q = 1 ∨ q = 2 ∨ q = 3 by omega) with rfl | rfl | rfl | rfl
  · rw [if_pos (by decide)]; exact p0
  · rw [if_pos (by decide)]; exact p1
  · rw [if_neg (by decide), if_pos rfl]; exact p2
  · rw [if_neg (by decide), if_neg (by decide)]; exact p3
theorem E_part (hX : cX tt bb ee dd N sc fk ln lo ar) (w q : Nat) : (if N = 0 then -2 else if decide (w < sc 1) && (decide (q < 4) && (!decide (q = 1) || decide (tt 6 (ln w) = 2))) then nI (dd 6 (w * 4 + q)) else -1 : Int32) = (if ar 0 1 = 0 then -2 else if partB ar w q then nI (pv ar w q) else -1) := by
  rw [part_eq hX, hX.1.1]
  by_cases h0 : N = 0
  · rw [if_pos h0, if_pos h0]
  · rw [if_neg h0, if_neg h0]
    cases hp : partB ar w q
    · rfl
    · have hq := hp
      rw [← part_eq hX] at hq
      simp only [Bool.and_eq_true, decide_eq_true_eq] at hq
      rw [pv_eq hX hq.1 hq.2.1]
theorem E_change (hC : Cw ca n ad tt bb ee N dd sc sk rw fk ln st sb se M ct) (hX : cX tt bb ee dd N sc fk ln lo ar) (hS : sM st sb se M slo (sc 0) sk ad ar) {w q v : Nat} (hd : r = zb ((decide (w < sc 1) && (decide (q < 4) && (!decide (q = 1) || decide (tt 6 (ln w) = 2)))) && decide (v < if q < 2 then 10007 else 5003)) ∧ c1 = if (decide (w < sc 1) && (decide (q < 4) && (!decide (q = 1) || decide (tt 6 (ln w) = 2)))) && decide (v < if q < 2 then 10007 else 5003) then va_up ct 5 (.inl (ca 0, 32, .inl (zf (va_up (dd 6) (w * 4 + q) v)))) else ct) (hm : r2 = zb (chgB ar w q v) ∧ a1 = if chgB ar w q v then chg ar w q v else ar) : r = r2 ∧ Cp ca n ad c1 a1 := by
  obtain ⟨h1, h2, h3, h4, -⟩ := id hC
  have hb : ((decide (w < sc 1) && (decide (q < 4) && (!decide (q = 1) || decide (tt 6 (ln w) = 2)))) && decide (v < if q < 2 then 10007 else 5003)) = chgB ar w q v := by
    unfold chgB
    rw [part_eq hX]
  rw [hb] at hd
  refine ⟨hd.1.trans hm.1.symm, ?_⟩
  rw [hd.2, hm.2]
  cases hq : chgB ar w q v
  · exact Cp_mk hC hX hS
  · rw [← hb] at hq
    simp only [Bool.and_eq_true, decide_eq_true_eq] at hq
    obtain ⟨⟨y1, y2, -⟩, y3⟩ := hq
    obtain ⟨t1, t2⟩ := tW_kt h2 h3.2.2.2.2.2.1 (va_up (dd 6) (w * 4 + q) v)
    refine Cp_mk (Cw_step hC (dS_of h4 h3 t1 t2 (va_up_ne _ _ (by decide))) (fr_8 t2)) (cX_chg hX y2 y3) (sM_ag hS (fun i a b => ?_) ?_)
    · exact (chg_rows y2).1 i (by omega) (by omega) (by omega)
    · exact congrFun ((chg_rows (ar := ar) (w := w) (v := v) y2).1 0 (by decide) (by decide) (by decide)) 0
theorem E_save (hC : Cw ca n ad tt bb ee N dd sc sk rw fk ln st sb se M ct) (hX : cX tt bb ee dd N sc fk ln lo ar) (hS : sM st sb se M slo (sc 0) sk ad ar) (hd : (N = 0 ∧ r = 0 ∧ c1 = ct) ∨ (0 < N ∧ r = 1 ∧ c1 = va_up (va_up ct 7 (.inl (ca 0, 32, .inl (zf (va_cpy (dd 6) fk 0 0 32))))) 0 (.inr (0, [.ref (ad 1), .int (nI (sc 0)), .ref (ad (tt 3 (N - 1))), .ref (ad 2), .int (nI (sc 1)), .ref (ad 3), .ref (ad 4), .ref (ad 6), .int 1, .int (nI (sc 3))]))))
    (hm : (ar 0 1 = 0 ∧ r2 = 0 ∧ a1 = ar) ∨ (0 < ar 0 1 ∧ r2 = 1 ∧ ∃ h h2 h3 : Nat → Nat, (∀ i, i < 16 → h i = ar 14 i) ∧ (∀ i, i < 8 → h2 i = ar 15 i) ∧ (∀ i, i < 8 → h3 i = ar 16 i) ∧ a1 = zs (va_up (va_up (va_up ar 17 h) 18 h2) 19 h3) 0 3 1)) : r = r2 ∧ Cp ca n ad c1 a1 := by
  obtain ⟨x1, x2, x3, x4, -⟩ := id hX
  obtain ⟨g1, g2, g3, g4, -⟩ := id hC
  rcases hd with ⟨p1, rfl, rfl⟩ | ⟨p1, rfl, hc⟩
  · rcases hm with ⟨q1, rfl, rfl⟩ | ⟨q1, -⟩
    · exact ⟨rfl, Cp_mk hC hX hS⟩
    · rw [x1.1] at q1; omega
  · rcases hm with ⟨q1, -⟩ | ⟨q1, rfl, h, h2, h3, k1, k2, k3, rfl⟩
    · rw [x1.1] at q1; omega
    · have hf : ∀ i, i < 32 → va_cpy (dd 6) fk 0 0 32 i = dd 6 i := fun i hi => by
        unfold va_cpy
        rw [if_pos (by omega)]
        congr 1
        omega
      generalize va_cpy (dd 6) fk 0 0 32 = f1 at *
      obtain ⟨d0, d1, d2, d6, d7, dT, dl, d8⟩ := id g3
      have t7 : tW ca ad tt bb ee 4 5 3 N dd (va_up ct 7 (.inl (ca 0, 32, .inl (zf f1)))) := by
        have n7 : ∀ q np f, (np = 1 ∨ np = 2) → ct q = .inl (ca 0, np, .inl (zf f)) → 7 ≠ q := fun q np f hn hq e => by
          rw [← e, d7] at hq
          have := congrArg (fun z : va_E => match z with | .inl a => a.2.1 | .inr _ => 0) hq
          simp at this
          omega
        refine tW_out dT (by decide) (by decide) (by decide) (fun k hk => by have := g4 k hk; omega) (fun k hk h0 => ?_)
        have b := (g2.2.2.2.2 k hk).2.2.2 h0
        obtain ⟨y1, y2⟩ := (dT.2.2.2 k hk).2 h0
        exact ⟨n7 _ _ _ b.2.2.1 y1, n7 _ _ _ b.2.2.1 y2⟩
      have hds : dS ca ad tt bb ee N dd (va_up sc 2 1) sk rw f1 ln c1 := by
        have c0' : (va_up ct 7 (.inl (ca 0, 32, .inl (zf f1))) : Nat → va_E) 0 = dkC ad (trV ad tt N) sc := (va_up_ne _ _ (by decide)).trans d0
        rw [hc]
        refine ⟨?_, ?_, ?_, ?_, ?_, tW_obj t7 c0' (by decide) (by decide) (fun k hk => by have := g4 k hk; omega), dl, d8⟩
        · rw [va_up_self, trV_s (by omega)]; rfl
        · rw [va_up_ne _ _ (by decide), va_up_ne _ _ (by decide)]; exact d1
        · rw [va_up_ne _ _ (by decide), va_up_ne _ _ (by decide)]; exact d2
        · rw [va_up_ne _ _ (by decide), va_up_ne _ _ (by decide)]; exact d6
        · rw [va_up_ne _ _ (by decide), va_up_self]
      refine ⟨rfl, Cp_mk (slo := slo) (Cw_step hC hds (fun q a b => by rw [hc, va_up_ne _ _ (by omega), va_up_ne _ _ (by omega)])) (cX_save hX hf k1 k2 k3) ?_⟩
      refine sM_ag hS (fun i a b => ?_) ?_
      · rw [zs_row _ _ _ (by omega), va_up_ne _ _ (by omega), va_up_ne _ _ (by omega), va_up_ne _ _ (by omega)]
      · rw [zs_ni _ _ _ _ (by decide), va_up_ne _ _ (by decide), va_up_ne _ _ (by decide), va_up_ne _ _ (by decide)]
theorem E_extract (hC : Cw ca n ad tt bb ee N dd sc sk rw fk ln st sb se M ct) (hX : cX tt bb ee dd N sc fk ln lo ar) (hS : sM st sb se M slo (sc 0) sk ad ar) {V1 V2 : Nat → Nat} (hV1 : ∀ k, k < N → V1 k = dV tt (va_up dd 6 fk) V1 k) (hV2 : ∀ k, k < N → V2 k = dV tt dd V2 k) (hd : (N = 0 ∧ r = -2 ∧ c1 = ct) ∨ (0 < N ∧ (((decide (sc 2 = 1) && ((hoAll tt bb ee dd ln fk (sc 1) && !decide (V1 (N - 1) = 4294967295)) && ((hoAll tt bb ee dd ln (dd 6) (sc 1) && !decide (V2 (N - 1) = 4294967295)) && smAllD tt dd ln fk (sc 1)))) = false ∧ r = -4 ∧ c1 = ct) ∨ ((decide (sc 2 = 1) && ((hoAll tt bb ee dd ln fk (sc 1) && !decide (V1 (N - 1) = 4294967295)) && ((hoAll tt bb ee dd ln (dd 6) (sc 1) && !decide (V2 (N - 1) = 4294967295)) && smAllD tt dd ln fk (sc 1)))) = true ∧ r = nI (exC dd fk (sc 1)) ∧ tW ca ad tt bb ee 4 5 3 N (exD dd ln fk (sc 1)) c1 ∧ fr tt 5 3 N ct c1))))
    (hm : (ar 0 1 = 0 ∧ r2 = -2 ∧ a1 = ar) ∨ (0 < ar 0 1 ∧ ∃ (h : Nat → Nat) (ok : Bool), xP ar ok ∧ ((ok = false ∧ r2 = -4 ∧ a1 = va_up ar 26 h) ∨ (ok = true ∧ r2 = nI (exN ar (ar 0 2)) ∧ a1 = va_up (va_up ar 26 h) 13 (exR ar (ar 0 2)))))) : r = r2 ∧ Cp ca n ad c1 a1 := by
  obtain ⟨x1, x2, x3, x4, x5, x6, x7, x8, x9, x10⟩ := id hX
  obtain ⟨g1, g2, g3, g4, -⟩ := id hC
  rcases hd with ⟨p1, rfl, rfl⟩ | ⟨p1, hd⟩
  · rcases hm with ⟨q1, rfl, rfl⟩ | ⟨q1, -⟩
    · exact ⟨rfl, Cp_mk hC hX hS⟩
    · rw [x1.1] at q1; omega
  · rcases hm with ⟨q1, -⟩ | ⟨q1, h, ok, hok, hm⟩
    · rw [x1.1] at q1; omega
    · have e1 : ∀ b, accP ar false b → b = (hoAll tt bb ee dd ln (dd 6) (sc 1) && !decide (V2 (N - 1) = 4294967295)) := fun b hb => acc_eq hX p1 false x4 (by rw [va_up_d6]; exact hV2) hb
      have e2 : ∀ b, accP ar true b → b = (hoAll tt bb ee dd ln fk (sc 1) && !decide (V1 (N - 1) = 4294967295)) := fun b hb => acc_eq hX p1 true x5 hV1 hb
      have e3 := sm_eq x2 x1.2.2.2.1 x4 x5 (sc 1) (Nat.le_refl _)
      have hB : ok = (decide (sc 2 = 1) && ((hoAll tt bb ee dd ln fk (sc 1) && !decide (V1 (N - 1) = 4294967295)) && ((hoAll tt bb ee dd ln (dd 6) (sc 1) && !decide (V2 (N - 1) = 4294967295)) && smAllD tt dd ln fk (sc 1)))) := by
        rcases hok with ⟨u1, rfl⟩ | ⟨u1, ⟨u2, rfl⟩ | ⟨u2, ⟨u3, rfl⟩ | ⟨u3, rfl⟩⟩⟩
        · rw [decide_eq_false (by omega), Bool.false_and]
        · rw [← e1 _ u2, Bool.false_and, Bool.and_false, Bool.and_false]
        · rw [← e2 _ u3, Bool.false_and, Bool.and_false]
        · rw [← e1 _ u2, ← e2 _ u3, e3, decide_eq_true (by omega), Bool.true_and, Bool.true_and, Bool.true_and, x1.2.2.1]
      rw [← hB] at hd
      rcases hd with ⟨p2, rfl, rfl⟩ | ⟨p2, rfl, t1, t2⟩
      · rcases hm with ⟨q2, rfl, rfl⟩ | ⟨q2, -⟩
        · exact ⟨rfl, Cp_up hC hX hS (by decide) _⟩
        · rw [p2] at q2; exact absurd q2 (by decide)
      · rcases hm with ⟨q2, -⟩ | ⟨q2, rfl, rfl⟩
        · rw [p2] at q2; exact absurd q2 (by decide)
        · obtain ⟨y1, y2⟩ := ex_eq hX (sc 1) (Nat.le_refl _)
          rw [x1.2.2.1, y2]
          have hx2 := cX_up y1 (j := 26) (by decide) h
          have hcomm : va_up (va_up ar 13 (exR ar (sc 1))) 26 h = va_up (va_up ar 26 h) 13 (exR ar (sc 1)) := by
            funext j
            unfold va_up
            by_cases e : j = 26
            · subst e; rfl
            · simp [e]
          rw [hcomm] at hx2
          refine ⟨rfl, Cp_mk (slo := slo) (Cw_step hC (dS_of g4 g3 t1 t2 (exD_row (by decide) (by decide) _)) (fr_8 t2)) hx2 ?_⟩
          exact sM_ag hS (fun i a b => by rw [va_up_ne _ _ (by omega), va_up_ne _ _ (by omega)]) (by rw [va_up_ne _ _ (by decide), va_up_ne _ _ (by decide)])
end CZ2
