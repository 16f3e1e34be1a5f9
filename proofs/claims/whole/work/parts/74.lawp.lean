/-! what the contracts ask, out of the coupling -/
section LP
variable {tt bb ee dd ar st sb se : Nat → Nat → Nat} {N M : Nat} {sc fk ln lo slo : Nat → Nat} {sk rw : Nat → Option Nat} {ca : Nat → ClassId} {n : Nat} {ad : Nat → Nat} {ct : Nat → va_E}
theorem K_kOK (hX : cX tt bb ee dd N sc fk ln lo ar) {K : Nat → Nat} (hK : ∀ k, k < N → K k = dK tt dd K k) : kOK ar K (ar 0 1) := by
  rw [hX.1.1]
  exact fun k hk => (hK k hk).trans (kv_dK hX.1 hX.2.2.1 hk K).symm
theorem P_gD (hX : cX tt bb ee dd N sc fk ln lo ar) {K : Nat → Nat} (hK : ∀ k, k < N → K k = dK tt dd K k) (hK2 : ∀ k, k < N → K k < 2) (sd : Nat) (hN : 0 < N) (hr : K (N - 1) = 1) : ∃ G : Nat → Prop, gD tt (dc tt bb ee K (N - 1) true 0 (zs dd 7 0 sd)) N G ∧ G (N - 1) := by
  have hx := cX_cm hX hN hK hK2 (K_kOK hX hK) true 0 sd 1 (fun _ _ => 0) (by decide) rfl (fun _ => hr)
  exact ⟨_, GP_gD hx.1 hx.2.2.1, hx.2.2.2.2.2.2.2.2.2 (va_up_self _ _ _) hN⟩
theorem P_gC (hX : cX tt bb ee dd N sc fk ln lo ar) (sd : Nat) : ∀ (h2 : Nat → Nat) (s9 ar1 : Nat → Nat → Nat), kOK ar h2 (ar 0 1) → (∀ k, k < ar 0 1 → h2 k < 2) → h2 (ar 0 1 - 1) = 1 → ar1 = cmt ar true 0 sd h2 s9 1 → ∃ G : Nat → Prop, gC (ar1 7) (ar1 8) (ar1 9) (ar1 10) (ar1 21) (ar1 22) (ar1 13) (ar1 20) (ar1 0 1) G ∧ G (ar1 0 1 - 1) := by
  intro h2 s9 ar1 hk2 hl2 hr e
  obtain ⟨K, hK, hK2⟩ := K_ex hX.1 hX.2.2.1
  by_cases hN : 0 < N
  · have hr' : K (N - 1) = 1 := by
      rw [hX.1.1] at hk2 hr
      rw [← K_un hX.1 hX.2.2.1 hK hk2 (N - 1) (by omega)]; exact hr
    have hx := cX_cm hX hN hK hK2 hk2 true 0 sd 1 s9 (by decide) rfl (fun _ => hr')
    rw [show zs (mix (cm (ar 7) (ar 8) (ar 9) (ar 10) (ar 0 1 - 1) true 0 (va_up (zs ar 0 5 sd) 27 h2)) s9) 0 4 1 = ar1 from e.symm] at hx
    rw [hx.1.1]
    exact ⟨_, GP_gC hx.1 hx.2.2.1, hx.2.2.2.2.2.2.2.2.2 (va_up_self _ _ _) hN⟩
  · have h0 : ar1 0 1 = 0 := by
      rw [e]
      unfold cmt
      rw [zs_ni _ _ _ _ (by decide)]
      unfold mix
      rw [if_neg (by decide), cm_0 (by decide), va_up_ne _ _ (by decide), zs_ni _ _ _ _ (by decide), hX.1.1]
      omega
    rw [h0]
    exact ⟨fun _ => True, fun k hk => absurd hk (Nat.not_lt_zero _), trivial⟩
theorem R_gD (hX : cX tt bb ee dd N sc fk ln lo ar) : sc 3 = 1 → 0 < N → ∃ G : Nat → Prop, gD tt dd N G ∧ G (N - 1) := fun h hN => ⟨_, GP_gD hX.1 hX.2.2.1, hX.2.2.2.2.2.2.2.2.2 h hN⟩
theorem R_gC (hX : cX tt bb ee dd N sc fk ln lo ar) : ar 0 4 = 1 → 0 < ar 0 1 → ∃ G : Nat → Prop, gC (ar 7) (ar 8) (ar 9) (ar 10) (ar 21) (ar 22) (ar 13) (ar 20) (ar 0 1) G ∧ G (ar 0 1 - 1) := fun h hN => by
  rw [hX.1.1] at hN ⊢
  exact ⟨_, GP_gC hX.1 hX.2.2.1, hX.2.2.2.2.2.2.2.2.2 (hX.2.2.2.2.2.2.2.2.1.1.trans h) hN⟩
theorem P_nm (hX : cX tt bb ee dd N sc fk ln lo ar) : ∀ k, k < N → tt 0 k = 0 → dd 0 k < 8 := fun k hk h0 => Nat.lt_of_lt_of_le (cT_lf hX.1 k hk h0).1 hX.1.2.2.2.1
theorem P_tl (hX : cX tt bb ee dd N sc fk ln lo ar) : ∀ k, k < N → tt 0 k = 0 → dd 1 k < 2 := fun k hk h0 => by
  obtain ⟨a, b⟩ := cT_lf hX.1 k hk h0
  have w := hX.2.2.1.2 _ a
  rw [b] at w
  rcases w with ⟨w, -⟩ | ⟨w, -⟩ <;> omega
theorem P_V (hX : cX tt bb ee dd N sc fk ln lo ar) : ∃ V : Nat → Nat, (∀ k, k < N → V k = dV tt dd V k) ∧ vB V N := by
  obtain ⟨V, h1, h2⟩ := V_ex hX.1 hX.2.2.2.2.2.1
  rw [va_up_d6] at h1
  exact ⟨V, h1, h2⟩
/-- accept: what the desk's and the model's contracts ask of the stack -/
theorem A_d (hC : Cw ca n ad tt bb ee N dd sc sk rw fk ln st sb se M ct) (hS : sM st sb se M slo (sc 0) sk ad ar) : sc 0 = 1 → tS n st sb se 4 5 3 M ∧ tW ca ad st sb se 4 5 3 M (sd dd) ct ∧ (∀ k, k < M → 8 ≤ st 3 k) ∧ 0 < M ∧ M ≤ 15 ∧ sk 0 = some (ad (st 3 (M - 1))) ∧ tOK (st 0) slo M ∧ (∀ k, k < M → st 0 k ≠ 0 → st 1 k = slo (k - 1) - 1 ∧ st 2 k = k - 1) ∧ cl (st 0) M ≤ 8 ∧ slo (M - 1) = 0 := by
  intro h1
  rw [h1] at hS
  obtain ⟨g1, g2, g3, g4, g5, g6, g7, g8⟩ := hC
  have h15 := sM_15 hS 1 (by decide)
  have hcl := sM_cl hS (Nat.le_refl M)
  have hO := sM_tOK hS
  have hch := sM_ch hS
  obtain ⟨e, -, hM, hz, -, hkd, hO', hsg, hk⟩ := hS
  obtain ⟨s1, s2, s3, s4⟩ := hsg 0 (by decide)
  rw [show 0 + 1 = 1 from rfl, hM] at s1 s2 s3 s4
  rw [hz] at s1 s2 s3
  rw [show cl (ar 1) 0 = 0 from rfl] at s3
  rw [hM] at h15
  exact ⟨g5, g6, fun k hk => (g7 k hk).1, s1, by omega, s4, hO, hch, by omega, s2⟩
theorem A_m (hC : Cw ca n ad tt bb ee N dd sc sk rw fk ln st sb se M ct) (hS : sM st sb se M slo (sc 0) sk ad ar) : ar 0 0 = 1 → ar 6 1 ≤ 15 ∧ cl (ar 1) (ar 6 1) ≤ 8 ∧ tOK (ar 1) slo (ar 6 1) := by
  intro h1
  have e1 : sc 0 = 1 := hS.1.trans h1
  have a := A_d hC hS e1
  have hcl := sM_cl hS (Nat.le_refl M)
  rw [e1] at hS
  have hM := hS.2.2.1
  rw [hM, ← hcl]
  exact ⟨a.2.2.2.2.1, a.2.2.2.2.2.2.2.2.1, hS.2.2.2.2.2.2.1⟩
theorem J_m (hS : sM st sb se M slo (sc 0) sk ad ar) : 2 ≤ ar 0 0 → ar 6 (ar 0 0 - 2) ≤ ar 6 (ar 0 0) ∧ ar 6 (ar 0 0) ≤ 90 ∧ (cl (ar 1) (ar 6 (ar 0 0)) - cl (ar 1) (ar 6 (ar 0 0 - 2)) ≤ 8 → ar 6 (ar 0 0) < 90) := by
  intro h2
  have hlt := sM_lt hS
  have hm := sM_mono hS (sc 0) (Nat.le_refl _) (sc 0 - 2) (by omega)
  rw [hS.1] at hlt hm
  exact ⟨hm, by omega, fun _ => hlt⟩
end LP
