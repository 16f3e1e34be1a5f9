/-! commitReal and commitSimulated over the tree -/
def dcL (tt bb ee : Nat → Nat → Nat) (k : Nat) (real : Bool) (c : Nat) (dd : Nat → Nat → Nat) : Nat → Nat → Nat := if real then va_up (zs (zs dd 7 0 (dr (dd 7 0))) 3 k (dv (dr (dd 7 0)))) 6 (ftR (bb k) (dd 6) (dd 0 k) (tt 6 k) (dv (dr (dd 7 0)))) else va_up (zs dd 7 0 (dr (dd 7 0))) 6 (ftS (bb k) (ee k) (dd 6) (dd 0 k) (tt 6 k) c (dv (dr (dd 7 0))))
def dc (tt bb ee : Nat → Nat → Nat) (K : Nat → Nat) (k : Nat) (real : Bool) (c : Nat) (dd : Nat → Nat → Nat) : Nat → Nat → Nat :=
  if tt 0 k = 0 then dcL tt bb ee k real c dd
  else if h : tt 1 k < k ∧ tt 2 k < k then
    if tt 0 k = 1 then dc tt bb ee K (tt 2 k) real c (dc tt bb ee K (tt 1 k) real c dd)
    else if real then (if K (tt 1 k) = 1 then dc tt bb ee K (tt 2 k) false (dv (dr (dd 7 0))) (dc tt bb ee K (tt 1 k) true 0 (zs (zs (zs dd 4 k (K (tt 1 k))) 7 0 (dr (dd 7 0))) 5 k (dv (dr (dd 7 0)))))
      else dc tt bb ee K (tt 2 k) true 0 (dc tt bb ee K (tt 1 k) false (dv (dr (dd 7 0))) (zs (zs (zs dd 4 k (K (tt 1 k))) 7 0 (dr (dd 7 0))) 5 k (dv (dr (dd 7 0))))))
    else dc tt bb ee K (tt 2 k) false (ls5 c (dv (dr (dd 7 0)))) (dc tt bb ee K (tt 1 k) false (dv (dr (dd 7 0))) (zs dd 7 0 (dr (dd 7 0))))
  else dd
termination_by k
decreasing_by all_goals first | exact h.1 | exact h.2
section DC
variable {tt bb ee : Nat → Nat → Nat} {K : Nat → Nat} {k : Nat}
theorem dc_leaf (h0 : tt 0 k = 0) (real : Bool) (c : Nat) (dd : Nat → Nat → Nat) : dc tt bb ee K k real c dd = dcL tt bb ee k real c dd := by rw [dc, if_pos h0]
theorem dc_and (h0 : tt 0 k = 1) (hl : tt 1 k < k) (hr : tt 2 k < k) (real : Bool) (c : Nat) (dd : Nat → Nat → Nat) : dc tt bb ee K k real c dd = dc tt bb ee K (tt 2 k) real c (dc tt bb ee K (tt 1 k) real c dd) := by
  rw [dc, if_neg (by rw [h0]; decide), dif_pos ⟨hl, hr⟩, if_pos h0]
theorem dc_orL (h0 : tt 0 k = 2) (hl : tt 1 k < k) (hr : tt 2 k < k) (hK : K (tt 1 k) = 1) (c : Nat) (dd : Nat → Nat → Nat) : dc tt bb ee K k true c dd = dc tt bb ee K (tt 2 k) false (dv (dr (dd 7 0))) (dc tt bb ee K (tt 1 k) true 0 (zs (zs (zs dd 4 k (K (tt 1 k))) 7 0 (dr (dd 7 0))) 5 k (dv (dr (dd 7 0))))) := by
  rw [dc, if_neg (by rw [h0]; decide), dif_pos ⟨hl, hr⟩, if_neg (by rw [h0]; decide), if_pos rfl, if_pos hK]
theorem dc_orR (h0 : tt 0 k = 2) (hl : tt 1 k < k) (hr : tt 2 k < k) (hK : ¬ K (tt 1 k) = 1) (c : Nat) (dd : Nat → Nat → Nat) : dc tt bb ee K k true c dd = dc tt bb ee K (tt 2 k) true 0 (dc tt bb ee K (tt 1 k) false (dv (dr (dd 7 0))) (zs (zs (zs dd 4 k (K (tt 1 k))) 7 0 (dr (dd 7 0))) 5 k (dv (dr (dd 7 0))))) := by
  rw [dc, if_neg (by rw [h0]; decide), dif_pos ⟨hl, hr⟩, if_neg (by rw [h0]; decide), if_pos rfl, if_neg hK]
theorem dc_orS (h0 : tt 0 k = 2) (hl : tt 1 k < k) (hr : tt 2 k < k) (c : Nat) (dd : Nat → Nat → Nat) : dc tt bb ee K k false c dd = dc tt bb ee K (tt 2 k) false (ls5 c (dv (dr (dd 7 0)))) (dc tt bb ee K (tt 1 k) false (dv (dr (dd 7 0))) (zs dd 7 0 (dr (dd 7 0)))) := by
  rw [dc, if_neg (by rw [h0]; decide), dif_pos ⟨hl, hr⟩, if_neg (by rw [h0]; decide), if_neg (by decide)]
end DC
/-- what a commitment leaves: rows 0 to 2, and rows 3 to 5 above the node -/
theorem dc_keep {tt bb ee : Nat → Nat → Nat} {K : Nat → Nat} : ∀ (k : Nat) (real : Bool) (c : Nat) (dd : Nat → Nat → Nat) (j i : Nat), (j < 3 ∨ (j < 6 ∧ k < i)) → dc tt bb ee K k real c dd j i = dd j i := by
  intro k
  induction k using Nat.strongRecOn with
  | ind k ih =>
    intro real c dd j i h
    have e6 : j ≠ 6 := by omega
    have e7 : j ≠ 7 := by omega
    rw [dc]
    by_cases h0 : tt 0 k = 0
    · rw [if_pos h0]
      unfold dcL
      cases real
      · rw [if_neg (by decide), va_up_ne _ _ e6, zs_nj _ _ _ _ e7]
      · rw [if_pos rfl, va_up_ne _ _ e6, zs_at, if_neg (by omega), zs_nj _ _ _ _ e7]
    · rw [if_neg h0]
      by_cases hc : tt 1 k < k ∧ tt 2 k < k
      · rw [dif_pos hc]
        have i1 : ∀ (r : Bool) (c : Nat) (d : Nat → Nat → Nat), dc tt bb ee K (tt 1 k) r c d j i = d j i := fun r c d => ih _ hc.1 r c d j i (by omega)
        have i2 : ∀ (r : Bool) (c : Nat) (d : Nat → Nat → Nat), dc tt bb ee K (tt 2 k) r c d j i = d j i := fun r c d => ih _ hc.2 r c d j i (by omega)
        have z3 : (zs (zs (zs dd 4 k (K (tt 1 k))) 7 0 (dr (dd 7 0))) 5 k (dv (dr (dd 7 0)))) j i = dd j i := by
          rw [zs_at, if_neg (by omega), zs_nj _ _ _ _ e7, zs_at, if_neg (by omega)]
        by_cases h1 : tt 0 k = 1
        · rw [if_pos h1, i2, i1]
        · rw [if_neg h1]
          cases real
          · rw [if_neg (by decide), i2, i1, zs_nj _ _ _ _ e7]
          · rw [if_pos rfl]
            by_cases hK : K (tt 1 k) = 1
            · rw [if_pos hK, i2, i1, z3]
            · rw [if_neg hK, i2, i1, z3]
      · rw [dif_neg hc]
def fr (tt : Nat → Nat → Nat) (kt jd N : Nat) (ct ct1 : Nat → va_E) : Prop := ∀ q, q ≠ kt → q ≠ jd → (∀ k, k < N → q ≠ tt 3 k) → ct1 q = ct q
theorem fr_rf {tt : Nat → Nat → Nat} {kt jd N : Nat} {ct : Nat → va_E} : fr tt kt jd N ct ct := fun _ _ _ _ => rfl
theorem fr_tr {tt : Nat → Nat → Nat} {kt jd N : Nat} {a b c : Nat → va_E} (h1 : fr tt kt jd N a b) (h2 : fr tt kt jd N b c) : fr tt kt jd N a c := fun q x y z => (h2 q x y z).trans (h1 q x y z)
section TW
variable {ca : Nat → ClassId} {n : Nat} {ad : Nat → Nat} {ct : Nat → va_E} {tt bb ee dd : Nat → Nat → Nat} {jt kt jd N : Nat}
theorem tW_ne (hTS : tS n tt bb ee jt kt jd N) (h : tW ca ad tt bb ee jt kt jd N dd ct) : jt ≠ kt ∧ jt ≠ jd ∧ kt ≠ jd ∧ ∀ k, k < N → tt 3 k ≠ jt ∧ tt 3 k ≠ kt ∧ tt 3 k ≠ jd ∧ (tt 0 k = 0 → ∀ i, i < N → tt 4 k ≠ tt 3 i ∧ tt 5 k ≠ tt 3 i) ∧ (tt 0 k = 0 → tt 4 k ≠ kt ∧ tt 4 k ≠ jd ∧ tt 5 k ≠ kt ∧ tt 5 k ≠ jd) := by
  obtain ⟨h1, h2, h3, h4⟩ := h
  refine ⟨fun q => ?_, fun q => ?_, fun q => ?_, fun k hk => ⟨fun q => ?_, fun q => ?_, fun q => ?_, fun h0 i hi => ⟨fun q => ?_, fun q => ?_⟩, fun h0 => ⟨fun q => ?_, fun q => ?_, fun q => ?_, fun q => ?_⟩⟩⟩
  · rw [q, h2] at h1; cases h1
  · rw [q, h3] at h1; simp at h1
  · rw [q, h3] at h2; cases h2
  · obtain ⟨c, fs, e, hc⟩ := ndC_cls ad tt dd k
    have := (h4 k hk).1
    rw [q, h1, e] at this
    simp at this
    omega
  · obtain ⟨o, e⟩ := ndC_obj ad tt dd k
    have := (h4 k hk).1
    rw [q, h2, e] at this
    cases this
  · obtain ⟨c, fs, e, hc⟩ := ndC_cls ad tt dd k
    have := (h4 k hk).1
    rw [q, h3, e] at this
    simp at this
    omega
  · obtain ⟨o, e⟩ := ndC_obj ad tt dd i
    have a := ((h4 k hk).2 h0).1
    rw [q, (h4 i hi).1, e] at a
    cases a
  · obtain ⟨o, e⟩ := ndC_obj ad tt dd i
    have a := ((h4 k hk).2 h0).2
    rw [q, (h4 i hi).1, e] at a
    cases a
  · have a := ((h4 k hk).2 h0).1
    rw [q, h2] at a
    simp at a
    have := ((hTS.2.2.2.2 k hk).2.2.2 h0).2.2.1
    omega
  · have a := ((h4 k hk).2 h0).1
    rw [q, h3] at a
    cases a
  · have a := ((h4 k hk).2 h0).2
    rw [q, h2] at a
    simp at a
    have := ((hTS.2.2.2.2 k hk).2.2.2 h0).2.2.1
    omega
  · have a := ((h4 k hk).2 h0).2
    rw [q, h3] at a
    cases a
theorem ndC_cg {d1 d2 : Nat → Nat → Nat} {k : Nat} (h : ∀ j, j < 6 → d1 j k = d2 j k) : ndC ad tt d1 k = ndC ad tt d2 k := by
  unfold ndC
  rw [h 0 (by decide), h 1 (by decide), h 2 (by decide), h 3 (by decide), h 4 (by decide), h 5 (by decide)]
theorem tW_jd (hTS : tS n tt bb ee jt kt jd N) (h : tW ca ad tt bb ee jt kt jd N dd ct) (v : Nat) : tW ca ad tt bb ee jt kt jd N (zs dd 7 0 v) (va_up ct jd (.inr (6, [.int (nI v)]))) ∧ fr tt kt jd N ct (va_up ct jd (.inr (6, [.int (nI v)]))) := by
  obtain ⟨n1, n2, n3, n4⟩ := tW_ne hTS h
  obtain ⟨h1, h2, h3, h4⟩ := h
  refine ⟨⟨?_, ?_, ?_, fun k hk => ⟨?_, fun h0 => ⟨?_, ?_⟩⟩⟩, fun q _ hq _ => va_up_ne _ _ hq⟩
  · rw [va_up_ne _ _ n2]; exact h1
  · rw [va_up_ne _ _ n3, zs_row _ _ _ (by decide)]; exact h2
  · rw [va_up_self, zs_eq]
  · rw [va_up_ne _ _ (n4 k hk).2.2.1, (h4 k hk).1]
    exact ndC_cg (fun j hj => (zs_nj _ _ _ _ (by omega)).symm)
  · rw [va_up_ne _ _ ((n4 k hk).2.2.2.2 h0).2.1]; exact ((h4 k hk).2 h0).1
  · rw [va_up_ne _ _ ((n4 k hk).2.2.2.2 h0).2.2.2]; exact ((h4 k hk).2 h0).2
theorem tW_kt (hTS : tS n tt bb ee jt kt jd N) (h : tW ca ad tt bb ee jt kt jd N dd ct) (f : Nat → Nat) : tW ca ad tt bb ee jt kt jd N (va_up dd 6 f) (va_up ct kt (.inl (ca 0, 32, .inl (zf f)))) ∧ fr tt kt jd N ct (va_up ct kt (.inl (ca 0, 32, .inl (zf f)))) := by
  obtain ⟨n1, n2, n3, n4⟩ := tW_ne hTS h
  obtain ⟨h1, h2, h3, h4⟩ := h
  refine ⟨⟨?_, ?_, ?_, fun k hk => ⟨?_, fun h0 => ⟨?_, ?_⟩⟩⟩, fun q hq _ _ => va_up_ne _ _ hq⟩
  · rw [va_up_ne _ _ n1]; exact h1
  · rw [va_up_self, va_up_self]
  · rw [va_up_ne _ _ (Ne.symm n3), va_up_ne _ _ (by decide)]; exact h3
  · rw [va_up_ne _ _ (n4 k hk).2.1, (h4 k hk).1]
    exact ndC_cg (fun j hj => by rw [va_up_ne _ _ (by omega)])
  · rw [va_up_ne _ _ ((n4 k hk).2.2.2.2 h0).1]; exact ((h4 k hk).2 h0).1
  · rw [va_up_ne _ _ ((n4 k hk).2.2.2.2 h0).2.2.1]; exact ((h4 k hk).2 h0).2
theorem tW_nd (hTS : tS n tt bb ee jt kt jd N) (h : tW ca ad tt bb ee jt kt jd N dd ct) {k : Nat} (hk : k < N) {d1 : Nat → Nat → Nat} (hd : ∀ j i, i ≠ k ∨ 6 ≤ j → d1 j i = dd j i) {e : va_E} (he : e = ndC ad tt d1 k) : tW ca ad tt bb ee jt kt jd N d1 (va_up ct (tt 3 k) e) ∧ fr tt kt jd N ct (va_up ct (tt 3 k) e) := by
  obtain ⟨n1, n2, n3, n4⟩ := tW_ne hTS h
  obtain ⟨h1, h2, h3, h4⟩ := h
  refine ⟨⟨?_, ?_, ?_, fun i hi => ⟨?_, fun h0 => ⟨?_, ?_⟩⟩⟩, fun q _ _ hq => va_up_ne _ _ (hq k hk)⟩
  · rw [va_up_ne _ _ (Ne.symm (n4 k hk).1)]; exact h1
  · rw [va_up_ne _ _ (Ne.symm (n4 k hk).2.1), show d1 6 = dd 6 from funext fun i => hd 6 i (Or.inr (by decide))]; exact h2
  · rw [va_up_ne _ _ (Ne.symm (n4 k hk).2.2.1), hd 7 0 (Or.inr (by decide))]; exact h3
  · by_cases e1 : i = k
    · subst e1; rw [va_up_self, he]
    · rw [va_up_ne _ _ (fun q => e1 (hTS.2.2.2.1 i k hi hk q)), (h4 i hi).1]
      exact ndC_cg (fun j hj => (hd j i (Or.inl e1)).symm)
  · rw [va_up_ne _ _ ((n4 i hi).2.2.2.1 h0 k hk).1]; exact ((h4 i hi).2 h0).1
  · rw [va_up_ne _ _ ((n4 i hi).2.2.2.1 h0 k hk).2]; exact ((h4 i hi).2 h0).2
end TW
/-- the leaves are numbered, K answers isKnown -/
def hB (tt : Nat → Nat → Nat) (N : Nat) (K : Nat → Nat) (dd : Nat → Nat → Nat) : Prop := (∀ k, k < N → tt 0 k = 0 → dd 0 k < 8) ∧ ∀ k, k < N → K k = dK tt dd K k
theorem hB_of {tt : Nat → Nat → Nat} {N : Nat} {K : Nat → Nat} {dd d1 : Nat → Nat → Nat} (h : hB tt N K dd) (h0 : ∀ i, d1 0 i = dd 0 i) (h1 : ∀ i, d1 1 i = dd 1 i) : hB tt N K d1 := by
  refine ⟨fun k hk q => by rw [h0]; exact h.1 k hk q, fun k hk => ?_⟩
  rw [h.2 k hk]
  unfold dK
  rw [h1]

theorem d_A_commitReal_0 : decode c_A_commitReal 0 = .ok (.aload_n 0, 1) := by decide +kernel
theorem d_A_commitReal_1 : decode c_A_commitReal 1 = .ok (.getfield 9, 3) := by decide +kernel
theorem d_A_commitReal_4 : decode c_A_commitReal 4 = .ok (.aload_n 1, 1) := by decide +kernel
theorem d_A_commitReal_5 : decode c_A_commitReal 5 = .ok (.aload_n 2, 1) := by decide +kernel
theorem d_A_commitReal_6 : decode c_A_commitReal 6 = .ok (.invokevirtual 24, 3) := by decide +kernel
theorem d_A_commitReal_9 : decode c_A_commitReal 9 = .ok (.aload_n 0, 1) := by decide +kernel
theorem d_A_commitReal_10 : decode c_A_commitReal 10 = .ok (.getfield 21, 3) := by decide +kernel
theorem d_A_commitReal_13 : decode c_A_commitReal 13 = .ok (.aload_n 1, 1) := by decide +kernel
theorem d_A_commitReal_14 : decode c_A_commitReal 14 = .ok (.aload_n 2, 1) := by decide +kernel
theorem d_A_commitReal_15 : decode c_A_commitReal 15 = .ok (.invokevirtual 24, 3) := by decide +kernel
theorem d_A_commitReal_18 : decode c_A_commitReal 18 = .ok (.return_, 1) := by decide +kernel

theorem d_O_commitReal_0 : decode c_O_commitReal 0 = .ok (.aload_n 0, 1) := by decide +kernel
theorem d_O_commitReal_1 : decode c_O_commitReal 1 = .ok (.aload_n 0, 1) := by decide +kernel
theorem d_O_commitReal_2 : decode c_O_commitReal 2 = .ok (.getfield 9, 3) := by decide +kernel
theorem d_O_commitReal_5 : decode c_O_commitReal 5 = .ok (.invokevirtual 15, 3) := by decide +kernel
theorem d_O_commitReal_8 : decode c_O_commitReal 8 = .ok (.putfield 24, 3) := by decide +kernel
theorem d_O_commitReal_11 : decode c_O_commitReal 11 = .ok (.aload_n 0, 1) := by decide +kernel
theorem d_O_commitReal_12 : decode c_O_commitReal 12 = .ok (.aload_n 2, 1) := by decide +kernel
theorem d_O_commitReal_13 : decode c_O_commitReal 13 = .ok (.invokevirtual 28, 3) := by decide +kernel
theorem d_O_commitReal_16 : decode c_O_commitReal 16 = .ok (.putfield 34, 3) := by decide +kernel
theorem d_O_commitReal_19 : decode c_O_commitReal 19 = .ok (.aload_n 0, 1) := by decide +kernel
theorem d_O_commitReal_20 : decode c_O_commitReal 20 = .ok (.getfield 24, 3) := by decide +kernel
theorem d_O_commitReal_23 : decode c_O_commitReal 23 = .ok (.ifCond .eq 28, 3) := by decide +kernel
theorem d_O_commitReal_26 : decode c_O_commitReal 26 = .ok (.aload_n 0, 1) := by decide +kernel
theorem d_O_commitReal_27 : decode c_O_commitReal 27 = .ok (.getfield 9, 3) := by decide +kernel
theorem d_O_commitReal_30 : decode c_O_commitReal 30 = .ok (.aload_n 1, 1) := by decide +kernel
theorem d_O_commitReal_31 : decode c_O_commitReal 31 = .ok (.aload_n 2, 1) := by decide +kernel
theorem d_O_commitReal_32 : decode c_O_commitReal 32 = .ok (.invokevirtual 38, 3) := by decide +kernel
theorem d_O_commitReal_35 : decode c_O_commitReal 35 = .ok (.aload_n 0, 1) := by decide +kernel
theorem d_O_commitReal_36 : decode c_O_commitReal 36 = .ok (.getfield 21, 3) := by decide +kernel
theorem d_O_commitReal_39 : decode c_O_commitReal 39 = .ok (.aload_n 0, 1) := by decide +kernel
theorem d_O_commitReal_40 : decode c_O_commitReal 40 = .ok (.getfield 34, 3) := by decide +kernel
theorem d_O_commitReal_43 : decode c_O_commitReal 43 = .ok (.aload_n 1, 1) := by decide +kernel
theorem d_O_commitReal_44 : decode c_O_commitReal 44 = .ok (.aload_n 2, 1) := by decide +kernel
theorem d_O_commitReal_45 : decode c_O_commitReal 45 = .ok (.invokevirtual 42, 3) := by decide +kernel
theorem d_O_commitReal_48 : decode c_O_commitReal 48 = .ok (.goto 25, 3) := by decide +kernel
theorem d_O_commitReal_51 : decode c_O_commitReal 51 = .ok (.aload_n 0, 1) := by decide +kernel
theorem d_O_commitReal_52 : decode c_O_commitReal 52 = .ok (.getfield 9, 3) := by decide +kernel
theorem d_O_commitReal_55 : decode c_O_commitReal 55 = .ok (.aload_n 0, 1) := by decide +kernel
theorem d_O_commitReal_56 : decode c_O_commitReal 56 = .ok (.getfield 34, 3) := by decide +kernel
theorem d_O_commitReal_59 : decode c_O_commitReal 59 = .ok (.aload_n 1, 1) := by decide +kernel
theorem d_O_commitReal_60 : decode c_O_commitReal 60 = .ok (.aload_n 2, 1) := by decide +kernel
theorem d_O_commitReal_61 : decode c_O_commitReal 61 = .ok (.invokevirtual 42, 3) := by decide +kernel
theorem d_O_commitReal_64 : decode c_O_commitReal 64 = .ok (.aload_n 0, 1) := by decide +kernel
theorem d_O_commitReal_65 : decode c_O_commitReal 65 = .ok (.getfield 21, 3) := by decide +kernel
theorem d_O_commitReal_68 : decode c_O_commitReal 68 = .ok (.aload_n 1, 1) := by decide +kernel
theorem d_O_commitReal_69 : decode c_O_commitReal 69 = .ok (.aload_n 2, 1) := by decide +kernel
theorem d_O_commitReal_70 : decode c_O_commitReal 70 = .ok (.invokevirtual 38, 3) := by decide +kernel
theorem d_O_commitReal_73 : decode c_O_commitReal 73 = .ok (.return_, 1) := by decide +kernel

theorem d_A_commitSimulated_0 : decode c_A_commitSimulated 0 = .ok (.aload_n 0, 1) := by decide +kernel
theorem d_A_commitSimulated_1 : decode c_A_commitSimulated 1 = .ok (.getfield 9, 3) := by decide +kernel
theorem d_A_commitSimulated_4 : decode c_A_commitSimulated 4 = .ok (.iload_n 1, 1) := by decide +kernel
theorem d_A_commitSimulated_5 : decode c_A_commitSimulated 5 = .ok (.aload_n 2, 1) := by decide +kernel
theorem d_A_commitSimulated_6 : decode c_A_commitSimulated 6 = .ok (.aload_n 3, 1) := by decide +kernel
theorem d_A_commitSimulated_7 : decode c_A_commitSimulated 7 = .ok (.invokevirtual 28, 3) := by decide +kernel
theorem d_A_commitSimulated_10 : decode c_A_commitSimulated 10 = .ok (.aload_n 0, 1) := by decide +kernel
theorem d_A_commitSimulated_11 : decode c_A_commitSimulated 11 = .ok (.getfield 21, 3) := by decide +kernel
theorem d_A_commitSimulated_14 : decode c_A_commitSimulated 14 = .ok (.iload_n 1, 1) := by decide +kernel
theorem d_A_commitSimulated_15 : decode c_A_commitSimulated 15 = .ok (.aload_n 2, 1) := by decide +kernel
theorem d_A_commitSimulated_16 : decode c_A_commitSimulated 16 = .ok (.aload_n 3, 1) := by decide +kernel
theorem d_A_commitSimulated_17 : decode c_A_commitSimulated 17 = .ok (.invokevirtual 28, 3) := by decide +kernel
theorem d_A_commitSimulated_20 : decode c_A_commitSimulated 20 = .ok (.return_, 1) := by decide +kernel

theorem d_O_commitSimulated_0 : decode c_O_commitSimulated 0 = .ok (.aload_n 3, 1) := by decide +kernel
theorem d_O_commitSimulated_1 : decode c_O_commitSimulated 1 = .ok (.invokevirtual 28, 3) := by decide +kernel
theorem d_O_commitSimulated_4 : decode c_O_commitSimulated 4 = .ok (.istore 4, 2) := by decide +kernel
theorem d_O_commitSimulated_6 : decode c_O_commitSimulated 6 = .ok (.aload_n 0, 1) := by decide +kernel
theorem d_O_commitSimulated_7 : decode c_O_commitSimulated 7 = .ok (.getfield 9, 3) := by decide +kernel
theorem d_O_commitSimulated_10 : decode c_O_commitSimulated 10 = .ok (.iload 4, 2) := by decide +kernel
theorem d_O_commitSimulated_12 : decode c_O_commitSimulated 12 = .ok (.aload_n 2, 1) := by decide +kernel
theorem d_O_commitSimulated_13 : decode c_O_commitSimulated 13 = .ok (.aload_n 3, 1) := by decide +kernel
theorem d_O_commitSimulated_14 : decode c_O_commitSimulated 14 = .ok (.invokevirtual 42, 3) := by decide +kernel
theorem d_O_commitSimulated_17 : decode c_O_commitSimulated 17 = .ok (.aload_n 0, 1) := by decide +kernel
theorem d_O_commitSimulated_18 : decode c_O_commitSimulated 18 = .ok (.getfield 21, 3) := by decide +kernel
theorem d_O_commitSimulated_21 : decode c_O_commitSimulated 21 = .ok (.iload_n 1, 1) := by decide +kernel
theorem d_O_commitSimulated_22 : decode c_O_commitSimulated 22 = .ok (.iload 4, 2) := by decide +kernel
theorem d_O_commitSimulated_24 : decode c_O_commitSimulated 24 = .ok (.invokestatic 46, 3) := by decide +kernel
theorem d_O_commitSimulated_27 : decode c_O_commitSimulated 27 = .ok (.aload_n 2, 1) := by decide +kernel
theorem d_O_commitSimulated_28 : decode c_O_commitSimulated 28 = .ok (.aload_n 3, 1) := by decide +kernel
theorem d_O_commitSimulated_29 : decode c_O_commitSimulated 29 = .ok (.invokevirtual 42, 3) := by decide +kernel
theorem d_O_commitSimulated_32 : decode c_O_commitSimulated 32 = .ok (.return_, 1) := by decide +kernel

def C_commitReal (l : Launch) (D : va_G) (ca : Nat → ClassId) (n : Nat) (ad : Nat → Nat) (tt bb ee : Nat → Nat → Nat) (jt kt jd N : Nat) (K : Nat → Nat) (ct : Nat → va_E) (dd : Nat → Nat → Nat) (k : Nat) : Prop := (tt 0 k = 0 → Met l y_F_commitReal (Cond.code y_F_commitReal c_F_commitReal 4 none :: zT) ({ frames := 2, cells := 0, slots := 0, locals := 80 }) (va_Pc [.ref (ad (tt 3 k)), .ref (ad jt), .ref (ad jd)] (dw D ca n ad ct)) (va_Qv (fun ct1 => tW ca ad tt bb ee jt kt jd N (dc tt bb ee K k true 0 dd) ct1 ∧ fr tt kt jd N ct ct1) (dw D ca n ad) (dA n ad)) 0 0 (dA n ad)) ∧ (tt 0 k = 1 → Met l y_A_commitReal (Cond.code y_A_commitReal c_A_commitReal 3 none :: zT) (rmk k) (va_Pc [.ref (ad (tt 3 k)), .ref (ad jt), .ref (ad jd)] (dw D ca n ad ct)) (va_Qv (fun ct1 => tW ca ad tt bb ee jt kt jd N (dc tt bb ee K k true 0 dd) ct1 ∧ fr tt kt jd N ct ct1) (dw D ca n ad) (dA n ad)) 0 0 (dA n ad)) ∧ (tt 0 k = 2 → Met l y_O_commitReal (Cond.code y_O_commitReal c_O_commitReal 3 none :: zT) (rmk k) (va_Pc [.ref (ad (tt 3 k)), .ref (ad jt), .ref (ad jd)] (dw D ca n ad ct)) (va_Qv (fun ct1 => tW ca ad tt bb ee jt kt jd N (dc tt bb ee K k true 0 dd) ct1 ∧ fr tt kt jd N ct ct1) (dw D ca n ad) (dA n ad)) 0 0 (dA n ad))
def C_commitSim (l : Launch) (D : va_G) (ca : Nat → ClassId) (n : Nat) (ad : Nat → Nat) (tt bb ee : Nat → Nat → Nat) (jt kt jd N : Nat) (K : Nat → Nat) (ct : Nat → va_E) (dd : Nat → Nat → Nat) (k : Nat) (c9 : Nat) : Prop := (tt 0 k = 0 → Met l y_F_commitSimulated (Cond.code y_F_commitSimulated c_F_commitSimulated 7 none :: zT) ({ frames := 2, cells := 0, slots := 0, locals := 80 }) (va_Pc [.ref (ad (tt 3 k)), .int (nI c9), .ref (ad jt), .ref (ad jd)] (dw D ca n ad ct)) (va_Qv (fun ct1 => tW ca ad tt bb ee jt kt jd N (dc tt bb ee K k false c9 dd) ct1 ∧ fr tt kt jd N ct ct1) (dw D ca n ad) (dA n ad)) 0 0 (dA n ad)) ∧ (tt 0 k = 1 → Met l y_A_commitSimulated (Cond.code y_A_commitSimulated c_A_commitSimulated 4 none :: zT) (rmk k) (va_Pc [.ref (ad (tt 3 k)), .int (nI c9), .ref (ad jt), .ref (ad jd)] (dw D ca n ad ct)) (va_Qv (fun ct1 => tW ca ad tt bb ee jt kt jd N (dc tt bb ee K k false c9 dd) ct1 ∧ fr tt kt jd N ct ct1) (dw D ca n ad) (dA n ad)) 0 0 (dA n ad)) ∧ (tt 0 k = 2 → Met l y_O_commitSimulated (Cond.code y_O_commitSimulated c_O_commitSimulated 5 none :: zT) (rmk k) (va_Pc [.ref (ad (tt 3 k)), .int (nI c9), .ref (ad jt), .ref (ad jd)] (dw D ca n ad ct)) (va_Qv (fun ct1 => tW ca ad tt bb ee jt kt jd N (dc tt bb ee K k false c9 dd) ct1 ∧ fr tt kt jd N ct ct1) (dw D ca n ad) (dA n ad)) 0 0 (dA n ad))
section DS_commitReal
variable {p : Program} {l : Launch} {e : Env} {R : Room} {s : State} {m : MethodId} {args : Array Value} {below : List Frame} {meth : Method} {c : Code} {H H0 : Heap} {locs : List Loc} {cells slots pc nL : Nat} {ls : Array Slot} {rest : List Value} {cc : ByteArray} {Q : State → Prop} {A : Nat → Prop} {own : String} {D : va_G} {ca : Nat → ClassId} {n : Nat} {ad : Nat → Nat} {ct : Nat → va_E} {tt bb ee dd : Nat → Nat → Nat} {jt kt jd N : Nat}
set_option maxHeartbeats 4000000 in
set_option maxRecDepth 100000 in
theorem dsp_commitReal {k index : Nat} {K : Nat → Nat} (S : CallFix p m c cc nL s args zT own) (hN : zN s) (hK : va_K D zC (zty ca) s) (hP : va_P D zC (zl n ad ct) H) (hS : va_S A H0 H locs) (hA : ∀ q, dA n ad q → A q) (hTS : tS n tt bb ee jt kt jd N) (hTW : tW ca ad tt bb ee jt kt jd N dd ct) (hk : k < N) (hC : C_commitReal l D ca n ad tt bb ee jt kt jd N K ct dd k) (w1 : Cond.methodLink own index y_S_commitReal ∈ zT) (hRf : 4 + k ≤ R.frames) (hRl : 40 * (4 + k) ≤ R.locals) (hsize : ls.size = nL) (hWc : (rest.map fun v => v.category).sum ≤ 8) (hdg : decode cc pc = .ok (.invokevirtual index, 3)) (hf : cells ≤ R.cells ∧ slots ≤ R.slots)
    (kk : ∀ (ct1 : Nat → va_E) (H1 : Heap) (locs1 : List Loc), (fun ct1 => tW ca ad tt bb ee jt kt jd N (dc tt bb ee K k true 0 dd) ct1 ∧ fr tt kt jd N ct ct1) ct1 → va_P D zC (zl n ad ct1) H1 → va_S A H0 H1 locs1 → W p l e R s m args below meth c H1 locs1 cells slots Q (F0 m (pc + 3) ls rest)) : W p l e R s m args below meth c H locs cells slots Q (F0 m pc ls (.ref (ad jd) :: .ref (ad jt) :: .ref (ad (tt 3 k)) :: rest)) := by
  obtain ⟨t1, t2, t3, t4⟩ := hTS.2.2.2.2 k hk
  obtain ⟨hct, -⟩ := hTW.2.2.2 k hk
  rcases (show tt 0 k = 0 ∨ tt 0 k = 1 ∨ tt 0 k = 2 by omega) with h0 | h0 | h0
  · exact dd_cUv (As := [.ref (ad jt), .ref (ad jd)]) (k := 2) (C := R_F) (owner := R_S) (x := y_S_commitReal) S (hC.1 h0) hN w1 mm_S_S_commitReal me_F_S_commitReal_F mo_F_commitReal mi_F md_S_commitReal mc_F_commitReal (by decide +kernel) ⟨rfl, rfl⟩ ⟨(show 2 + 1 ≤ R.frames by omega), (show 8 + (4 + 11) + 80 ≤ R.locals by omega)⟩ (dd_pre hN hK hP t1 (hct.trans (ndC_0 h0)) (r := (R_F, T_F, 7)) rfl) hS hA rfl hsize rfl hWc hdg hf kk
  · exact dd_cUv (As := [.ref (ad jt), .ref (ad jd)]) (k := 2) (C := R_A) (owner := R_S) (x := y_S_commitReal) S (hC.2.1 h0) hN w1 mm_S_S_commitReal me_A_S_commitReal_A mo_A_commitReal mi_A md_S_commitReal mc_A_commitReal (by decide +kernel) ⟨rfl, rfl⟩ ⟨(show 3 + k + 1 ≤ R.frames by omega), (show 8 + (3 + 11) + 40 * (3 + k) ≤ R.locals by omega)⟩ (dd_pre hN hK hP t1 (hct.trans (ndC_1 h0)) (r := (R_A, T_A, 3)) rfl) hS hA rfl hsize rfl hWc hdg hf kk
  · exact dd_cUv (As := [.ref (ad jt), .ref (ad jd)]) (k := 2) (C := R_O) (owner := R_S) (x := y_S_commitReal) S (hC.2.2 h0) hN w1 mm_S_S_commitReal me_O_S_commitReal_O mo_O_commitReal mi_O md_S_commitReal mc_O_commitReal (by decide +kernel) ⟨rfl, rfl⟩ ⟨(show 3 + k + 1 ≤ R.frames by omega), (show 8 + (3 + 11) + 40 * (3 + k) ≤ R.locals by omega)⟩ (dd_pre hN hK hP t1 (hct.trans (ndC_2 h0)) (r := (R_O, T_O, 5)) rfl) hS hA rfl hsize rfl hWc hdg hf kk
end DS_commitReal

section DS_commitSimulated
variable {p : Program} {l : Launch} {e : Env} {R : Room} {s : State} {m : MethodId} {args : Array Value} {below : List Frame} {meth : Method} {c : Code} {H H0 : Heap} {locs : List Loc} {cells slots pc nL : Nat} {ls : Array Slot} {rest : List Value} {cc : ByteArray} {Q : State → Prop} {A : Nat → Prop} {own : String} {D : va_G} {ca : Nat → ClassId} {n : Nat} {ad : Nat → Nat} {ct : Nat → va_E} {tt bb ee dd : Nat → Nat → Nat} {jt kt jd N : Nat}
set_option maxHeartbeats 4000000 in
set_option maxRecDepth 100000 in
theorem dsp_commitSimulated {k index : Nat} {K : Nat → Nat} {c9 : Nat} (S : CallFix p m c cc nL s args zT own) (hN : zN s) (hK : va_K D zC (zty ca) s) (hP : va_P D zC (zl n ad ct) H) (hS : va_S A H0 H locs) (hA : ∀ q, dA n ad q → A q) (hTS : tS n tt bb ee jt kt jd N) (hTW : tW ca ad tt bb ee jt kt jd N dd ct) (hk : k < N) (hC : C_commitSim l D ca n ad tt bb ee jt kt jd N K ct dd k c9) (w1 : Cond.methodLink own index y_S_commitSimulated ∈ zT) (hRf : 4 + k ≤ R.frames) (hRl : 40 * (4 + k) ≤ R.locals) (hsize : ls.size = nL) (hWc : (rest.map fun v => v.category).sum ≤ 8) (hdg : decode cc pc = .ok (.invokevirtual index, 3)) (hf : cells ≤ R.cells ∧ slots ≤ R.slots)
    (kk : ∀ (ct1 : Nat → va_E) (H1 : Heap) (locs1 : List Loc), (fun ct1 => tW ca ad tt bb ee jt kt jd N (dc tt bb ee K k false c9 dd) ct1 ∧ fr tt kt jd N ct ct1) ct1 → va_P D zC (zl n ad ct1) H1 → va_S A H0 H1 locs1 → W p l e R s m args below meth c H1 locs1 cells slots Q (F0 m (pc + 3) ls rest)) : W p l e R s m args below meth c H locs cells slots Q (F0 m pc ls (.ref (ad jd) :: .ref (ad jt) :: .int (nI c9) :: .ref (ad (tt 3 k)) :: rest)) := by
  obtain ⟨t1, t2, t3, t4⟩ := hTS.2.2.2.2 k hk
  obtain ⟨hct, -⟩ := hTW.2.2.2 k hk
  rcases (show tt 0 k = 0 ∨ tt 0 k = 1 ∨ tt 0 k = 2 by omega) with h0 | h0 | h0
  · exact dd_cUv (As := [.int (nI c9), .ref (ad jt), .ref (ad jd)]) (k := 3) (C := R_F) (owner := R_S) (x := y_S_commitSimulated) S (hC.1 h0) hN w1 mm_S_S_commitSimulated me_F_S_commitSimulated_F mo_F_commitSimulated mi_F md_S_commitSimulated mc_F_commitSimulated (by decide +kernel) ⟨rfl, rfl⟩ ⟨(show 2 + 1 ≤ R.frames by omega), (show 8 + (7 + 11) + 80 ≤ R.locals by omega)⟩ (dd_pre hN hK hP t1 (hct.trans (ndC_0 h0)) (r := (R_F, T_F, 7)) rfl) hS hA rfl hsize rfl hWc hdg hf kk
  · exact dd_cUv (As := [.int (nI c9), .ref (ad jt), .ref (ad jd)]) (k := 3) (C := R_A) (owner := R_S) (x := y_S_commitSimulated) S (hC.2.1 h0) hN w1 mm_S_S_commitSimulated me_A_S_commitSimulated_A mo_A_commitSimulated mi_A md_S_commitSimulated mc_A_commitSimulated (by decide +kernel) ⟨rfl, rfl⟩ ⟨(show 3 + k + 1 ≤ R.frames by omega), (show 8 + (4 + 11) + 40 * (3 + k) ≤ R.locals by omega)⟩ (dd_pre hN hK hP t1 (hct.trans (ndC_1 h0)) (r := (R_A, T_A, 3)) rfl) hS hA rfl hsize rfl hWc hdg hf kk
  · exact dd_cUv (As := [.int (nI c9), .ref (ad jt), .ref (ad jd)]) (k := 3) (C := R_O) (owner := R_S) (x := y_S_commitSimulated) S (hC.2.2 h0) hN w1 mm_S_S_commitSimulated me_O_S_commitSimulated_O mo_O_commitSimulated mi_O md_S_commitSimulated mc_O_commitSimulated (by decide +kernel) ⟨rfl, rfl⟩ ⟨(show 3 + k + 1 ≤ R.frames by omega), (show 8 + (5 + 11) + 40 * (3 + k) ≤ R.locals by omega)⟩ (dd_pre hN hK hP t1 (hct.trans (ndC_2 h0)) (r := (R_O, T_O, 5)) rfl) hS hA rfl hsize rfl hWc hdg hf kk
end DS_commitSimulated

theorem met_cv {l : Launch} {y : MethodName} {ws : List Cond} {rm : Room} {Pc : Array Value → State → Prop} {B : (Nat → va_E) → State → Prop} {A free : Nat → Prop} {mc ms : Nat} {p1 p2 : (Nat → va_E) → Prop} (h : Met l y ws rm Pc (va_Qv p1 B A) mc ms free) (hp : ∀ u, p1 u → p2 u) : Met l y ws rm Pc (va_Qv p2 B A) mc ms free := by
  intro p e h1 h2 h3 s m args below h4 h5 h6 h7
  obtain ⟨n, o, a1, a2, a3, ⟨⟨u, b1, b2, b3⟩, b4⟩, a4⟩ := h p e h1 h2 h3 s m args below h4 h5 h6 h7
  exact ⟨n, o, a1, a2, a3, ⟨⟨u, b1, hp u b2, b3⟩, b4⟩, a4⟩

set_option maxHeartbeats 4000000 in
set_option maxRecDepth 100000 in
theorem commit_all (l : Launch) {D : va_G} {ca : Nat → ClassId} {n : Nat} {ad : Nat → Nat} {tt bb ee : Nat → Nat → Nat} {jt kt jd N : Nat} (hI : dI n ad) (hTS : tS n tt bb ee jt kt jd N) (K : Nat → Nat) (hK2 : ∀ k, k < N → K k < 2) : ∀ k, k < N → ∀ (ct : Nat → va_E) (dd : Nat → Nat → Nat), tW ca ad tt bb ee jt kt jd N dd ct → hB tt N K dd → C_commitReal l D ca n ad tt bb ee jt kt jd N K ct dd k ∧ ∀ c9, c9 < 5003 → C_commitSim l D ca n ad tt bb ee jt kt jd N K ct dd k c9 := by
  intro k
  induction k using Nat.strongRecOn with
  | ind k ih =>
    intro hk ct dd hTW hBd
    obtain ⟨t1, t2, t3, t4⟩ := hTS.2.2.2.2 k hk
    obtain ⟨hct, hlf⟩ := hTW.2.2.2 k hk
    refine ⟨⟨fun h0 => ?_, fun h0 => ?_, fun h0 => ?_⟩, fun c9 hc9 => ⟨fun h0 => ?_, fun h0 => ?_, fun h0 => ?_⟩⟩
    · obtain ⟨u1, u2, u3, u4, u5⟩ := t4 h0
      have hM := k_commitRealF l D ca n ad ct hI (tt 3 k) (tt 4 k) (tt 5 k) (tt 6 k) (bb k) (ee k) (dd 0 k) (dd 1 k) (dd 2 k) (dd 3 k) t1 u1 u2 u3 (hct.trans (ndC_0 h0)) (hlf h0).1 (hlf h0).2 u4 u5 jt kt (dd 6) hTS.1 hTS.2.1 hTW.1 hTW.2.1 jd (dd 7 0) hTS.2.2.1 hTW.2.2.1 (hBd.1 k hk h0)
      obtain ⟨a1, a2⟩ := tW_jd hTS hTW (dr (dd 7 0))
      obtain ⟨b1, b2⟩ := tW_nd hTS a1 hk (d1 := zs (zs dd 7 0 (dr (dd 7 0))) 3 k (dv (dr (dd 7 0)))) (fun j q hq => by rw [zs_at, if_neg (by omega)]) (e := .inr (4, [.int 1, .ref (ad (tt 4 k)), .ref (ad (tt 5 k)), .int (nI (dd 0 k)), .int (nI (dd 1 k)), .int (nI (dd 2 k)), .int (nI (dv (dr (dd 7 0))))])) (by rw [ndC_0 h0]; simp [zs_at])
      obtain ⟨c1, c2⟩ := tW_kt hTS b1 (ftR (bb k) (dd 6) (dd 0 k) (tt 6 k) (dv (dr (dd 7 0))))
      have e1 : ∀ ct1, ct1 = va_up (va_up (va_up ct jd (.inr (6, [.int (nI (dr (dd 7 0)))]))) (tt 3 k) (.inr (4, [.int 1, .ref (ad (tt 4 k)), .ref (ad (tt 5 k)), .int (nI (dd 0 k)), .int (nI (dd 1 k)), .int (nI (dd 2 k)), .int (nI (dv (dr (dd 7 0))))]))) kt (.inl (ca 0, 32, .inl (zf (ftR (bb k) (dd 6) (dd 0 k) (tt 6 k) (dv (dr (dd 7 0))))))) → tW ca ad tt bb ee jt kt jd N (dc tt bb ee K k true 0 dd) ct1 ∧ fr tt kt jd N ct ct1 := fun ct1 q => by
        rw [q, dc_leaf h0]
        exact ⟨c1, fr_tr (fr_tr a2 b2) c2⟩
      exact met_cv hM e1
    · obtain ⟨hlk, hrk⟩ := t3 (by rw [h0]; decide)
      refine Met.ofW (cc := c_A_commitReal) (maxL := 3) (ret := none) (by decide) rfl ?_
      intro p e s m args below meth c s₁ B hml hv
      obtain ⟨rfl, hN, hK, hP⟩ := hv
      have hx := B.exec
      have hb := B.bytes
      have hr := B.returns
      have hts0 := atoms_spec (ws := Cond.code y_A_commitReal c_A_commitReal 3 none :: zT) B.pre
      have hts := fun w h => hts0 w (List.mem_cons_of_mem _ h)
      have hown : s.vm.findClass R_A = some m.cls := findClass_of_methodNamed B.named
      have hlocks := B.notSynchronized
      have hD := dI_D hI
      have hS : va_S (dA n ad) s.heap s.heap [] := va_S.rf
      have hAA : ∀ q, dA n ad q → dA n ad q := fun _ h => h
      have hl := lv_entry ([.ref (ad (tt 3 k)), .ref (ad jt), .ref (ad jd)]) (n := 3) (Nat.le_of_ble_eq_true rfl)
      rw [lg_entry_eq]
      generalize (lg_sl ([.ref (ad (tt 3 k)), .ref (ad jt), .ref (ad jd)]) ++ List.replicate (3 - (lg_sl ([.ref (ad (tt 3 k)), .ref (ad jt), .ref (ad jd)])).length) Slot.unset).toArray = ls at hl ⊢
      have hl : lv_has ls 3 [(0, .ref (ad (tt 3 k))), (1, .ref (ad jt)), (2, .ref (ad jd))] := hl
      have c0 := (hTW.2.2.2 k hk).1.trans (ndC_1 h0)
      have c5 := hTW.2.2.1
      refine lv_aload_n hx hb d_A_commitReal_0 rfl (lv_at hl 0 rfl) ?_
      refine zz_get (j := tt 3 k) (ci := 2) (C := R_A) (T := T_A) (N := 3) hx hb hts in_A hown hK hP t1 c0 rfl 0 (by decide) (hts _ mf_A_9) (fun x h => u_same (hts _ mF_A_left) x h) (v := .ref (ad (tt 3 (tt 1 k)))) rfl d_A_commitReal_1 ?_
      refine lv_aload_n hx hb d_A_commitReal_4 rfl (lv_at hl 1 rfl) ?_
      refine lv_aload_n hx hb d_A_commitReal_5 rfl (lv_at hl 2 rfl) ?_
      refine dsp_commitReal (k := tt 1 k) (index := 24) (rest := []) ⟨hx, hb, hml, hown, hts⟩ hN hK hP hS hAA hTS hTW (by omega) ((ih (tt 1 k) hlk (by omega) ct dd hTW hBd).1) mk_A_24 (show 4 + tt 1 k ≤ 3 + k by omega) (show 40 * (4 + tt 1 k) ≤ 40 * (3 + k) by omega) hl.1 (Nat.le_of_ble_eq_true rfl) d_A_commitReal_6 ⟨Nat.zero_le _, Nat.zero_le _⟩ (fun ct1 H locs hct1 hP hS => ?_)
      obtain ⟨hTW1, hfr1⟩ := hct1
      obtain ⟨e1, he1⟩ : ∃ d, d = dc tt bb ee K (tt 1 k) true 0 dd := ⟨_, rfl⟩
      rw [← he1] at hTW1
      have hBd1 : hB tt N K e1 := hB_of hBd (fun i => by rw [he1]; exact dc_keep _ _ _ _ _ _ (Or.inl (by decide))) (fun i => by rw [he1]; exact dc_keep _ _ _ _ _ _ (Or.inl (by decide)))
      have hfr1 := fr_tr fr_rf hfr1
      have c0 := (hTW1.2.2.2 k hk).1.trans (ndC_1 h0)
      have c5 := hTW1.2.2.1
      refine lv_aload_n hx hb d_A_commitReal_9 rfl (lv_at hl 0 rfl) ?_
      refine zz_get (j := tt 3 k) (ci := 2) (C := R_A) (T := T_A) (N := 3) hx hb hts in_A hown hK hP t1 c0 rfl 1 (by decide) (hts _ mf_A_21) (fun x h => u_same (hts _ mF_A_right) x h) (v := .ref (ad (tt 3 (tt 2 k)))) rfl d_A_commitReal_10 ?_
      refine lv_aload_n hx hb d_A_commitReal_13 rfl (lv_at hl 1 rfl) ?_
      refine lv_aload_n hx hb d_A_commitReal_14 rfl (lv_at hl 2 rfl) ?_
      refine dsp_commitReal (k := tt 2 k) (index := 24) (rest := []) ⟨hx, hb, hml, hown, hts⟩ hN hK hP hS hAA hTS hTW1 (by omega) ((ih (tt 2 k) hrk (by omega) ct1 e1 hTW1 hBd1).1) mk_A_24 (show 4 + tt 2 k ≤ 3 + k by omega) (show 40 * (4 + tt 2 k) ≤ 40 * (3 + k) by omega) hl.1 (Nat.le_of_ble_eq_true rfl) d_A_commitReal_15 ⟨Nat.zero_le _, Nat.zero_le _⟩ (fun ct2 H locs hct2 hP hS => ?_)
      obtain ⟨hTW2, hfr2⟩ := hct2
      obtain ⟨e2, he2⟩ : ∃ d, d = dc tt bb ee K (tt 2 k) true 0 e1 := ⟨_, rfl⟩
      rw [← he2] at hTW2
      have hBd2 : hB tt N K e2 := hB_of hBd1 (fun i => by rw [he2]; exact dc_keep _ _ _ _ _ _ (Or.inl (by decide))) (fun i => by rw [he2]; exact dc_keep _ _ _ _ _ _ (Or.inl (by decide)))
      have hfr2 := fr_tr hfr1 hfr2
      have c0 := (hTW2.2.2.2 k hk).1.trans (ndC_1 h0)
      have c5 := hTW2.2.2.1
      exact W.vret hx hb hr (fun t ht hW => ⟨⟨ct2, rfl, ⟨by rw [dc_and h0 hlk hrk, ← he1, ← he2]; exact hTW2, hfr2⟩, zN_warm hW hN, va_K.moved hW.alike hK, by rw [ht]; exact hP⟩, hS.F ht⟩) hS.2.2 d_A_commitReal_18
    · obtain ⟨hlk, hrk⟩ := t3 (by rw [h0]; decide)
      have kb := hK2 (tt 1 k) (by omega)
      refine Met.ofW (cc := c_O_commitReal) (maxL := 3) (ret := none) (by decide) rfl ?_
      intro p e s m args below meth c s₁ B hml hv
      obtain ⟨rfl, hN, hK, hP⟩ := hv
      have hx := B.exec
      have hb := B.bytes
      have hr := B.returns
      have hts0 := atoms_spec (ws := Cond.code y_O_commitReal c_O_commitReal 3 none :: zT) B.pre
      have hts := fun w h => hts0 w (List.mem_cons_of_mem _ h)
      have hown : s.vm.findClass R_O = some m.cls := findClass_of_methodNamed B.named
      have hlocks := B.notSynchronized
      have hD := dI_D hI
      have hS : va_S (dA n ad) s.heap s.heap [] := va_S.rf
      have hAA : ∀ q, dA n ad q → dA n ad q := fun _ h => h
      have hl := lv_entry ([.ref (ad (tt 3 k)), .ref (ad jt), .ref (ad jd)]) (n := 3) (Nat.le_of_ble_eq_true rfl)
      rw [lg_entry_eq]
      generalize (lg_sl ([.ref (ad (tt 3 k)), .ref (ad jt), .ref (ad jd)]) ++ List.replicate (3 - (lg_sl ([.ref (ad (tt 3 k)), .ref (ad jt), .ref (ad jd)])).length) Slot.unset).toArray = ls at hl ⊢
      have hl : lv_has ls 3 [(0, .ref (ad (tt 3 k))), (1, .ref (ad jt)), (2, .ref (ad jd))] := hl
      have c0 := (hTW.2.2.2 k hk).1.trans (ndC_2 h0)
      have c5 := hTW.2.2.1
      refine lv_aload_n hx hb d_O_commitReal_0 rfl (lv_at hl 0 rfl) ?_
      refine lv_aload_n hx hb d_O_commitReal_1 rfl (lv_at hl 0 rfl) ?_
      refine zz_get (j := tt 3 k) (ci := 3) (C := R_O) (T := T_O) (N := 5) hx hb hts in_O hown hK hP t1 c0 rfl 0 (by decide) (hts _ mf_O_9) (fun x h => u_same (hts _ mF_O_left) x h) (v := .ref (ad (tt 3 (tt 1 k)))) rfl d_O_commitReal_2 ?_
      refine dsp_isKnown (k := tt 1 k) (index := 15) (rest := [.ref (ad (tt 3 k))]) ⟨hx, hb, hml, hown, hts⟩ hN hK hP hTS hTW (by omega) (known_all l hTS hTW K hBd.2 hK2 (tt 1 k) (by omega)) mk_O_15 (show 4 + tt 1 k ≤ 3 + k by omega) (show 40 * (4 + tt 1 k) ≤ 40 * (3 + k) by omega) hl.1 (Nat.le_of_ble_eq_true rfl) d_O_commitReal_5 ⟨Nat.zero_le _, Nat.zero_le _⟩ ?_
      refine zz_put (j := tt 3 k) (ci := 3) (C := R_O) (T := T_O) (N := 5) (v := .int (nI (K (tt 1 k)))) (ty := ft_O 3) hx hb hts in_O ft_O ft_O_ok fn_O hown hK hP hD hS t1 c0 rfl 3 (by decide) (hts _ mf_O_24) (fun _ h => h) rfl (ft_O_ok 3 (by decide)) (zn_narb kb) (zn_fitb kb) (Nat.le_of_ble_eq_true rfl) d_O_commitReal_8 (fun H locs hP hS => ?_)
      have hP : va_P D zC (zl n ad (va_up ct (tt 3 k) (.inr (3, [.ref (ad (tt 3 (tt 1 k))), .ref (ad (tt 3 (tt 2 k))), .int (nI (tt 7 k)), .int (nI (K (tt 1 k))), .int (nI (dd 5 k))])))) H := hP
      obtain ⟨ct1, hct1⟩ : ∃ c, c = va_up ct (tt 3 k) (.inr (3, [.ref (ad (tt 3 (tt 1 k))), .ref (ad (tt 3 (tt 2 k))), .int (nI (tt 7 k)), .int (nI (K (tt 1 k))), .int (nI (dd 5 k))])) := ⟨_, rfl⟩
      rw [← hct1] at hP
      obtain ⟨e1, he1⟩ : ∃ d, d = zs dd 4 k (K (tt 1 k)) := ⟨_, rfl⟩
      have hTF := tW_nd hTS hTW hk (d1 := e1) (fun j q hq => by rw [he1, zs_at, if_neg (by omega)]) (e := .inr (3, [.ref (ad (tt 3 (tt 1 k))), .ref (ad (tt 3 (tt 2 k))), .int (nI (tt 7 k)), .int (nI (K (tt 1 k))), .int (nI (dd 5 k))])) (by rw [ndC_2 h0, he1]; simp [zs_at])
      rw [← hct1] at hTF
      obtain ⟨hTW1, hfr1⟩ := hTF
      have hBd1 : hB tt N K e1 := hB_of hBd (fun i => by rw [he1]; exact zs_nj _ _ _ _ (by decide)) (fun i => by rw [he1]; exact zs_nj _ _ _ _ (by decide))
      have hfr1 := fr_tr fr_rf hfr1
      have c0 := (hTW1.2.2.2 k hk).1.trans (ndC_2 h0)
      have c5 := hTW1.2.2.1
      refine lv_aload_n hx hb d_O_commitReal_11 rfl (lv_at hl 0 rfl) ?_
      refine lv_aload_n hx hb d_O_commitReal_12 rfl (lv_at hl 2 rfl) ?_
      refine dd_ci (index := 28) (k := 0) (As := []) (rest := [.ref (ad (tt 3 k))]) ⟨hx, hb, hml, hown, hts⟩ (k_draw l D ca n ad ct1 hI jd (e1 7 0) hTS.2.2.1 c5) mk_O_28 mo_G_draw me_G_G_draw_G mi_G mc_G_draw (by decide +kernel) ⟨rfl, rfl⟩ ⟨(by show 1 + 1 ≤ 3 + k; omega), (by show 8 + (_ + 11) + 40 ≤ 40 * (3 + k); omega)⟩ (dd_pre hN hK hP (j := jd) hTS.2.2.1 c5 (r := (R_G, T_G, 1)) rfl) hS hAA rfl hl.1 rfl (Nat.le_of_ble_eq_true rfl) d_O_commitReal_13 ⟨Nat.zero_le _, Nat.zero_le _⟩ (fun r ct2 H locs hct2 hP hS => ?_)
      obtain ⟨hr1, hctx⟩ := hct2
      obtain ⟨d0, hd0⟩ : ∃ d, dr (e1 7 0) = d := ⟨_, rfl⟩
      rw [hd0] at hr1 hctx
      obtain ⟨x0, hx0⟩ : ∃ x, dv d0 = x := ⟨_, rfl⟩
      have hx1 : x0 < 5003 := by rw [← hx0]; exact dv_lt _
      rw [hx0] at hr1
      subst hr1
      obtain ⟨hTW2, hfr2⟩ := tW_jd hTS hTW1 d0
      rw [← hctx] at hTW2 hfr2
      obtain ⟨e2, he2⟩ : ∃ d, d = zs e1 7 0 d0 := ⟨_, rfl⟩
      rw [← he2] at hTW2
      have hBd2 : hB tt N K e2 := hB_of hBd1 (fun i => by rw [he2]; exact zs_nj _ _ _ _ (by decide)) (fun i => by rw [he2]; exact zs_nj _ _ _ _ (by decide))
      have hfr2 := fr_tr hfr1 hfr2
      have c0 := (hTW2.2.2.2 k hk).1.trans (ndC_2 h0)
      have c5 := hTW2.2.2.1
      refine zz_put (j := tt 3 k) (ci := 3) (C := R_O) (T := T_O) (N := 5) (v := .int (nI x0)) (ty := ft_O 4) hx hb hts in_O ft_O ft_O_ok fn_O hown hK hP hD hS t1 c0 rfl 4 (by decide) (hts _ mf_O_34) (fun _ h => h) rfl (ft_O_ok 4 (by decide)) rfl rfl (Nat.le_of_ble_eq_true rfl) d_O_commitReal_16 (fun H locs hP hS => ?_)
      have hP : va_P D zC (zl n ad (va_up ct2 (tt 3 k) (.inr (3, [.ref (ad (tt 3 (tt 1 k))), .ref (ad (tt 3 (tt 2 k))), .int (nI (tt 7 k)), .int (nI (e2 4 k)), .int (nI x0)])))) H := hP
      obtain ⟨ct3, hct3⟩ : ∃ c, c = va_up ct2 (tt 3 k) (.inr (3, [.ref (ad (tt 3 (tt 1 k))), .ref (ad (tt 3 (tt 2 k))), .int (nI (tt 7 k)), .int (nI (e2 4 k)), .int (nI x0)])) := ⟨_, rfl⟩
      rw [← hct3] at hP
      obtain ⟨e3, he3⟩ : ∃ d, d = zs e2 5 k x0 := ⟨_, rfl⟩
      have hTF := tW_nd hTS hTW2 hk (d1 := e3) (fun j q hq => by rw [he3, zs_at, if_neg (by omega)]) (e := .inr (3, [.ref (ad (tt 3 (tt 1 k))), .ref (ad (tt 3 (tt 2 k))), .int (nI (tt 7 k)), .int (nI (e2 4 k)), .int (nI x0)])) (by rw [ndC_2 h0, he3]; simp [zs_at])
      rw [← hct3] at hTF
      obtain ⟨hTW3, hfr3⟩ := hTF
      have hBd3 : hB tt N K e3 := hB_of hBd2 (fun i => by rw [he3]; exact zs_nj _ _ _ _ (by decide)) (fun i => by rw [he3]; exact zs_nj _ _ _ _ (by decide))
      have hfr3 := fr_tr hfr2 hfr3
      have c0 := (hTW3.2.2.2 k hk).1.trans (ndC_2 h0)
      have c5 := hTW3.2.2.1
      refine lv_aload_n hx hb d_O_commitReal_19 rfl (lv_at hl 0 rfl) ?_
      refine zz_get (j := tt 3 k) (ci := 3) (C := R_O) (T := T_O) (N := 5) hx hb hts in_O hown hK hP t1 c0 rfl 3 (by decide) (hts _ mf_O_24) (fun _ h => h) (v := .int (nI (e3 4 k))) rfl d_O_commitReal_20 ?_
      refine zz_as (y := nI (K (tt 1 k))) (by rw [he3, he2, he1]; simp [zs_at]) ?_
      refine lv_if_eq (tgt := 51) hx hb d_O_commitReal_23 rfl (fun h23 => ?_) (fun h23 => ?_)
      · skip
        have k1 : ¬ K (tt 1 k) = 1 := by have := b_z kb h23; omega
        refine lv_aload_n hx hb d_O_commitReal_51 rfl (lv_at hl 0 rfl) ?_
        refine zz_get (j := tt 3 k) (ci := 3) (C := R_O) (T := T_O) (N := 5) hx hb hts in_O hown hK hP t1 c0 rfl 0 (by decide) (hts _ mf_O_9) (fun x h => u_same (hts _ mF_O_left) x h) (v := .ref (ad (tt 3 (tt 1 k)))) rfl d_O_commitReal_52 ?_
        refine lv_aload_n hx hb d_O_commitReal_55 rfl (lv_at hl 0 rfl) ?_
        refine zz_get (j := tt 3 k) (ci := 3) (C := R_O) (T := T_O) (N := 5) hx hb hts in_O hown hK hP t1 c0 rfl 4 (by decide) (hts _ mf_O_34) (fun _ h => h) (v := .int (nI (e3 5 k))) rfl d_O_commitReal_56 ?_
        refine zz_as (y := nI x0) (by rw [he3]; simp [zs_at]) ?_
        refine lv_aload_n hx hb d_O_commitReal_59 rfl (lv_at hl 1 rfl) ?_
        refine lv_aload_n hx hb d_O_commitReal_60 rfl (lv_at hl 2 rfl) ?_
        refine dsp_commitSimulated (k := tt 1 k) (index := 42) (rest := []) ⟨hx, hb, hml, hown, hts⟩ hN hK hP hS hAA hTS hTW3 (by omega) ((ih (tt 1 k) hlk (by omega) ct3 e3 hTW3 hBd3).2 x0 hx1) mk_O_42 (show 4 + tt 1 k ≤ 3 + k by omega) (show 40 * (4 + tt 1 k) ≤ 40 * (3 + k) by omega) hl.1 (Nat.le_of_ble_eq_true rfl) d_O_commitReal_61 ⟨Nat.zero_le _, Nat.zero_le _⟩ (fun ct4 H locs hct4 hP hS => ?_)
        obtain ⟨hTW4, hfr4⟩ := hct4
        obtain ⟨e4, he4⟩ : ∃ d, d = dc tt bb ee K (tt 1 k) false x0 e3 := ⟨_, rfl⟩
        rw [← he4] at hTW4
        have hBd4 : hB tt N K e4 := hB_of hBd3 (fun i => by rw [he4]; exact dc_keep _ _ _ _ _ _ (Or.inl (by decide))) (fun i => by rw [he4]; exact dc_keep _ _ _ _ _ _ (Or.inl (by decide)))
        have hfr4 := fr_tr hfr3 hfr4
        have c0 := (hTW4.2.2.2 k hk).1.trans (ndC_2 h0)
        have c5 := hTW4.2.2.1
        refine lv_aload_n hx hb d_O_commitReal_64 rfl (lv_at hl 0 rfl) ?_
        refine zz_get (j := tt 3 k) (ci := 3) (C := R_O) (T := T_O) (N := 5) hx hb hts in_O hown hK hP t1 c0 rfl 1 (by decide) (hts _ mf_O_21) (fun x h => u_same (hts _ mF_O_right) x h) (v := .ref (ad (tt 3 (tt 2 k)))) rfl d_O_commitReal_65 ?_
        refine lv_aload_n hx hb d_O_commitReal_68 rfl (lv_at hl 1 rfl) ?_
        refine lv_aload_n hx hb d_O_commitReal_69 rfl (lv_at hl 2 rfl) ?_
        refine dsp_commitReal (k := tt 2 k) (index := 38) (rest := []) ⟨hx, hb, hml, hown, hts⟩ hN hK hP hS hAA hTS hTW4 (by omega) ((ih (tt 2 k) hrk (by omega) ct4 e4 hTW4 hBd4).1) mk_O_38 (show 4 + tt 2 k ≤ 3 + k by omega) (show 40 * (4 + tt 2 k) ≤ 40 * (3 + k) by omega) hl.1 (Nat.le_of_ble_eq_true rfl) d_O_commitReal_70 ⟨Nat.zero_le _, Nat.zero_le _⟩ (fun ct5 H locs hct5 hP hS => ?_)
        obtain ⟨hTW5, hfr5⟩ := hct5
        obtain ⟨e5, he5⟩ : ∃ d, d = dc tt bb ee K (tt 2 k) true 0 e4 := ⟨_, rfl⟩
        rw [← he5] at hTW5
        have hBd5 : hB tt N K e5 := hB_of hBd4 (fun i => by rw [he5]; exact dc_keep _ _ _ _ _ _ (Or.inl (by decide))) (fun i => by rw [he5]; exact dc_keep _ _ _ _ _ _ (Or.inl (by decide)))
        have hfr5 := fr_tr hfr4 hfr5
        have c0 := (hTW5.2.2.2 k hk).1.trans (ndC_2 h0)
        have c5 := hTW5.2.2.1
        have q1 : e1 7 0 = dd 7 0 := by rw [he1]; simp [zs_at]
        exact W.vret hx hb hr (fun t ht hW => ⟨⟨ct5, rfl, ⟨by rw [dc_orR h0 hlk hrk k1, ← q1, hd0, hx0, ← he1, ← he2, ← he3, ← he4, ← he5]; exact hTW5, hfr5⟩, zN_warm hW hN, va_K.moved hW.alike hK, by rw [ht]; exact hP⟩, hS.F ht⟩) hS.2.2 d_O_commitReal_73
      · skip
        have k1 : K (tt 1 k) = 1 := b_o kb h23
        refine lv_aload_n hx hb d_O_commitReal_26 rfl (lv_at hl 0 rfl) ?_
        refine zz_get (j := tt 3 k) (ci := 3) (C := R_O) (T := T_O) (N := 5) hx hb hts in_O hown hK hP t1 c0 rfl 0 (by decide) (hts _ mf_O_9) (fun x h => u_same (hts _ mF_O_left) x h) (v := .ref (ad (tt 3 (tt 1 k)))) rfl d_O_commitReal_27 ?_
        refine lv_aload_n hx hb d_O_commitReal_30 rfl (lv_at hl 1 rfl) ?_
        refine lv_aload_n hx hb d_O_commitReal_31 rfl (lv_at hl 2 rfl) ?_
        refine dsp_commitReal (k := tt 1 k) (index := 38) (rest := []) ⟨hx, hb, hml, hown, hts⟩ hN hK hP hS hAA hTS hTW3 (by omega) ((ih (tt 1 k) hlk (by omega) ct3 e3 hTW3 hBd3).1) mk_O_38 (show 4 + tt 1 k ≤ 3 + k by omega) (show 40 * (4 + tt 1 k) ≤ 40 * (3 + k) by omega) hl.1 (Nat.le_of_ble_eq_true rfl) d_O_commitReal_32 ⟨Nat.zero_le _, Nat.zero_le _⟩ (fun ct4 H locs hct4 hP hS => ?_)
        obtain ⟨hTW4, hfr4⟩ := hct4
        obtain ⟨e4, he4⟩ : ∃ d, d = dc tt bb ee K (tt 1 k) true 0 e3 := ⟨_, rfl⟩
        rw [← he4] at hTW4
        have hBd4 : hB tt N K e4 := hB_of hBd3 (fun i => by rw [he4]; exact dc_keep _ _ _ _ _ _ (Or.inl (by decide))) (fun i => by rw [he4]; exact dc_keep _ _ _ _ _ _ (Or.inl (by decide)))
        have hfr4 := fr_tr hfr3 hfr4
        have c0 := (hTW4.2.2.2 k hk).1.trans (ndC_2 h0)
        have c5 := hTW4.2.2.1
        refine lv_aload_n hx hb d_O_commitReal_35 rfl (lv_at hl 0 rfl) ?_
        refine zz_get (j := tt 3 k) (ci := 3) (C := R_O) (T := T_O) (N := 5) hx hb hts in_O hown hK hP t1 c0 rfl 1 (by decide) (hts _ mf_O_21) (fun x h => u_same (hts _ mF_O_right) x h) (v := .ref (ad (tt 3 (tt 2 k)))) rfl d_O_commitReal_36 ?_
        refine lv_aload_n hx hb d_O_commitReal_39 rfl (lv_at hl 0 rfl) ?_
        refine zz_get (j := tt 3 k) (ci := 3) (C := R_O) (T := T_O) (N := 5) hx hb hts in_O hown hK hP t1 c0 rfl 4 (by decide) (hts _ mf_O_34) (fun _ h => h) (v := .int (nI (e4 5 k))) rfl d_O_commitReal_40 ?_
        refine zz_as (y := nI x0) (by rw [he4, dc_keep _ _ _ _ _ _ (Or.inr ⟨by decide, hlk⟩), he3]; simp [zs_at]) ?_
        refine lv_aload_n hx hb d_O_commitReal_43 rfl (lv_at hl 1 rfl) ?_
        refine lv_aload_n hx hb d_O_commitReal_44 rfl (lv_at hl 2 rfl) ?_
        refine dsp_commitSimulated (k := tt 2 k) (index := 42) (rest := []) ⟨hx, hb, hml, hown, hts⟩ hN hK hP hS hAA hTS hTW4 (by omega) ((ih (tt 2 k) hrk (by omega) ct4 e4 hTW4 hBd4).2 x0 hx1) mk_O_42 (show 4 + tt 2 k ≤ 3 + k by omega) (show 40 * (4 + tt 2 k) ≤ 40 * (3 + k) by omega) hl.1 (Nat.le_of_ble_eq_true rfl) d_O_commitReal_45 ⟨Nat.zero_le _, Nat.zero_le _⟩ (fun ct5 H locs hct5 hP hS => ?_)
        obtain ⟨hTW5, hfr5⟩ := hct5
        obtain ⟨e5, he5⟩ : ∃ d, d = dc tt bb ee K (tt 2 k) false x0 e4 := ⟨_, rfl⟩
        rw [← he5] at hTW5
        have hBd5 : hB tt N K e5 := hB_of hBd4 (fun i => by rw [he5]; exact dc_keep _ _ _ _ _ _ (Or.inl (by decide))) (fun i => by rw [he5]; exact dc_keep _ _ _ _ _ _ (Or.inl (by decide)))
        have hfr5 := fr_tr hfr4 hfr5
        have c0 := (hTW5.2.2.2 k hk).1.trans (ndC_2 h0)
        have c5 := hTW5.2.2.1
        refine lv_goto (tgt := 73) hx hb d_O_commitReal_48 rfl ?_
        have q1 : e1 7 0 = dd 7 0 := by rw [he1]; simp [zs_at]
        exact W.vret hx hb hr (fun t ht hW => ⟨⟨ct5, rfl, ⟨by rw [dc_orL h0 hlk hrk k1, ← q1, hd0, hx0, ← he1, ← he2, ← he3, ← he4, ← he5]; exact hTW5, hfr5⟩, zN_warm hW hN, va_K.moved hW.alike hK, by rw [ht]; exact hP⟩, hS.F ht⟩) hS.2.2 d_O_commitReal_73
    · obtain ⟨u1, u2, u3, u4, u5⟩ := t4 h0
      have hM := k_commitSimF l D ca n ad ct hI (tt 3 k) (tt 4 k) (tt 5 k) (tt 6 k) (bb k) (ee k) (dd 0 k) (dd 1 k) (dd 2 k) (dd 3 k) t1 u1 u2 u3 (hct.trans (ndC_0 h0)) (hlf h0).1 (hlf h0).2 u4 u5 jt kt (dd 6) hTS.1 hTS.2.1 hTW.1 hTW.2.1 jd (dd 7 0) hTS.2.2.1 hTW.2.2.1 (hBd.1 k hk h0) c9 hc9
      obtain ⟨a1, a2⟩ := tW_jd hTS hTW (dr (dd 7 0))
      obtain ⟨c1, c2⟩ := tW_kt hTS a1 (ftS (bb k) (ee k) (dd 6) (dd 0 k) (tt 6 k) c9 (dv (dr (dd 7 0))))
      have e1 : ∀ ct1, ct1 = va_up (va_up ct jd (.inr (6, [.int (nI (dr (dd 7 0)))]))) kt (.inl (ca 0, 32, .inl (zf (ftS (bb k) (ee k) (dd 6) (dd 0 k) (tt 6 k) c9 (dv (dr (dd 7 0))))))) → tW ca ad tt bb ee jt kt jd N (dc tt bb ee K k false c9 dd) ct1 ∧ fr tt kt jd N ct ct1 := fun ct1 q => by
        rw [q, dc_leaf h0]
        exact ⟨c1, fr_tr a2 c2⟩
      exact met_cv hM e1
    · obtain ⟨hlk, hrk⟩ := t3 (by rw [h0]; decide)
      refine Met.ofW (cc := c_A_commitSimulated) (maxL := 4) (ret := none) (by decide) rfl ?_
      intro p e s m args below meth c s₁ B hml hv
      obtain ⟨rfl, hN, hK, hP⟩ := hv
      have hx := B.exec
      have hb := B.bytes
      have hr := B.returns
      have hts0 := atoms_spec (ws := Cond.code y_A_commitSimulated c_A_commitSimulated 4 none :: zT) B.pre
      have hts := fun w h => hts0 w (List.mem_cons_of_mem _ h)
      have hown : s.vm.findClass R_A = some m.cls := findClass_of_methodNamed B.named
      have hlocks := B.notSynchronized
      have hD := dI_D hI
      have hS : va_S (dA n ad) s.heap s.heap [] := va_S.rf
      have hAA : ∀ q, dA n ad q → dA n ad q := fun _ h => h
      have hl := lv_entry ([.ref (ad (tt 3 k)), .int (nI c9), .ref (ad jt), .ref (ad jd)]) (n := 4) (Nat.le_of_ble_eq_true rfl)
      rw [lg_entry_eq]
      generalize (lg_sl ([.ref (ad (tt 3 k)), .int (nI c9), .ref (ad jt), .ref (ad jd)]) ++ List.replicate (4 - (lg_sl ([.ref (ad (tt 3 k)), .int (nI c9), .ref (ad jt), .ref (ad jd)])).length) Slot.unset).toArray = ls at hl ⊢
      have hl : lv_has ls 4 [(0, .ref (ad (tt 3 k))), (1, .int (nI c9)), (2, .ref (ad jt)), (3, .ref (ad jd))] := hl
      have c0 := (hTW.2.2.2 k hk).1.trans (ndC_1 h0)
      have c5 := hTW.2.2.1
      refine lv_aload_n hx hb d_A_commitSimulated_0 rfl (lv_at hl 0 rfl) ?_
      refine zz_get (j := tt 3 k) (ci := 2) (C := R_A) (T := T_A) (N := 3) hx hb hts in_A hown hK hP t1 c0 rfl 0 (by decide) (hts _ mf_A_9) (fun x h => u_same (hts _ mF_A_left) x h) (v := .ref (ad (tt 3 (tt 1 k)))) rfl d_A_commitSimulated_1 ?_
      refine lv_iload_n hx hb d_A_commitSimulated_4 rfl (lv_at hl 1 rfl) ?_
      refine lv_aload_n hx hb d_A_commitSimulated_5 rfl (lv_at hl 2 rfl) ?_
      refine lv_aload_n hx hb d_A_commitSimulated_6 rfl (lv_at hl 3 rfl) ?_
      refine dsp_commitSimulated (k := tt 1 k) (index := 28) (rest := []) ⟨hx, hb, hml, hown, hts⟩ hN hK hP hS hAA hTS hTW (by omega) ((ih (tt 1 k) hlk (by omega) ct dd hTW hBd).2 c9 hc9) mk_A_28 (show 4 + tt 1 k ≤ 3 + k by omega) (show 40 * (4 + tt 1 k) ≤ 40 * (3 + k) by omega) hl.1 (Nat.le_of_ble_eq_true rfl) d_A_commitSimulated_7 ⟨Nat.zero_le _, Nat.zero_le _⟩ (fun ct1 H locs hct1 hP hS => ?_)
      obtain ⟨hTW1, hfr1⟩ := hct1
      obtain ⟨e1, he1⟩ : ∃ d, d = dc tt bb ee K (tt 1 k) false c9 dd := ⟨_, rfl⟩
      rw [← he1] at hTW1
      have hBd1 : hB tt N K e1 := hB_of hBd (fun i => by rw [he1]; exact dc_keep _ _ _ _ _ _ (Or.inl (by decide))) (fun i => by rw [he1]; exact dc_keep _ _ _ _ _ _ (Or.inl (by decide)))
      have hfr1 := fr_tr fr_rf hfr1
      have c0 := (hTW1.2.2.2 k hk).1.trans (ndC_1 h0)
      have c5 := hTW1.2.2.1
      refine lv_aload_n hx hb d_A_commitSimulated_10 rfl (lv_at hl 0 rfl) ?_
      refine zz_get (j := tt 3 k) (ci := 2) (C := R_A) (T := T_A) (N := 3) hx hb hts in_A hown hK hP t1 c0 rfl 1 (by decide) (hts _ mf_A_21) (fun x h => u_same (hts _ mF_A_right) x h) (v := .ref (ad (tt 3 (tt 2 k)))) rfl d_A_commitSimulated_11 ?_
      refine lv_iload_n hx hb d_A_commitSimulated_14 rfl (lv_at hl 1 rfl) ?_
      refine lv_aload_n hx hb d_A_commitSimulated_15 rfl (lv_at hl 2 rfl) ?_
      refine lv_aload_n hx hb d_A_commitSimulated_16 rfl (lv_at hl 3 rfl) ?_
      refine dsp_commitSimulated (k := tt 2 k) (index := 28) (rest := []) ⟨hx, hb, hml, hown, hts⟩ hN hK hP hS hAA hTS hTW1 (by omega) ((ih (tt 2 k) hrk (by omega) ct1 e1 hTW1 hBd1).2 c9 hc9) mk_A_28 (show 4 + tt 2 k ≤ 3 + k by omega) (show 40 * (4 + tt 2 k) ≤ 40 * (3 + k) by omega) hl.1 (Nat.le_of_ble_eq_true rfl) d_A_commitSimulated_17 ⟨Nat.zero_le _, Nat.zero_le _⟩ (fun ct2 H locs hct2 hP hS => ?_)
      obtain ⟨hTW2, hfr2⟩ := hct2
      obtain ⟨e2, he2⟩ : ∃ d, d = dc tt bb ee K (tt 2 k) false c9 e1 := ⟨_, rfl⟩
      rw [← he2] at hTW2
      have hBd2 : hB tt N K e2 := hB_of hBd1 (fun i => by rw [he2]; exact dc_keep _ _ _ _ _ _ (Or.inl (by decide))) (fun i => by rw [he2]; exact dc_keep _ _ _ _ _ _ (Or.inl (by decide)))
      have hfr2 := fr_tr hfr1 hfr2
      have c0 := (hTW2.2.2.2 k hk).1.trans (ndC_1 h0)
      have c5 := hTW2.2.2.1
      exact W.vret hx hb hr (fun t ht hW => ⟨⟨ct2, rfl, ⟨by rw [dc_and h0 hlk hrk, ← he1, ← he2]; exact hTW2, hfr2⟩, zN_warm hW hN, va_K.moved hW.alike hK, by rw [ht]; exact hP⟩, hS.F ht⟩) hS.2.2 d_A_commitSimulated_20
    · obtain ⟨hlk, hrk⟩ := t3 (by rw [h0]; decide)
      refine Met.ofW (cc := c_O_commitSimulated) (maxL := 5) (ret := none) (by decide) rfl ?_
      intro p e s m args below meth c s₁ B hml hv
      obtain ⟨rfl, hN, hK, hP⟩ := hv
      have hx := B.exec
      have hb := B.bytes
      have hr := B.returns
      have hts0 := atoms_spec (ws := Cond.code y_O_commitSimulated c_O_commitSimulated 5 none :: zT) B.pre
      have hts := fun w h => hts0 w (List.mem_cons_of_mem _ h)
      have hown : s.vm.findClass R_O = some m.cls := findClass_of_methodNamed B.named
      have hlocks := B.notSynchronized
      have hD := dI_D hI
      have hS : va_S (dA n ad) s.heap s.heap [] := va_S.rf
      have hAA : ∀ q, dA n ad q → dA n ad q := fun _ h => h
      have hl := lv_entry ([.ref (ad (tt 3 k)), .int (nI c9), .ref (ad jt), .ref (ad jd)]) (n := 5) (Nat.le_of_ble_eq_true rfl)
      rw [lg_entry_eq]
      generalize (lg_sl ([.ref (ad (tt 3 k)), .int (nI c9), .ref (ad jt), .ref (ad jd)]) ++ List.replicate (5 - (lg_sl ([.ref (ad (tt 3 k)), .int (nI c9), .ref (ad jt), .ref (ad jd)])).length) Slot.unset).toArray = ls at hl ⊢
      have hl : lv_has ls 5 [(0, .ref (ad (tt 3 k))), (1, .int (nI c9)), (2, .ref (ad jt)), (3, .ref (ad jd))] := hl
      have c0 := (hTW.2.2.2 k hk).1.trans (ndC_2 h0)
      have c5 := hTW.2.2.1
      refine lv_aload_n hx hb d_O_commitSimulated_0 rfl (lv_at hl 3 rfl) ?_
      refine dd_ci (index := 28) (k := 0) (As := []) (rest := []) ⟨hx, hb, hml, hown, hts⟩ (k_draw l D ca n ad ct hI jd (dd 7 0) hTS.2.2.1 c5) mk_O_28 mo_G_draw me_G_G_draw_G mi_G mc_G_draw (by decide +kernel) ⟨rfl, rfl⟩ ⟨(by show 1 + 1 ≤ 3 + k; omega), (by show 8 + (_ + 11) + 40 ≤ 40 * (3 + k); omega)⟩ (dd_pre hN hK hP (j := jd) hTS.2.2.1 c5 (r := (R_G, T_G, 1)) rfl) hS hAA rfl hl.1 rfl (Nat.le_of_ble_eq_true rfl) d_O_commitSimulated_1 ⟨Nat.zero_le _, Nat.zero_le _⟩ (fun r ct1 H locs hct1 hP hS => ?_)
      obtain ⟨hr1, hctx⟩ := hct1
      obtain ⟨d0, hd0⟩ : ∃ d, dr (dd 7 0) = d := ⟨_, rfl⟩
      rw [hd0] at hr1 hctx
      obtain ⟨x0, hx0⟩ : ∃ x, dv d0 = x := ⟨_, rfl⟩
      have hx1 : x0 < 5003 := by rw [← hx0]; exact dv_lt _
      rw [hx0] at hr1
      subst hr1
      obtain ⟨hTW1, hfr1⟩ := tW_jd hTS hTW d0
      rw [← hctx] at hTW1 hfr1
      obtain ⟨e1, he1⟩ : ∃ d, d = zs dd 7 0 d0 := ⟨_, rfl⟩
      rw [← he1] at hTW1
      have hBd1 : hB tt N K e1 := hB_of hBd (fun i => by rw [he1]; exact zs_nj _ _ _ _ (by decide)) (fun i => by rw [he1]; exact zs_nj _ _ _ _ (by decide))
      have hfr1 := fr_tr fr_rf hfr1
      have c0 := (hTW1.2.2.2 k hk).1.trans (ndC_2 h0)
      have c5 := hTW1.2.2.1
      refine lv_istore (lv' := [(4, .int (nI x0)), (0, .ref (ad (tt 3 k))), (1, .int (nI c9)), (2, .ref (ad jt)), (3, .ref (ad jd))]) hx hb d_O_commitSimulated_4 hl (by decide) rfl (fun ls hl => ?_)
      refine lv_aload_n hx hb d_O_commitSimulated_6 rfl (lv_at hl 1 rfl) ?_
      refine zz_get (j := tt 3 k) (ci := 3) (C := R_O) (T := T_O) (N := 5) hx hb hts in_O hown hK hP t1 c0 rfl 0 (by decide) (hts _ mf_O_9) (fun x h => u_same (hts _ mF_O_left) x h) (v := .ref (ad (tt 3 (tt 1 k)))) rfl d_O_commitSimulated_7 ?_
      refine lv_iload hx hb d_O_commitSimulated_10 (lv_at hl 0 rfl) ?_
      refine lv_aload_n hx hb d_O_commitSimulated_12 rfl (lv_at hl 3 rfl) ?_
      refine lv_aload_n hx hb d_O_commitSimulated_13 rfl (lv_at hl 4 rfl) ?_
      refine dsp_commitSimulated (k := tt 1 k) (index := 42) (rest := []) ⟨hx, hb, hml, hown, hts⟩ hN hK hP hS hAA hTS hTW1 (by omega) ((ih (tt 1 k) hlk (by omega) ct1 e1 hTW1 hBd1).2 x0 hx1) mk_O_42 (show 4 + tt 1 k ≤ 3 + k by omega) (show 40 * (4 + tt 1 k) ≤ 40 * (3 + k) by omega) hl.1 (Nat.le_of_ble_eq_true rfl) d_O_commitSimulated_14 ⟨Nat.zero_le _, Nat.zero_le _⟩ (fun ct2 H locs hct2 hP hS => ?_)
      obtain ⟨hTW2, hfr2⟩ := hct2
      obtain ⟨e2, he2⟩ : ∃ d, d = dc tt bb ee K (tt 1 k) false x0 e1 := ⟨_, rfl⟩
      rw [← he2] at hTW2
      have hBd2 : hB tt N K e2 := hB_of hBd1 (fun i => by rw [he2]; exact dc_keep _ _ _ _ _ _ (Or.inl (by decide))) (fun i => by rw [he2]; exact dc_keep _ _ _ _ _ _ (Or.inl (by decide)))
      have hfr2 := fr_tr hfr1 hfr2
      have c0 := (hTW2.2.2.2 k hk).1.trans (ndC_2 h0)
      have c5 := hTW2.2.2.1
      refine lv_aload_n hx hb d_O_commitSimulated_17 rfl (lv_at hl 1 rfl) ?_
      refine zz_get (j := tt 3 k) (ci := 3) (C := R_O) (T := T_O) (N := 5) hx hb hts in_O hown hK hP t1 c0 rfl 1 (by decide) (hts _ mf_O_21) (fun x h => u_same (hts _ mF_O_right) x h) (v := .ref (ad (tt 3 (tt 2 k)))) rfl d_O_commitSimulated_18 ?_
      refine lv_iload_n hx hb d_O_commitSimulated_21 rfl (lv_at hl 2 rfl) ?_
      refine lv_iload hx hb d_O_commitSimulated_22 (lv_at hl 0 rfl) ?_
      refine zz_cSN (index := 46) (n := 2) (As := [.int (nI c9), .int (nI x0)]) (rest := [.ref (ad (tt 3 (tt 2 k)))]) ⟨hx, hb, hml, hown, hts⟩ (k_minus l c9 x0 hc9 hx1) hN mk_O_46 ms_D_minus mi_D mc_D_minus (by decide +kernel) ⟨rfl, rfl⟩ ⟨(by show 1 + 1 ≤ 3 + k; omega), (by show 8 + (_ + 11) + 40 ≤ 40 * (3 + k); omega)⟩ preEq rfl hl.1 rfl (Nat.le_of_ble_eq_true rfl) d_O_commitSimulated_24 ⟨Nat.zero_le _, Nat.zero_le _⟩ ?_
      refine lv_aload_n hx hb d_O_commitSimulated_27 rfl (lv_at hl 3 rfl) ?_
      refine lv_aload_n hx hb d_O_commitSimulated_28 rfl (lv_at hl 4 rfl) ?_
      refine dsp_commitSimulated (k := tt 2 k) (index := 42) (rest := []) ⟨hx, hb, hml, hown, hts⟩ hN hK hP hS hAA hTS hTW2 (by omega) ((ih (tt 2 k) hrk (by omega) ct2 e2 hTW2 hBd2).2 (ls5 c9 x0) (ls5_lt _ _)) mk_O_42 (show 4 + tt 2 k ≤ 3 + k by omega) (show 40 * (4 + tt 2 k) ≤ 40 * (3 + k) by omega) hl.1 (Nat.le_of_ble_eq_true rfl) d_O_commitSimulated_29 ⟨Nat.zero_le _, Nat.zero_le _⟩ (fun ct3 H locs hct3 hP hS => ?_)
      obtain ⟨hTW3, hfr3⟩ := hct3
      obtain ⟨e3, he3⟩ : ∃ d, d = dc tt bb ee K (tt 2 k) false (ls5 c9 x0) e2 := ⟨_, rfl⟩
      rw [← he3] at hTW3
      have hBd3 : hB tt N K e3 := hB_of hBd2 (fun i => by rw [he3]; exact dc_keep _ _ _ _ _ _ (Or.inl (by decide))) (fun i => by rw [he3]; exact dc_keep _ _ _ _ _ _ (Or.inl (by decide)))
      have hfr3 := fr_tr hfr2 hfr3
      have c0 := (hTW3.2.2.2 k hk).1.trans (ndC_2 h0)
      have c5 := hTW3.2.2.1
      exact W.vret hx hb hr (fun t ht hW => ⟨⟨ct3, rfl, ⟨by rw [dc_orS h0 hlk hrk, hd0, hx0, ← he1, ← he2, ← he3]; exact hTW3, hfr3⟩, zN_warm hW hN, va_K.moved hW.alike hK, by rw [ht]; exact hP⟩, hS.F ht⟩) hS.2.2 d_O_commitSimulated_32
