/-! the model's accept -/
def accI (ar a : Nat → Nat → Nat) (lo : Nat → Nat) (N k n : Nat) : Prop :=
  (∀ j, j ≠ 0 → j ≠ 7 → j ≠ 8 → j ≠ 9 → j ≠ 10 → j ≠ 11 → j ≠ 12 → j ≠ 26 → a j = ar j) ∧ (∀ i, i ≠ 1 → i ≠ 2 → a 0 i = ar 0 i) ∧ a 0 1 = N ∧ a 0 2 = cl (ar 1) k ∧
  (∀ i, i < k → a 7 i = ar 1 i ∧ (ar 1 i = 0 → a 10 i = cl (ar 1) i ∧ a 11 (2 * cl (ar 1) i) = ar 2 i ∧ a 12 (2 * cl (ar 1) i) = ar 3 i ∧ a 11 (2 * cl (ar 1) i + 1) = ar 4 i ∧ a 12 (2 * cl (ar 1) i + 1) = ar 5 i) ∧ (ar 1 i ≠ 0 → a 8 i = lo (i - 1) - 1 ∧ a 9 i = i - 1)) ∧
  n ≤ k ∧ (0 < k → 0 < n ∧ a 26 (n - 1) = k - 1) ∧ (∀ j, 0 < j → j < n → 1 ≤ lo (a 26 j) ∧ a 26 (j - 1) = lo (a 26 j) - 1) ∧ (0 < n → lo (a 26 0) = 0) ∧ (∀ j, j < n → a 26 j < k) ∧ ∀ i, 2 * cl (ar 1) k ≤ i → a 11 i = ar 11 i ∧ a 12 i = ar 12 i
theorem cl_lt {kd : Nat → Nat} {i k : Nat} (h : i < k) (h0 : kd i = 0) : cl kd i < cl kd k := by
  have := cl_mono (kd := kd) (show i + 1 ≤ k by omega)
  rw [cl_leaf h0] at this
  omega
theorem accI_leaf {ar a : Nat → Nat → Nat} {lo : Nat → Nat} {N k n : Nat} (h : accI ar a lo N k n) (h0 : ar 1 k = 0) (hlo : lo k = k) : accI ar (zs (zs (zs (zs (zs (zs (zs (zs a 7 k (ar 1 k)) 10 k (a 0 2)) 11 (2 * a 0 2) (ar 2 k)) 12 (2 * a 0 2) (ar 3 k)) 11 (2 * a 0 2 + 1) (ar 4 k)) 12 (2 * a 0 2 + 1) (ar 5 k)) 0 2 (a 0 2 + 1)) 26 n k) lo N (k + 1) (n + 1) := by
  obtain ⟨h1, h2, h3, h4, h5, h6, h7, h8, h9, h10, h11⟩ := h
  refine ⟨fun j j0 j7 j8 j9 j10 j11 j12 j26 => ?_, fun i i1 i2 => ?_, ?_, ?_, fun i hi => ?_, by omega, fun _ => ⟨by omega, ?_⟩, fun j j0 jn => ?_, fun _ => ?_, fun j jn => ?_, fun i hi => ?_⟩
  · rw [zs_row _ _ _ j26, zs_row _ _ _ j0, zs_row _ _ _ j12, zs_row _ _ _ j11, zs_row _ _ _ j12, zs_row _ _ _ j11, zs_row _ _ _ j10, zs_row _ _ _ j7]
    exact h1 j j0 j7 j8 j9 j10 j11 j12 j26
  · simp [zs_at, i2]; exact h2 i i1 i2
  · simp [zs_at]; exact h3
  · simp [zs_at]; rw [cl_leaf h0, h4]
  · by_cases e : i = k
    · subst e
      refine ⟨by simp [zs_at], fun _ => ⟨by simp [zs_at, h4], by simp [zs_at, h4], by simp [zs_at, h4], by simp [zs_at, h4], by simp [zs_at, h4]⟩, fun q => absurd h0 q⟩
    · obtain ⟨g1, g2, g3⟩ := h5 i (by omega)
      refine ⟨by simp [zs_at, e]; exact g1, fun q => ?_, fun q => ⟨by simp [zs_at]; exact (g3 q).1, by simp [zs_at]; exact (g3 q).2⟩⟩
      obtain ⟨p1, p2, p3, p4, p5⟩ := g2 q
      have hlt := cl_lt (kd := ar 1) (show i < k by omega) q
      have e1 : ¬ 2 * cl (ar 1) i = 2 * cl (ar 1) k := by omega
      have e2 : ¬ 2 * cl (ar 1) i = 2 * cl (ar 1) k + 1 := by omega
      have e3 : ¬ 2 * cl (ar 1) i + 1 = 2 * cl (ar 1) k := by omega
      have e4 : ¬ cl (ar 1) i = cl (ar 1) k := by omega
      refine ⟨by simp [zs_at, e]; exact p1, by simp [zs_at, h4, e1, e2, e4]; exact p2, by simp [zs_at, h4, e1, e2, e4]; exact p3, by simp [zs_at, h4, e1, e3, e4]; exact p4, by simp [zs_at, h4, e1, e3, e4]; exact p5⟩
  · simp [zs_at]
  · by_cases e : j = n
    · subst e
      have hk := h7 (by omega)
      have e1 : ¬ j - 1 = j := by omega
      simp only [zs_at]
      simp [e1, hlo]
      omega
    · have := h8 j j0 (by omega)
      have e1 : ¬ j - 1 = n := by omega
      simp [zs_at, e, e1]; exact this
  · by_cases e : n = 0
    · subst e
      have hk : k = 0 := by omega
      simp [zs_at]; omega
    · have e1 : ¬ 0 = n := by omega
      simp [zs_at, e1]; exact h9 (by omega)
  · by_cases e : j = n
    · subst e; simp [zs_at]
    · have := h10 j (by omega)
      simp [zs_at, e]; omega
  · rw [cl_leaf h0] at hi
    have e1 : ¬ i = 2 * cl (ar 1) k := by omega
    have e2 : ¬ i = 2 * cl (ar 1) k + 1 := by omega
    simp [zs_at, h4, e1, e2]
    exact h11 i (by omega)
theorem accI_join {ar a : Nat → Nat → Nat} {lo : Nat → Nat} {N k n : Nat} (h : accI ar a lo N k n) (h0 : ar 1 k ≠ 0) (hk1 : 1 ≤ k) (hl1 : 1 ≤ lo (k - 1)) (hlo : lo k = lo (lo (k - 1) - 1)) : 2 ≤ n ∧ a 26 (n - 2) = lo (k - 1) - 1 ∧ a 26 (n - 2 + 1) = k - 1 ∧ accI ar (zs (zs (zs (zs a 7 k (ar 1 k)) 8 k (a 26 (n - 2))) 9 k (a 26 (n - 2 + 1))) 26 (n - 2) k) lo N (k + 1) (n - 2 + 1) := by
  obtain ⟨h1, h2, h3, h4, h5, h6, h7, h8, h9, h10, h11⟩ := h
  have hn := h7 (by omega)
  have n2 : 2 ≤ n := by
    rcases Nat.lt_or_ge n 2 with q | q
    · have e : n = 1 := by omega
      subst e
      have a1 := h9 (by omega)
      have a2 := hn.2
      simp at a2
      rw [a2] at a1
      omega
    · exact q
  have e1 : n - 2 + 1 = n - 1 := by omega
  have v1 : a 26 (n - 2 + 1) = k - 1 := by rw [e1]; exact hn.2
  have v0 : a 26 (n - 2) = lo (k - 1) - 1 := by
    have := (h8 (n - 1) (by omega) (by omega)).2
    rw [hn.2, show n - 1 - 1 = n - 2 by omega] at this
    exact this
  refine ⟨n2, v0, v1, fun j j0 j7 j8 j9 j10 j11 j12 j26 => ?_, fun i i1 i2 => ?_, ?_, ?_, fun i hi => ?_, by omega, fun _ => ⟨by omega, ?_⟩, fun j j0 jn => ?_, fun _ => ?_, fun j jn => ?_, fun i hi => ?_⟩
  · rw [zs_row _ _ _ j26, zs_row _ _ _ j9, zs_row _ _ _ j8, zs_row _ _ _ j7]
    exact h1 j j0 j7 j8 j9 j10 j11 j12 j26
  · simp [zs_at]; exact h2 i i1 i2
  · simp [zs_at]; exact h3
  · simp [zs_at]; rw [cl_join h0, h4]
  · by_cases e : i = k
    · subst e
      refine ⟨by simp [zs_at], fun q => absurd q h0, fun _ => ⟨by simp [zs_at, v0], by simp [zs_at, v1]⟩⟩
    · obtain ⟨g1, g2, g3⟩ := h5 i (by omega)
      refine ⟨by simp [zs_at, e]; exact g1, fun q => ?_, fun q => ⟨by simp [zs_at, e]; exact (g3 q).1, by simp [zs_at, e]; exact (g3 q).2⟩⟩
      obtain ⟨p1, p2, p3, p4, p5⟩ := g2 q
      refine ⟨by simp [zs_at]; exact p1, by simp [zs_at]; exact p2, by simp [zs_at]; exact p3, by simp [zs_at]; exact p4, by simp [zs_at]; exact p5⟩
  · simp [zs_at]
  · by_cases e : j = n - 2
    · subst e
      have b := h8 (n - 2) j0 (by omega)
      have e1 : ¬ n - 2 - 1 = n - 2 := by omega
      simp only [zs_at]
      simp [e1]
      rw [hlo, ← v0]
      exact b
    · have := h8 j j0 (by omega)
      have e1 : ¬ j - 1 = n - 2 := by omega
      simp [zs_at, e, e1]; exact this
  · by_cases e : n - 2 = 0
    · rw [e]
      simp [zs_at]
      rw [hlo, ← v0, e]
      exact h9 (by omega)
    · have e1 : ¬ 0 = n - 2 := by omega
      simp [zs_at, e1]; exact h9 (by omega)
  · by_cases e : j = n - 2
    · subst e; simp [zs_at]
    · have := h10 j (by omega)
      simp [zs_at, e]; omega
  · rw [cl_join h0] at hi
    simp [zs_at]
    exact h11 i hi
theorem zn_dec2 {n : Nat} (h : 2 ≤ n) : nI n + (-2) = nI (n - 2) := by
  rw [← pk_sub h, Int32.sub_eq_add_neg]; rfl
theorem up_c {h : Nat → Nat} {k v : Nat} (hh : ∀ i, i < k → h i = v) : ∀ i, i < k + 1 → va_up h k v i = v := by
  intro i hi
  by_cases e : i = k
  · subst e; rw [va_up_self]
  · rw [va_up_ne _ _ e]; exact hh i (by omega)

theorem d_M_accept_0 : decode c_M_accept 0 = .ok (.aload_n 0, 1) := by decide +kernel
theorem d_M_accept_1 : decode c_M_accept 1 = .ok (.getfield 112, 3) := by decide +kernel
theorem d_M_accept_4 : decode c_M_accept 4 = .ok (.iconst 1, 1) := by decide +kernel
theorem d_M_accept_5 : decode c_M_accept 5 = .ok (.if_icmp .eq 5, 3) := by decide +kernel
theorem d_M_accept_8 : decode c_M_accept 8 = .ok (.iconst (-1), 1) := by decide +kernel
theorem d_M_accept_9 : decode c_M_accept 9 = .ok (.ireturn, 1) := by decide +kernel
theorem d_M_accept_10 : decode c_M_accept 10 = .ok (.aload_n 0, 1) := by decide +kernel
theorem d_M_accept_11 : decode c_M_accept 11 = .ok (.aload_n 0, 1) := by decide +kernel
theorem d_M_accept_12 : decode c_M_accept 12 = .ok (.getfield 25, 3) := by decide +kernel
theorem d_M_accept_15 : decode c_M_accept 15 = .ok (.iconst 1, 1) := by decide +kernel
theorem d_M_accept_16 : decode c_M_accept 16 = .ok (.iaload, 1) := by decide +kernel
theorem d_M_accept_17 : decode c_M_accept 17 = .ok (.putfield 122, 3) := by decide +kernel
theorem d_M_accept_20 : decode c_M_accept 20 = .ok (.aload_n 0, 1) := by decide +kernel
theorem d_M_accept_21 : decode c_M_accept 21 = .ok (.iconst 0, 1) := by decide +kernel
theorem d_M_accept_22 : decode c_M_accept 22 = .ok (.putfield 125, 3) := by decide +kernel
theorem d_M_accept_25 : decode c_M_accept 25 = .ok (.iconst 0, 1) := by decide +kernel
theorem d_M_accept_26 : decode c_M_accept 26 = .ok (.istore_n 1, 1) := by decide +kernel
theorem d_M_accept_27 : decode c_M_accept 27 = .ok (.iconst 0, 1) := by decide +kernel
theorem d_M_accept_28 : decode c_M_accept 28 = .ok (.istore_n 2, 1) := by decide +kernel
theorem d_M_accept_29 : decode c_M_accept 29 = .ok (.iload_n 2, 1) := by decide +kernel
theorem d_M_accept_30 : decode c_M_accept 30 = .ok (.aload_n 0, 1) := by decide +kernel
theorem d_M_accept_31 : decode c_M_accept 31 = .ok (.getfield 122, 3) := by decide +kernel
theorem d_M_accept_34 : decode c_M_accept 34 = .ok (.if_icmp .ge 164, 3) := by decide +kernel
theorem d_M_accept_37 : decode c_M_accept 37 = .ok (.aload_n 0, 1) := by decide +kernel
theorem d_M_accept_38 : decode c_M_accept 38 = .ok (.getfield 28, 3) := by decide +kernel
theorem d_M_accept_41 : decode c_M_accept 41 = .ok (.iload_n 2, 1) := by decide +kernel
theorem d_M_accept_42 : decode c_M_accept 42 = .ok (.aload_n 0, 1) := by decide +kernel
theorem d_M_accept_43 : decode c_M_accept 43 = .ok (.getfield 7, 3) := by decide +kernel
theorem d_M_accept_46 : decode c_M_accept 46 = .ok (.iload_n 2, 1) := by decide +kernel
theorem d_M_accept_47 : decode c_M_accept 47 = .ok (.iaload, 1) := by decide +kernel
theorem d_M_accept_48 : decode c_M_accept 48 = .ok (.iastore, 1) := by decide +kernel
theorem d_M_accept_49 : decode c_M_accept 49 = .ok (.aload_n 0, 1) := by decide +kernel
theorem d_M_accept_50 : decode c_M_accept 50 = .ok (.getfield 7, 3) := by decide +kernel
theorem d_M_accept_53 : decode c_M_accept 53 = .ok (.iload_n 2, 1) := by decide +kernel
theorem d_M_accept_54 : decode c_M_accept 54 = .ok (.iaload, 1) := by decide +kernel
theorem d_M_accept_55 : decode c_M_accept 55 = .ok (.ifCond .ne 98, 3) := by decide +kernel
theorem d_M_accept_58 : decode c_M_accept 58 = .ok (.aload_n 0, 1) := by decide +kernel
theorem d_M_accept_59 : decode c_M_accept 59 = .ok (.getfield 37, 3) := by decide +kernel
theorem d_M_accept_62 : decode c_M_accept 62 = .ok (.iload_n 2, 1) := by decide +kernel
theorem d_M_accept_63 : decode c_M_accept 63 = .ok (.aload_n 0, 1) := by decide +kernel
theorem d_M_accept_64 : decode c_M_accept 64 = .ok (.getfield 125, 3) := by decide +kernel
theorem d_M_accept_67 : decode c_M_accept 67 = .ok (.iastore, 1) := by decide +kernel
theorem d_M_accept_68 : decode c_M_accept 68 = .ok (.aload_n 0, 1) := by decide +kernel
theorem d_M_accept_69 : decode c_M_accept 69 = .ok (.getfield 40, 3) := by decide +kernel
theorem d_M_accept_72 : decode c_M_accept 72 = .ok (.iconst 2, 1) := by decide +kernel
theorem d_M_accept_73 : decode c_M_accept 73 = .ok (.aload_n 0, 1) := by decide +kernel
theorem d_M_accept_74 : decode c_M_accept 74 = .ok (.getfield 125, 3) := by decide +kernel
theorem d_M_accept_77 : decode c_M_accept 77 = .ok (.imul, 1) := by decide +kernel
theorem d_M_accept_78 : decode c_M_accept 78 = .ok (.aload_n 0, 1) := by decide +kernel
theorem d_M_accept_79 : decode c_M_accept 79 = .ok (.getfield 13, 3) := by decide +kernel
theorem d_M_accept_82 : decode c_M_accept 82 = .ok (.iload_n 2, 1) := by decide +kernel
theorem d_M_accept_83 : decode c_M_accept 83 = .ok (.iaload, 1) := by decide +kernel
theorem d_M_accept_84 : decode c_M_accept 84 = .ok (.iastore, 1) := by decide +kernel
theorem d_M_accept_85 : decode c_M_accept 85 = .ok (.aload_n 0, 1) := by decide +kernel
theorem d_M_accept_86 : decode c_M_accept 86 = .ok (.getfield 43, 3) := by decide +kernel
theorem d_M_accept_89 : decode c_M_accept 89 = .ok (.iconst 2, 1) := by decide +kernel
theorem d_M_accept_90 : decode c_M_accept 90 = .ok (.aload_n 0, 1) := by decide +kernel
theorem d_M_accept_91 : decode c_M_accept 91 = .ok (.getfield 125, 3) := by decide +kernel
theorem d_M_accept_94 : decode c_M_accept 94 = .ok (.imul, 1) := by decide +kernel
theorem d_M_accept_95 : decode c_M_accept 95 = .ok (.aload_n 0, 1) := by decide +kernel
theorem d_M_accept_96 : decode c_M_accept 96 = .ok (.getfield 16, 3) := by decide +kernel
theorem d_M_accept_99 : decode c_M_accept 99 = .ok (.iload_n 2, 1) := by decide +kernel
theorem d_M_accept_100 : decode c_M_accept 100 = .ok (.iaload, 1) := by decide +kernel
theorem d_M_accept_101 : decode c_M_accept 101 = .ok (.iastore, 1) := by decide +kernel
theorem d_M_accept_102 : decode c_M_accept 102 = .ok (.aload_n 0, 1) := by decide +kernel
theorem d_M_accept_103 : decode c_M_accept 103 = .ok (.getfield 40, 3) := by decide +kernel
theorem d_M_accept_106 : decode c_M_accept 106 = .ok (.iconst 2, 1) := by decide +kernel
theorem d_M_accept_107 : decode c_M_accept 107 = .ok (.aload_n 0, 1) := by decide +kernel
theorem d_M_accept_108 : decode c_M_accept 108 = .ok (.getfield 125, 3) := by decide +kernel
theorem d_M_accept_111 : decode c_M_accept 111 = .ok (.imul, 1) := by decide +kernel
theorem d_M_accept_112 : decode c_M_accept 112 = .ok (.iconst 1, 1) := by decide +kernel
theorem d_M_accept_113 : decode c_M_accept 113 = .ok (.iadd, 1) := by decide +kernel
theorem d_M_accept_114 : decode c_M_accept 114 = .ok (.aload_n 0, 1) := by decide +kernel
theorem d_M_accept_115 : decode c_M_accept 115 = .ok (.getfield 19, 3) := by decide +kernel
theorem d_M_accept_118 : decode c_M_accept 118 = .ok (.iload_n 2, 1) := by decide +kernel
theorem d_M_accept_119 : decode c_M_accept 119 = .ok (.iaload, 1) := by decide +kernel
theorem d_M_accept_120 : decode c_M_accept 120 = .ok (.iastore, 1) := by decide +kernel
theorem d_M_accept_121 : decode c_M_accept 121 = .ok (.aload_n 0, 1) := by decide +kernel
theorem d_M_accept_122 : decode c_M_accept 122 = .ok (.getfield 43, 3) := by decide +kernel
theorem d_M_accept_125 : decode c_M_accept 125 = .ok (.iconst 2, 1) := by decide +kernel
theorem d_M_accept_126 : decode c_M_accept 126 = .ok (.aload_n 0, 1) := by decide +kernel
theorem d_M_accept_127 : decode c_M_accept 127 = .ok (.getfield 125, 3) := by decide +kernel
theorem d_M_accept_130 : decode c_M_accept 130 = .ok (.imul, 1) := by decide +kernel
theorem d_M_accept_131 : decode c_M_accept 131 = .ok (.iconst 1, 1) := by decide +kernel
theorem d_M_accept_132 : decode c_M_accept 132 = .ok (.iadd, 1) := by decide +kernel
theorem d_M_accept_133 : decode c_M_accept 133 = .ok (.aload_n 0, 1) := by decide +kernel
theorem d_M_accept_134 : decode c_M_accept 134 = .ok (.getfield 22, 3) := by decide +kernel
theorem d_M_accept_137 : decode c_M_accept 137 = .ok (.iload_n 2, 1) := by decide +kernel
theorem d_M_accept_138 : decode c_M_accept 138 = .ok (.iaload, 1) := by decide +kernel
theorem d_M_accept_139 : decode c_M_accept 139 = .ok (.iastore, 1) := by decide +kernel
theorem d_M_accept_140 : decode c_M_accept 140 = .ok (.aload_n 0, 1) := by decide +kernel
theorem d_M_accept_141 : decode c_M_accept 141 = .ok (.dup, 1) := by decide +kernel
theorem d_M_accept_142 : decode c_M_accept 142 = .ok (.getfield 125, 3) := by decide +kernel
theorem d_M_accept_145 : decode c_M_accept 145 = .ok (.iconst 1, 1) := by decide +kernel
theorem d_M_accept_146 : decode c_M_accept 146 = .ok (.iadd, 1) := by decide +kernel
theorem d_M_accept_147 : decode c_M_accept 147 = .ok (.putfield 125, 3) := by decide +kernel
theorem d_M_accept_150 : decode c_M_accept 150 = .ok (.goto 32, 3) := by decide +kernel
theorem d_M_accept_153 : decode c_M_accept 153 = .ok (.iinc 1 (-2), 3) := by decide +kernel
theorem d_M_accept_156 : decode c_M_accept 156 = .ok (.aload_n 0, 1) := by decide +kernel
theorem d_M_accept_157 : decode c_M_accept 157 = .ok (.getfield 31, 3) := by decide +kernel
theorem d_M_accept_160 : decode c_M_accept 160 = .ok (.iload_n 2, 1) := by decide +kernel
theorem d_M_accept_161 : decode c_M_accept 161 = .ok (.aload_n 0, 1) := by decide +kernel
theorem d_M_accept_162 : decode c_M_accept 162 = .ok (.getfield 86, 3) := by decide +kernel
theorem d_M_accept_165 : decode c_M_accept 165 = .ok (.iload_n 1, 1) := by decide +kernel
theorem d_M_accept_166 : decode c_M_accept 166 = .ok (.iaload, 1) := by decide +kernel
theorem d_M_accept_167 : decode c_M_accept 167 = .ok (.iastore, 1) := by decide +kernel
theorem d_M_accept_168 : decode c_M_accept 168 = .ok (.aload_n 0, 1) := by decide +kernel
theorem d_M_accept_169 : decode c_M_accept 169 = .ok (.getfield 34, 3) := by decide +kernel
theorem d_M_accept_172 : decode c_M_accept 172 = .ok (.iload_n 2, 1) := by decide +kernel
theorem d_M_accept_173 : decode c_M_accept 173 = .ok (.aload_n 0, 1) := by decide +kernel
theorem d_M_accept_174 : decode c_M_accept 174 = .ok (.getfield 86, 3) := by decide +kernel
theorem d_M_accept_177 : decode c_M_accept 177 = .ok (.iload_n 1, 1) := by decide +kernel
theorem d_M_accept_178 : decode c_M_accept 178 = .ok (.iconst 1, 1) := by decide +kernel
theorem d_M_accept_179 : decode c_M_accept 179 = .ok (.iadd, 1) := by decide +kernel
theorem d_M_accept_180 : decode c_M_accept 180 = .ok (.iaload, 1) := by decide +kernel
theorem d_M_accept_181 : decode c_M_accept 181 = .ok (.iastore, 1) := by decide +kernel
theorem d_M_accept_182 : decode c_M_accept 182 = .ok (.aload_n 0, 1) := by decide +kernel
theorem d_M_accept_183 : decode c_M_accept 183 = .ok (.getfield 86, 3) := by decide +kernel
theorem d_M_accept_186 : decode c_M_accept 186 = .ok (.iload_n 1, 1) := by decide +kernel
theorem d_M_accept_187 : decode c_M_accept 187 = .ok (.iload_n 2, 1) := by decide +kernel
theorem d_M_accept_188 : decode c_M_accept 188 = .ok (.iastore, 1) := by decide +kernel
theorem d_M_accept_189 : decode c_M_accept 189 = .ok (.iinc 1 1, 3) := by decide +kernel
theorem d_M_accept_192 : decode c_M_accept 192 = .ok (.iinc 2 1, 3) := by decide +kernel
theorem d_M_accept_195 : decode c_M_accept 195 = .ok (.goto (-166), 3) := by decide +kernel
theorem d_M_accept_198 : decode c_M_accept 198 = .ok (.iconst 0, 1) := by decide +kernel
theorem d_M_accept_199 : decode c_M_accept 199 = .ok (.istore_n 2, 1) := by decide +kernel
theorem d_M_accept_200 : decode c_M_accept 200 = .ok (.iload_n 2, 1) := by decide +kernel
theorem d_M_accept_201 : decode c_M_accept 201 = .ok (.bipush 16, 2) := by decide +kernel
theorem d_M_accept_203 : decode c_M_accept 203 = .ok (.if_icmp .ge 16, 3) := by decide +kernel
theorem d_M_accept_206 : decode c_M_accept 206 = .ok (.aload_n 0, 1) := by decide +kernel
theorem d_M_accept_207 : decode c_M_accept 207 = .ok (.getfield 49, 3) := by decide +kernel
theorem d_M_accept_210 : decode c_M_accept 210 = .ok (.iload_n 2, 1) := by decide +kernel
theorem d_M_accept_211 : decode c_M_accept 211 = .ok (.iconst 0, 1) := by decide +kernel
theorem d_M_accept_212 : decode c_M_accept 212 = .ok (.iastore, 1) := by decide +kernel
theorem d_M_accept_213 : decode c_M_accept 213 = .ok (.iinc 2 1, 3) := by decide +kernel
theorem d_M_accept_216 : decode c_M_accept 216 = .ok (.goto (-16), 3) := by decide +kernel
theorem d_M_accept_219 : decode c_M_accept 219 = .ok (.iconst 0, 1) := by decide +kernel
theorem d_M_accept_220 : decode c_M_accept 220 = .ok (.istore_n 2, 1) := by decide +kernel
theorem d_M_accept_221 : decode c_M_accept 221 = .ok (.iload_n 2, 1) := by decide +kernel
theorem d_M_accept_222 : decode c_M_accept 222 = .ok (.bipush 8, 2) := by decide +kernel
theorem d_M_accept_224 : decode c_M_accept 224 = .ok (.if_icmp .ge 30, 3) := by decide +kernel
theorem d_M_accept_227 : decode c_M_accept 227 = .ok (.aload_n 0, 1) := by decide +kernel
theorem d_M_accept_228 : decode c_M_accept 228 = .ok (.getfield 52, 3) := by decide +kernel
theorem d_M_accept_231 : decode c_M_accept 231 = .ok (.iload_n 2, 1) := by decide +kernel
theorem d_M_accept_232 : decode c_M_accept 232 = .ok (.iconst 0, 1) := by decide +kernel
theorem d_M_accept_233 : decode c_M_accept 233 = .ok (.iastore, 1) := by decide +kernel
theorem d_M_accept_234 : decode c_M_accept 234 = .ok (.aload_n 0, 1) := by decide +kernel
theorem d_M_accept_235 : decode c_M_accept 235 = .ok (.getfield 55, 3) := by decide +kernel
theorem d_M_accept_238 : decode c_M_accept 238 = .ok (.iload_n 2, 1) := by decide +kernel
theorem d_M_accept_239 : decode c_M_accept 239 = .ok (.iconst 0, 1) := by decide +kernel
theorem d_M_accept_240 : decode c_M_accept 240 = .ok (.iastore, 1) := by decide +kernel
theorem d_M_accept_241 : decode c_M_accept 241 = .ok (.aload_n 0, 1) := by decide +kernel
theorem d_M_accept_242 : decode c_M_accept 242 = .ok (.getfield 46, 3) := by decide +kernel
theorem d_M_accept_245 : decode c_M_accept 245 = .ok (.iload_n 2, 1) := by decide +kernel
theorem d_M_accept_246 : decode c_M_accept 246 = .ok (.iconst (-1), 1) := by decide +kernel
theorem d_M_accept_247 : decode c_M_accept 247 = .ok (.iastore, 1) := by decide +kernel
theorem d_M_accept_248 : decode c_M_accept 248 = .ok (.iinc 2 1, 3) := by decide +kernel
theorem d_M_accept_251 : decode c_M_accept 251 = .ok (.goto (-30), 3) := by decide +kernel
theorem d_M_accept_254 : decode c_M_accept 254 = .ok (.aload_n 0, 1) := by decide +kernel
theorem d_M_accept_255 : decode c_M_accept 255 = .ok (.iconst 0, 1) := by decide +kernel
theorem d_M_accept_256 : decode c_M_accept 256 = .ok (.putfield 112, 3) := by decide +kernel
theorem d_M_accept_259 : decode c_M_accept 259 = .ok (.aload_n 0, 1) := by decide +kernel
theorem d_M_accept_260 : decode c_M_accept 260 = .ok (.iconst 0, 1) := by decide +kernel
theorem d_M_accept_261 : decode c_M_accept 261 = .ok (.putfield 128, 3) := by decide +kernel
theorem d_M_accept_264 : decode c_M_accept 264 = .ok (.aload_n 0, 1) := by decide +kernel
theorem d_M_accept_265 : decode c_M_accept 265 = .ok (.iconst 0, 1) := by decide +kernel
theorem d_M_accept_266 : decode c_M_accept 266 = .ok (.putfield 132, 3) := by decide +kernel
theorem d_M_accept_269 : decode c_M_accept 269 = .ok (.aload_n 0, 1) := by decide +kernel
theorem d_M_accept_270 : decode c_M_accept 270 = .ok (.getfield 125, 3) := by decide +kernel
theorem d_M_accept_273 : decode c_M_accept 273 = .ok (.ireturn, 1) := by decide +kernel

section MZ
variable {p : Program} {l : Launch} {e : Env} {R : Room} {s : State} {m : MethodId} {args : Array Value} {below : List Frame} {meth : Method} {c : Code} {H0 : Heap} {cells slots : Nat} {Q : State → Prop} {A : Nat → Prop} {D : va_G} {ca : Nat → ClassId} {am : Nat → Nat} {ar : Nat → Nat → Nat}
set_option maxHeartbeats 4000000 in
set_option maxRecDepth 100000 in
theorem acc_loop (hx : p.tables.exec = Jvm.exec) (hb : c.code = c_M_accept) (hml : c.maxLocals = 3) (hown : s.vm.findClass R_M = some m.cls) (hts : ∀ w ∈ zT, w.before args s = true) (hK : va_K D zC (zty ca) s) (hD : zD A 28 am) {N : Nat} {lo : Nat → Nat} (hN : N ≤ 15) (hcl : cl (ar 1) N ≤ 8) (hOK : tOK (ar 1) lo N) (kk : ∀ (n : Nat) (a : Nat → Nat → Nat) (H : Heap) (locs : List Loc) (ls : Array Slot), accI ar a lo N N n → va_P D zC (zl 28 am (mct ca am (a))) H → va_S A H0 H locs → lv_has ls 3 [(0, .ref (am 0))] → W p l e R s m args below meth c H locs cells slots Q (F0 m 198 ls [])) : ∀ (j k : Nat), k + j = N → ∀ (n : Nat) (a : Nat → Nat → Nat) (H : Heap) (locs : List Loc) (ls : Array Slot), accI ar a lo N k n → va_P D zC (zl 28 am (mct ca am (a))) H → va_S A H0 H locs → lv_has ls 3 [(2, .int (nI k)), (1, .int (nI n)), (0, .ref (am 0))] → W p l e R s m args below meth c H locs cells slots Q (F0 m 29 ls []) := by
  intro j
  induction j with
  | zero =>
    intro k hk n a H locs ls hA hP hS hl
    obtain rfl : k = N := by omega
    have h01 := hA.2.2.1
    refine lv_iload_n hx hb d_M_accept_29 rfl (lv_at hl 0 rfl) ?_
    refine lv_aload_n hx hb d_M_accept_30 rfl (lv_at hl 2 rfl) ?_
    refine mm_get hx hb hts hown hK hP (index := 122) 28 (by decide) mf_M_122 (v := .int (nI (a 0 1))) rfl d_M_accept_31 ?_
    refine zz_as (y := nI k) (congrArg nI h01) ?_
    refine lv_icmp_ge (tgt := 198) hx hb d_M_accept_34 rfl (fun h34 => ?_) (fun h34 => absurd (Int32.le_refl _) h34)
    have hl := lv_sub (l' := [(0, .ref (am 0))]) hl [2] rfl
    exact kk n a H locs ls hA hP hS hl
  | succ j ih =>
    intro k hk n a H locs ls hA hP hS hl
    obtain ⟨h1, h2, h01, h02, h5, h6, h7, h8, h9, h10, -⟩ := id hA
    have a1 := h1 1 (by decide) (by decide) (by decide) (by decide) (by decide) (by decide) (by decide) (by decide)
    have a2 := h1 2 (by decide) (by decide) (by decide) (by decide) (by decide) (by decide) (by decide) (by decide)
    have a3 := h1 3 (by decide) (by decide) (by decide) (by decide) (by decide) (by decide) (by decide) (by decide)
    have a4 := h1 4 (by decide) (by decide) (by decide) (by decide) (by decide) (by decide) (by decide) (by decide)
    have a5 := h1 5 (by decide) (by decide) (by decide) (by decide) (by decide) (by decide) (by decide) (by decide)
    rcases hOK k (by omega) with ⟨k0, klo⟩ | ⟨k0, k1, k2, k3⟩
    · skip
      have c1 := cl_lt (kd := ar 1) (show k < N by omega) k0
      have hL : a 0 2 < 8 := by omega
      refine lv_iload_n hx hb d_M_accept_29 rfl (lv_at hl 0 rfl) ?_
      refine lv_aload_n hx hb d_M_accept_30 rfl (lv_at hl 2 rfl) ?_
      refine mm_get hx hb hts hown hK hP (index := 122) 28 (by decide) mf_M_122 (v := .int (nI (a 0 1))) rfl d_M_accept_31 ?_
      refine zz_as (y := nI N) (congrArg nI h01) ?_
      refine lv_icmp_ge (tgt := 198) hx hb d_M_accept_34 rfl (fun h34 => absurd h34 (nI_ge (by omega) (by omega))) (fun h34 => ?_)
      refine lv_aload_n hx hb d_M_accept_37 rfl (lv_at hl 2 rfl) ?_
      refine mm_get hx hb hts hown hK hP (index := 28) 6 (by decide) mf_M_28 (v := .ref (am 7)) rfl d_M_accept_38 ?_
      refine lv_iload_n hx hb d_M_accept_41 rfl (lv_at hl 0 rfl) ?_
      refine lv_aload_n hx hb d_M_accept_42 rfl (lv_at hl 2 rfl) ?_
      refine mm_get hx hb hts hown hK hP (index := 7) 0 (by decide) mf_M_7 (v := .ref (am 1)) rfl d_M_accept_43 ?_
      refine lv_iload_n hx hb d_M_accept_46 rfl (lv_at hl 0 rfl) ?_
      refine mm_ald hx hb hK hP 0 (by decide) rfl (k) rfl (show k < 90 from by omega) (ar 1 k) (congrFun a1 k) d_M_accept_47 ?_
      refine mm_ast hx hb hK hP hD hS 6 (by decide) rfl (k) rfl (show k < 15 from by omega) (ar 1 k) (rfl) d_M_accept_48 (fun H locs hP hS => ?_)
      refine lv_aload_n hx hb d_M_accept_49 rfl (lv_at hl 2 rfl) ?_
      refine mm_get hx hb hts hown hK hP (index := 7) 0 (by decide) mf_M_7 (v := .ref (am 1)) rfl d_M_accept_50 ?_
      refine lv_iload_n hx hb d_M_accept_53 rfl (lv_at hl 0 rfl) ?_
      refine mm_ald hx hb hK hP 0 (by decide) rfl (k) rfl (show k < 90 from by omega) (ar 1 k) (congrFun a1 k) d_M_accept_54 ?_
      refine lv_if_ne (tgt := 153) hx hb d_M_accept_55 rfl (fun h55 => absurd (by rw [k0]; rfl) h55) (fun h55 => ?_)
      refine lv_aload_n hx hb d_M_accept_58 rfl (lv_at hl 2 rfl) ?_
      refine mm_get hx hb hts hown hK hP (index := 37) 9 (by decide) mf_M_37 (v := .ref (am 10)) rfl d_M_accept_59 ?_
      refine lv_iload_n hx hb d_M_accept_62 rfl (lv_at hl 0 rfl) ?_
      refine lv_aload_n hx hb d_M_accept_63 rfl (lv_at hl 2 rfl) ?_
      refine mm_get hx hb hts hown hK hP (index := 125) 29 (by decide) mf_M_125 (v := .int (nI (a 0 2))) rfl d_M_accept_64 ?_
      refine mm_ast hx hb hK hP hD hS 9 (by decide) rfl (k) rfl (show k < 15 from by omega) (a 0 2) (rfl) d_M_accept_67 (fun H locs hP hS => ?_)
      refine lv_aload_n hx hb d_M_accept_68 rfl (lv_at hl 2 rfl) ?_
      refine mm_get hx hb hts hown hK hP (index := 40) 10 (by decide) mf_M_40 (v := .ref (am 11)) rfl d_M_accept_69 ?_
      refine lv_iconst (v := 2) hx hb d_M_accept_72 rfl ?_
      refine lv_aload_n hx hb d_M_accept_73 rfl (lv_at hl 2 rfl) ?_
      refine mm_get hx hb hts hown hK hP (index := 125) 29 (by decide) mf_M_125 (v := .int (nI (a 0 2))) rfl d_M_accept_74 ?_
      refine lv_imul hx hb d_M_accept_77 ?_
      refine zz_as (y := nI (2 * (a 0 2))) (pk_mul 2 (a 0 2)) ?_
      refine lv_aload_n hx hb d_M_accept_78 rfl (lv_at hl 2 rfl) ?_
      refine mm_get hx hb hts hown hK hP (index := 13) 1 (by decide) mf_M_13 (v := .ref (am 2)) rfl d_M_accept_79 ?_
      refine lv_iload_n hx hb d_M_accept_82 rfl (lv_at hl 0 rfl) ?_
      refine mm_ald hx hb hK hP 1 (by decide) rfl (k) rfl (show k < 90 from by omega) (ar 2 k) (congrFun a2 k) d_M_accept_83 ?_
      refine mm_ast hx hb hK hP hD hS 10 (by decide) rfl (2 * (a 0 2)) rfl (show 2 * (a 0 2) < 16 from by omega) (ar 2 k) (rfl) d_M_accept_84 (fun H locs hP hS => ?_)
      refine lv_aload_n hx hb d_M_accept_85 rfl (lv_at hl 2 rfl) ?_
      refine mm_get hx hb hts hown hK hP (index := 43) 11 (by decide) mf_M_43 (v := .ref (am 12)) rfl d_M_accept_86 ?_
      refine lv_iconst (v := 2) hx hb d_M_accept_89 rfl ?_
      refine lv_aload_n hx hb d_M_accept_90 rfl (lv_at hl 2 rfl) ?_
      refine mm_get hx hb hts hown hK hP (index := 125) 29 (by decide) mf_M_125 (v := .int (nI (a 0 2))) rfl d_M_accept_91 ?_
      refine lv_imul hx hb d_M_accept_94 ?_
      refine zz_as (y := nI (2 * (a 0 2))) (pk_mul 2 (a 0 2)) ?_
      refine lv_aload_n hx hb d_M_accept_95 rfl (lv_at hl 2 rfl) ?_
      refine mm_get hx hb hts hown hK hP (index := 16) 2 (by decide) mf_M_16 (v := .ref (am 3)) rfl d_M_accept_96 ?_
      refine lv_iload_n hx hb d_M_accept_99 rfl (lv_at hl 0 rfl) ?_
      refine mm_ald hx hb hK hP 2 (by decide) rfl (k) rfl (show k < 90 from by omega) (ar 3 k) (congrFun a3 k) d_M_accept_100 ?_
      refine mm_ast hx hb hK hP hD hS 11 (by decide) rfl (2 * (a 0 2)) rfl (show 2 * (a 0 2) < 16 from by omega) (ar 3 k) (rfl) d_M_accept_101 (fun H locs hP hS => ?_)
      refine lv_aload_n hx hb d_M_accept_102 rfl (lv_at hl 2 rfl) ?_
      refine mm_get hx hb hts hown hK hP (index := 40) 10 (by decide) mf_M_40 (v := .ref (am 11)) rfl d_M_accept_103 ?_
      refine lv_iconst (v := 2) hx hb d_M_accept_106 rfl ?_
      refine lv_aload_n hx hb d_M_accept_107 rfl (lv_at hl 2 rfl) ?_
      refine mm_get hx hb hts hown hK hP (index := 125) 29 (by decide) mf_M_125 (v := .int (nI (a 0 2))) rfl d_M_accept_108 ?_
      refine lv_imul hx hb d_M_accept_111 ?_
      refine zz_as (y := nI (2 * (a 0 2))) (pk_mul 2 (a 0 2)) ?_
      refine lv_iconst (v := 1) hx hb d_M_accept_112 rfl ?_
      refine lv_iadd hx hb d_M_accept_113 ?_
      refine zz_as (y := nI ((2 * (a 0 2)) + 1)) (nI_add (2 * (a 0 2)) 1) ?_
      refine lv_aload_n hx hb d_M_accept_114 rfl (lv_at hl 2 rfl) ?_
      refine mm_get hx hb hts hown hK hP (index := 19) 3 (by decide) mf_M_19 (v := .ref (am 4)) rfl d_M_accept_115 ?_
      refine lv_iload_n hx hb d_M_accept_118 rfl (lv_at hl 0 rfl) ?_
      refine mm_ald hx hb hK hP 3 (by decide) rfl (k) rfl (show k < 90 from by omega) (ar 4 k) (congrFun a4 k) d_M_accept_119 ?_
      refine mm_ast hx hb hK hP hD hS 10 (by decide) rfl ((2 * (a 0 2)) + 1) rfl (show (2 * (a 0 2)) + 1 < 16 from by omega) (ar 4 k) (rfl) d_M_accept_120 (fun H locs hP hS => ?_)
      refine lv_aload_n hx hb d_M_accept_121 rfl (lv_at hl 2 rfl) ?_
      refine mm_get hx hb hts hown hK hP (index := 43) 11 (by decide) mf_M_43 (v := .ref (am 12)) rfl d_M_accept_122 ?_
      refine lv_iconst (v := 2) hx hb d_M_accept_125 rfl ?_
      refine lv_aload_n hx hb d_M_accept_126 rfl (lv_at hl 2 rfl) ?_
      refine mm_get hx hb hts hown hK hP (index := 125) 29 (by decide) mf_M_125 (v := .int (nI (a 0 2))) rfl d_M_accept_127 ?_
      refine lv_imul hx hb d_M_accept_130 ?_
      refine zz_as (y := nI (2 * (a 0 2))) (pk_mul 2 (a 0 2)) ?_
      refine lv_iconst (v := 1) hx hb d_M_accept_131 rfl ?_
      refine lv_iadd hx hb d_M_accept_132 ?_
      refine zz_as (y := nI ((2 * (a 0 2)) + 1)) (nI_add (2 * (a 0 2)) 1) ?_
      refine lv_aload_n hx hb d_M_accept_133 rfl (lv_at hl 2 rfl) ?_
      refine mm_get hx hb hts hown hK hP (index := 22) 4 (by decide) mf_M_22 (v := .ref (am 5)) rfl d_M_accept_134 ?_
      refine lv_iload_n hx hb d_M_accept_137 rfl (lv_at hl 0 rfl) ?_
      refine mm_ald hx hb hK hP 4 (by decide) rfl (k) rfl (show k < 90 from by omega) (ar 5 k) (congrFun a5 k) d_M_accept_138 ?_
      refine mm_ast hx hb hK hP hD hS 11 (by decide) rfl ((2 * (a 0 2)) + 1) rfl (show (2 * (a 0 2)) + 1 < 16 from by omega) (ar 5 k) (rfl) d_M_accept_139 (fun H locs hP hS => ?_)
      refine lv_aload_n hx hb d_M_accept_140 rfl (lv_at hl 2 rfl) ?_
      refine lv_dup hx hb d_M_accept_141 rfl ?_
      refine mm_get hx hb hts hown hK hP (index := 125) 29 (by decide) mf_M_125 (v := .int (nI (a 0 2))) rfl d_M_accept_142 ?_
      refine lv_iconst (v := 1) hx hb d_M_accept_145 rfl ?_
      refine lv_iadd hx hb d_M_accept_146 ?_
      refine zz_as (y := nI ((a 0 2) + 1)) (nI_add (a 0 2) 1) ?_
      refine mm_put hx hb hts hown hK hP hD hS (index := 125) 2 (by decide) mf_M_125 ((a 0 2) + 1) (rfl) rfl rfl d_M_accept_147 (fun H locs hP hS => ?_)
      refine lv_goto (tgt := 182) hx hb d_M_accept_150 rfl ?_
      refine lv_aload_n hx hb d_M_accept_182 rfl (lv_at hl 2 rfl) ?_
      refine mm_get hx hb hts hown hK hP (index := 86) 25 (by decide) mf_M_86 (v := .ref (am 26)) rfl d_M_accept_183 ?_
      refine lv_iload_n hx hb d_M_accept_186 rfl (lv_at hl 1 rfl) ?_
      refine lv_iload_n hx hb d_M_accept_187 rfl (lv_at hl 0 rfl) ?_
      refine mm_ast hx hb hK hP hD hS 25 (by decide) rfl (n) rfl (show n < 15 from by omega) (k) (rfl) d_M_accept_188 (fun H locs hP hS => ?_)
      refine lv_iinc (k := 1) (v := nI (n + 1)) (lv' := [(1, .int (nI (n + 1))), (2, .int (nI k)), (0, .ref (am 0))]) hx hb d_M_accept_189 hl rfl (nI_1 _) (by decide) rfl (fun ls hl => ?_)
      refine lv_iinc (k := 1) (v := nI (k + 1)) (lv' := [(2, .int (nI (k + 1))), (1, .int (nI (n + 1))), (0, .ref (am 0))]) hx hb d_M_accept_192 hl rfl (nI_1 _) (by decide) rfl (fun ls hl => ?_)
      refine lv_goto (tgt := 29) hx hb d_M_accept_195 rfl ?_
      have hl := lv_sub (l' := [(2, .int (nI (k + 1))), (1, .int (nI (n + 1))), (0, .ref (am 0))]) hl [0, 1, 2] rfl
      exact ih (k + 1) (by omega) (n + 1) _ H locs ls (accI_leaf hA k0 klo) hP hS hl
    · skip
      have kn : ar 1 k ≠ 0 := by rcases k0 with q | q <;> rw [q] <;> decide
      have kb : ar 1 k < 3 := by rcases k0 with q | q <;> rw [q] <;> decide
      obtain ⟨n2, v0, v1, hA2⟩ := accI_join hA kn k1 k2 k3
      refine lv_iload_n hx hb d_M_accept_29 rfl (lv_at hl 0 rfl) ?_
      refine lv_aload_n hx hb d_M_accept_30 rfl (lv_at hl 2 rfl) ?_
      refine mm_get hx hb hts hown hK hP (index := 122) 28 (by decide) mf_M_122 (v := .int (nI (a 0 1))) rfl d_M_accept_31 ?_
      refine zz_as (y := nI N) (congrArg nI h01) ?_
      refine lv_icmp_ge (tgt := 198) hx hb d_M_accept_34 rfl (fun h34 => absurd h34 (nI_ge (by omega) (by omega))) (fun h34 => ?_)
      refine lv_aload_n hx hb d_M_accept_37 rfl (lv_at hl 2 rfl) ?_
      refine mm_get hx hb hts hown hK hP (index := 28) 6 (by decide) mf_M_28 (v := .ref (am 7)) rfl d_M_accept_38 ?_
      refine lv_iload_n hx hb d_M_accept_41 rfl (lv_at hl 0 rfl) ?_
      refine lv_aload_n hx hb d_M_accept_42 rfl (lv_at hl 2 rfl) ?_
      refine mm_get hx hb hts hown hK hP (index := 7) 0 (by decide) mf_M_7 (v := .ref (am 1)) rfl d_M_accept_43 ?_
      refine lv_iload_n hx hb d_M_accept_46 rfl (lv_at hl 0 rfl) ?_
      refine mm_ald hx hb hK hP 0 (by decide) rfl (k) rfl (show k < 90 from by omega) (ar 1 k) (congrFun a1 k) d_M_accept_47 ?_
      refine mm_ast hx hb hK hP hD hS 6 (by decide) rfl (k) rfl (show k < 15 from by omega) (ar 1 k) (rfl) d_M_accept_48 (fun H locs hP hS => ?_)
      refine lv_aload_n hx hb d_M_accept_49 rfl (lv_at hl 2 rfl) ?_
      refine mm_get hx hb hts hown hK hP (index := 7) 0 (by decide) mf_M_7 (v := .ref (am 1)) rfl d_M_accept_50 ?_
      refine lv_iload_n hx hb d_M_accept_53 rfl (lv_at hl 0 rfl) ?_
      refine mm_ald hx hb hK hP 0 (by decide) rfl (k) rfl (show k < 90 from by omega) (ar 1 k) (congrFun a1 k) d_M_accept_54 ?_
      refine lv_if_ne (tgt := 153) hx hb d_M_accept_55 rfl (fun h55 => ?_) (fun h55 => absurd h55 (fun q => kn ((zn_inj (by omega) (by decide)).mp q)))
      refine lv_iinc (k := 1) (v := (nI n) + (-2)) (lv' := [(1, .int ((nI n) + (-2))), (2, .int (nI k)), (0, .ref (am 0))]) hx hb d_M_accept_153 hl rfl rfl (by decide) rfl (fun ls hl => ?_)
      rw [zn_dec2 n2] at hl
      refine lv_aload_n hx hb d_M_accept_156 rfl (lv_at hl 2 rfl) ?_
      refine mm_get hx hb hts hown hK hP (index := 31) 7 (by decide) mf_M_31 (v := .ref (am 8)) rfl d_M_accept_157 ?_
      refine lv_iload_n hx hb d_M_accept_160 rfl (lv_at hl 1 rfl) ?_
      refine lv_aload_n hx hb d_M_accept_161 rfl (lv_at hl 2 rfl) ?_
      refine mm_get hx hb hts hown hK hP (index := 86) 25 (by decide) mf_M_86 (v := .ref (am 26)) rfl d_M_accept_162 ?_
      refine lv_iload_n hx hb d_M_accept_165 rfl (lv_at hl 0 rfl) ?_
      refine mm_ald hx hb hK hP 25 (by decide) rfl (n - 2) rfl (show n - 2 < 15 from by omega) (a 26 (n - 2)) (rfl) d_M_accept_166 ?_
      refine mm_ast hx hb hK hP hD hS 7 (by decide) rfl (k) rfl (show k < 15 from by omega) (a 26 (n - 2)) (rfl) d_M_accept_167 (fun H locs hP hS => ?_)
      refine lv_aload_n hx hb d_M_accept_168 rfl (lv_at hl 2 rfl) ?_
      refine mm_get hx hb hts hown hK hP (index := 34) 8 (by decide) mf_M_34 (v := .ref (am 9)) rfl d_M_accept_169 ?_
      refine lv_iload_n hx hb d_M_accept_172 rfl (lv_at hl 1 rfl) ?_
      refine lv_aload_n hx hb d_M_accept_173 rfl (lv_at hl 2 rfl) ?_
      refine mm_get hx hb hts hown hK hP (index := 86) 25 (by decide) mf_M_86 (v := .ref (am 26)) rfl d_M_accept_174 ?_
      refine lv_iload_n hx hb d_M_accept_177 rfl (lv_at hl 0 rfl) ?_
      refine lv_iconst (v := 1) hx hb d_M_accept_178 rfl ?_
      refine lv_iadd hx hb d_M_accept_179 ?_
      refine zz_as (y := nI ((n - 2) + 1)) (nI_add (n - 2) 1) ?_
      refine mm_ald hx hb hK hP 25 (by decide) rfl ((n - 2) + 1) rfl (show (n - 2) + 1 < 15 from by omega) (a 26 (n - 2 + 1)) (rfl) d_M_accept_180 ?_
      refine mm_ast hx hb hK hP hD hS 8 (by decide) rfl (k) rfl (show k < 15 from by omega) (a 26 (n - 2 + 1)) (rfl) d_M_accept_181 (fun H locs hP hS => ?_)
      refine lv_aload_n hx hb d_M_accept_182 rfl (lv_at hl 2 rfl) ?_
      refine mm_get hx hb hts hown hK hP (index := 86) 25 (by decide) mf_M_86 (v := .ref (am 26)) rfl d_M_accept_183 ?_
      refine lv_iload_n hx hb d_M_accept_186 rfl (lv_at hl 0 rfl) ?_
      refine lv_iload_n hx hb d_M_accept_187 rfl (lv_at hl 1 rfl) ?_
      refine mm_ast hx hb hK hP hD hS 25 (by decide) rfl (n - 2) rfl (show n - 2 < 15 from by omega) (k) (rfl) d_M_accept_188 (fun H locs hP hS => ?_)
      refine lv_iinc (k := 0) (v := nI ((n - 2) + 1)) (lv' := [(1, .int (nI ((n - 2) + 1))), (2, .int (nI k)), (0, .ref (am 0))]) hx hb d_M_accept_189 hl rfl (nI_1 _) (by decide) rfl (fun ls hl => ?_)
      refine lv_iinc (k := 1) (v := nI (k + 1)) (lv' := [(2, .int (nI (k + 1))), (1, .int (nI ((n - 2) + 1))), (0, .ref (am 0))]) hx hb d_M_accept_192 hl rfl (nI_1 _) (by decide) rfl (fun ls hl => ?_)
      refine lv_goto (tgt := 29) hx hb d_M_accept_195 rfl ?_
      have hl := lv_sub (l' := [(2, .int (nI (k + 1))), (1, .int (nI ((n - 2) + 1))), (0, .ref (am 0))]) hl [0, 1, 2] rfl
      exact ih (k + 1) (by omega) (n - 2 + 1) _ H locs ls hA2 hP hS hl
set_option maxHeartbeats 4000000 in
set_option maxRecDepth 100000 in
theorem acc_z1 (hx : p.tables.exec = Jvm.exec) (hb : c.code = c_M_accept) (hml : c.maxLocals = 3) (hown : s.vm.findClass R_M = some m.cls) (hts : ∀ w ∈ zT, w.before args s = true) (hK : va_K D zC (zty ca) s) (hD : zD A 28 am) (kk : ∀ (h : Nat → Nat) (H : Heap) (locs : List Loc) (ls : Array Slot), (∀ i, i < 16 → h i = 0) → va_P D zC (zl 28 am (mct ca am (va_up ar 14 h))) H → va_S A H0 H locs → lv_has ls 3 [(0, .ref (am 0))] → W p l e R s m args below meth c H locs cells slots Q (F0 m 219 ls [])) : ∀ (j k : Nat), k + j = 16 → ∀ (h : Nat → Nat) (H : Heap) (locs : List Loc) (ls : Array Slot), (∀ i, i < k → h i = 0) → va_P D zC (zl 28 am (mct ca am (va_up ar 14 h))) H → va_S A H0 H locs → lv_has ls 3 [(2, .int (nI k)), (0, .ref (am 0))] → W p l e R s m args below meth c H locs cells slots Q (F0 m 200 ls []) := by
  intro j
  induction j with
  | zero =>
    intro k hk h H locs ls hh hP hS hl
    obtain rfl : k = 16 := by omega
    refine lv_iload_n hx hb d_M_accept_200 rfl (lv_at hl 0 rfl) ?_
    refine lv_bipush (v := 16) hx hb d_M_accept_201 rfl ?_
    refine lv_icmp_ge (tgt := 219) hx hb d_M_accept_203 rfl (fun h203 => ?_) (fun h203 => absurd (by decide) h203)
    have hl := lv_sub (l' := [(0, .ref (am 0))]) hl [1] rfl
    exact kk h H locs ls hh hP hS hl
  | succ j ih =>
    intro k hk h H locs ls hh hP hS hl
    refine lv_iload_n hx hb d_M_accept_200 rfl (lv_at hl 0 rfl) ?_
    refine lv_bipush (v := 16) hx hb d_M_accept_201 rfl ?_
    refine lv_icmp_ge (tgt := 219) hx hb d_M_accept_203 rfl (fun h203 => absurd h203 (nI_ge (b := 16) (by omega) (by decide))) (fun h203 => ?_)
    refine lv_aload_n hx hb d_M_accept_206 rfl (lv_at hl 1 rfl) ?_
    refine mm_get hx hb hts hown hK hP (index := 49) 13 (by decide) mf_M_49 (v := .ref (am 14)) rfl d_M_accept_207 ?_
    refine lv_iload_n hx hb d_M_accept_210 rfl (lv_at hl 0 rfl) ?_
    refine lv_iconst (v := 0) hx hb d_M_accept_211 rfl ?_
    refine mm_ast hx hb hK hP hD hS 13 (by decide) rfl (k) rfl (show k < 16 from by omega) (0) (rfl) d_M_accept_212 (fun H locs hP hS => ?_)
    refine lv_iinc (k := 0) (v := nI (k + 1)) (lv' := [(2, .int (nI (k + 1))), (0, .ref (am 0))]) hx hb d_M_accept_213 hl rfl (nI_1 _) (by decide) rfl (fun ls hl => ?_)
    refine lv_goto (tgt := 200) hx hb d_M_accept_216 rfl ?_
    rw [zs_up] at hP
    have hl := lv_sub (l' := [(2, .int (nI (k + 1))), (0, .ref (am 0))]) hl [0, 1] rfl
    exact ih (k + 1) (by omega) (va_up h k 0) H locs ls (up_c hh) hP hS hl
set_option maxHeartbeats 4000000 in
set_option maxRecDepth 100000 in
theorem acc_z2 (hx : p.tables.exec = Jvm.exec) (hb : c.code = c_M_accept) (hml : c.maxLocals = 3) (hown : s.vm.findClass R_M = some m.cls) (hts : ∀ w ∈ zT, w.before args s = true) (hK : va_K D zC (zty ca) s) (hD : zD A 28 am) (kk : ∀ (h2 h3 h4 : Nat → Nat) (H : Heap) (locs : List Loc) (ls : Array Slot), (∀ i, i < 8 → h2 i = 0) → (∀ i, i < 8 → h3 i = 0) → (∀ i, i < 8 → h4 i = 4294967295) → va_P D zC (zl 28 am (mct ca am (va_up (va_up (va_up ar 15 h2) 16 h3) 13 h4))) H → va_S A H0 H locs → lv_has ls 3 [(0, .ref (am 0))] → W p l e R s m args below meth c H locs cells slots Q (F0 m 254 ls [])) : ∀ (j k : Nat), k + j = 8 → ∀ (h2 h3 h4 : Nat → Nat) (H : Heap) (locs : List Loc) (ls : Array Slot), (∀ i, i < k → h2 i = 0) → (∀ i, i < k → h3 i = 0) → (∀ i, i < k → h4 i = 4294967295) → va_P D zC (zl 28 am (mct ca am (va_up (va_up (va_up ar 15 h2) 16 h3) 13 h4))) H → va_S A H0 H locs → lv_has ls 3 [(2, .int (nI k)), (0, .ref (am 0))] → W p l e R s m args below meth c H locs cells slots Q (F0 m 221 ls []) := by
  intro j
  induction j with
  | zero =>
    intro k hk h2 h3 h4 H locs ls q2 q3 q4 hP hS hl
    obtain rfl : k = 8 := by omega
    refine lv_iload_n hx hb d_M_accept_221 rfl (lv_at hl 0 rfl) ?_
    refine lv_bipush (v := 8) hx hb d_M_accept_222 rfl ?_
    refine lv_icmp_ge (tgt := 254) hx hb d_M_accept_224 rfl (fun h224 => ?_) (fun h224 => absurd (by decide) h224)
    have hl := lv_sub (l' := [(0, .ref (am 0))]) hl [1] rfl
    exact kk h2 h3 h4 H locs ls q2 q3 q4 hP hS hl
  | succ j ih =>
    intro k hk h2 h3 h4 H locs ls q2 q3 q4 hP hS hl
    refine lv_iload_n hx hb d_M_accept_221 rfl (lv_at hl 0 rfl) ?_
    refine lv_bipush (v := 8) hx hb d_M_accept_222 rfl ?_
    refine lv_icmp_ge (tgt := 254) hx hb d_M_accept_224 rfl (fun h224 => absurd h224 (nI_ge (b := 8) (by omega) (by decide))) (fun h224 => ?_)
    refine lv_aload_n hx hb d_M_accept_227 rfl (lv_at hl 1 rfl) ?_
    refine mm_get hx hb hts hown hK hP (index := 52) 14 (by decide) mf_M_52 (v := .ref (am 15)) rfl d_M_accept_228 ?_
    refine lv_iload_n hx hb d_M_accept_231 rfl (lv_at hl 0 rfl) ?_
    refine lv_iconst (v := 0) hx hb d_M_accept_232 rfl ?_
    refine mm_ast hx hb hK hP hD hS 14 (by decide) rfl (k) rfl (show k < 8 from by omega) (0) (rfl) d_M_accept_233 (fun H locs hP hS => ?_)
    refine lv_aload_n hx hb d_M_accept_234 rfl (lv_at hl 1 rfl) ?_
    refine mm_get hx hb hts hown hK hP (index := 55) 15 (by decide) mf_M_55 (v := .ref (am 16)) rfl d_M_accept_235 ?_
    refine lv_iload_n hx hb d_M_accept_238 rfl (lv_at hl 0 rfl) ?_
    refine lv_iconst (v := 0) hx hb d_M_accept_239 rfl ?_
    refine mm_ast hx hb hK hP hD hS 15 (by decide) rfl (k) rfl (show k < 8 from by omega) (0) (rfl) d_M_accept_240 (fun H locs hP hS => ?_)
    refine lv_aload_n hx hb d_M_accept_241 rfl (lv_at hl 1 rfl) ?_
    refine mm_get hx hb hts hown hK hP (index := 46) 12 (by decide) mf_M_46 (v := .ref (am 13)) rfl d_M_accept_242 ?_
    refine lv_iload_n hx hb d_M_accept_245 rfl (lv_at hl 0 rfl) ?_
    refine lv_iconst (v := (-1)) hx hb d_M_accept_246 rfl ?_
    refine mm_ast hx hb hK hP hD hS 12 (by decide) rfl (k) rfl (show k < 8 from by omega) (4294967295) (zn_m1.symm) d_M_accept_247 (fun H locs hP hS => ?_)
    refine lv_iinc (k := 0) (v := nI (k + 1)) (lv' := [(2, .int (nI (k + 1))), (0, .ref (am 0))]) hx hb d_M_accept_248 hl rfl (nI_1 _) (by decide) rfl (fun ls hl => ?_)
    refine lv_goto (tgt := 221) hx hb d_M_accept_251 rfl ?_
    rw [zs_upn (i := 13) (j := 15) _ _ _ _ (by decide), zs_upn (i := 16) (j := 15) _ _ _ _ (by decide), zs_up, zs_upn (i := 13) (j := 16) _ _ _ _ (by decide), zs_up, zs_up] at hP
    have hl := lv_sub (l' := [(2, .int (nI (k + 1))), (0, .ref (am 0))]) hl [0, 1] rfl
    exact ih (k + 1) (by omega) (va_up h2 k 0) (va_up h3 k 0) (va_up h4 k 4294967295) H locs ls (up_c q2) (up_c q3) (up_c q4) hP hS hl
end MZ

theorem accI_0 (ar : Nat → Nat → Nat) (lo : Nat → Nat) (N : Nat) : accI ar (zs (zs ar 0 1 N) 0 2 0) lo N 0 0 := by
  refine ⟨fun j j0 _ _ _ _ _ _ _ => by rw [zs_row _ _ _ j0, zs_row _ _ _ j0], fun i i1 i2 => by simp [zs_at, i1, i2], by simp [zs_at], by simp [zs_at, cl], fun i hi => absurd hi (Nat.not_lt_zero _), Nat.le_refl _, fun q => absurd q (Nat.lt_irrefl _), fun j _ q => absurd q (Nat.not_lt_zero _), fun q => absurd q (Nat.lt_irrefl _), fun j q => absurd q (Nat.not_lt_zero _), fun i _ => by simp [zs_at]⟩

set_option maxHeartbeats 4000000 in
set_option maxRecDepth 100000 in
/-- accept() -/
theorem k_acceptM (l : Launch) (D : va_G) (ca : Nat → ClassId) (am : Nat → Nat) (ar : Nat → Nat → Nat) (hI : mI am) (lo : Nat → Nat) (ht : ar 0 0 ≤ 6) (hst : ar 0 0 = 1 → ar 6 1 ≤ 15 ∧ cl (ar 1) (ar 6 1) ≤ 8 ∧ tOK (ar 1) lo (ar 6 1)) : Met l y_M_accept (Cond.code y_M_accept c_M_accept 3 (some .int) :: zT) ({ frames := 1, cells := 0, slots := 0, locals := 40 }) (va_Pc [.ref (am 0)] (mw D ca am ar)) (va_Qi (fun r ar1 => (¬ ar 0 0 = 1 ∧ r = -1 ∧ ar1 = ar) ∨ (ar 0 0 = 1 ∧ ∃ (a : Nat → Nat → Nat) (n : Nat) (h h2 h3 h4 : Nat → Nat), accI ar a lo (ar 6 1) (ar 6 1) n ∧ (∀ i, i < 16 → h i = 0) ∧ (∀ i, i < 8 → h2 i = 0) ∧ (∀ i, i < 8 → h3 i = 0) ∧ (∀ i, i < 8 → h4 i = 4294967295) ∧ ar1 = zs (zs (zs (va_up (va_up (va_up (va_up a 14 h) 15 h2) 16 h3) 13 h4) 0 0 0) 0 3 0) 0 4 0 ∧ r = nI (a 0 2))) (mw D ca am) (mA am)) 0 0 (mA am) := by
  refine Met.ofW (cc := c_M_accept) (maxL := 3) (ret := (some .int)) (by decide) rfl ?_
  intro p e s m args below meth c s₁ B hml hv
  obtain ⟨rfl, hK, hP⟩ := hv
  have hx := B.exec
  have hb := B.bytes
  have hr := B.returns
  have hts0 := atoms_spec (ws := Cond.code y_M_accept c_M_accept 3 (some .int) :: zT) B.pre
  have hts := fun w h => hts0 w (List.mem_cons_of_mem _ h)
  have hown : s.vm.findClass R_M = some m.cls := findClass_of_methodNamed B.named
  have hlocks := B.notSynchronized
  have hD := mI_D hI
  have hS : va_S (mA am) s.heap s.heap [] := va_S.rf
  have hAA : ∀ q, mA am q → mA am q := fun _ h => h
  have hl := lv_entry ([.ref (am 0)]) (n := 3) (Nat.le_of_ble_eq_true rfl)
  rw [lg_entry_eq]
  generalize (lg_sl ([.ref (am 0)]) ++ List.replicate (3 - (lg_sl ([.ref (am 0)])).length) Slot.unset).toArray = ls at hl ⊢
  have hl : lv_has ls 3 [(0, .ref (am 0))] := hl
  skip
  refine lv_aload_n hx hb d_M_accept_0 rfl (lv_at hl 0 rfl) ?_
  refine mm_get hx hb hts hown hK hP (index := 112) 27 (by decide) mf_M_112 (v := .int (nI (ar 0 0))) rfl d_M_accept_1 ?_
  refine lv_iconst (v := 1) hx hb d_M_accept_4 rfl ?_
  refine lv_icmp_eq (tgt := 10) hx hb d_M_accept_5 rfl (fun h5 => ?_) (fun h5 => ?_)
  · skip
    have z : ar 0 0 = 1 := (zn_inj (by omega) (by decide)).mp h5
    obtain ⟨hN, hcl, hOK⟩ := hst z
    refine lv_aload_n hx hb d_M_accept_10 rfl (lv_at hl 0 rfl) ?_
    refine lv_aload_n hx hb d_M_accept_11 rfl (lv_at hl 0 rfl) ?_
    refine mm_get hx hb hts hown hK hP (index := 25) 5 (by decide) mf_M_25 (v := .ref (am 6)) rfl d_M_accept_12 ?_
    refine lv_iconst (v := 1) hx hb d_M_accept_15 rfl ?_
    refine mm_ald hx hb hK hP 5 (by decide) rfl (1) rfl (show 1 < 7 from by omega) (ar 6 1) (rfl) d_M_accept_16 ?_
    refine mm_put hx hb hts hown hK hP hD hS (index := 122) 1 (by decide) mf_M_122 (ar 6 1) (rfl) rfl rfl d_M_accept_17 (fun H locs hP hS => ?_)
    refine lv_aload_n hx hb d_M_accept_20 rfl (lv_at hl 0 rfl) ?_
    refine lv_iconst (v := 0) hx hb d_M_accept_21 rfl ?_
    refine mm_put hx hb hts hown hK hP hD hS (index := 125) 2 (by decide) mf_M_125 (0) (rfl) rfl rfl d_M_accept_22 (fun H locs hP hS => ?_)
    refine lv_iconst (v := 0) hx hb d_M_accept_25 rfl ?_
    refine lv_istore_n (lv' := [(1, .int 0), (0, .ref (am 0))]) hx hb d_M_accept_26 rfl hl (by decide) rfl (fun ls hl => ?_)
    refine lv_iconst (v := 0) hx hb d_M_accept_27 rfl ?_
    refine lv_istore_n (lv' := [(2, .int 0), (1, .int 0), (0, .ref (am 0))]) hx hb d_M_accept_28 rfl hl (by decide) rfl (fun ls hl => ?_)
    have hl : lv_has ls 3 [(2, .int (nI 0)), (1, .int (nI 0)), (0, .ref (am 0))] := hl
    refine acc_loop (ar := ar) (N := ar 6 1) (lo := lo) hx hb hml hown hts hK hD hN hcl hOK (fun n a H locs ls hA hP hS hl => ?_) (ar 6 1) 0 (Nat.zero_add _) 0 _ H locs ls (accI_0 ar lo (ar 6 1)) hP hS hl
    refine lv_iconst (v := 0) hx hb d_M_accept_198 rfl ?_
    refine lv_istore_n (lv' := [(2, .int 0), (0, .ref (am 0))]) hx hb d_M_accept_199 rfl hl (by decide) rfl (fun ls hl => ?_)
    have hP : va_P D zC (zl 28 am (mct ca am (va_up a 14 (a 14)))) H := by rw [va_up_row]; exact hP
    refine acc_z1 hx hb hml hown hts hK hD (fun h H locs ls hh hP hS hl => ?_) 16 0 rfl (a 14) H locs ls (fun _ q => absurd q (Nat.not_lt_zero _)) hP hS hl
    refine lv_iconst (v := 0) hx hb d_M_accept_219 rfl ?_
    refine lv_istore_n (lv' := [(2, .int 0), (0, .ref (am 0))]) hx hb d_M_accept_220 rfl hl (by decide) rfl (fun ls hl => ?_)
    have hP : va_P D zC (zl 28 am (mct ca am (va_up (va_up (va_up (va_up a 14 h) 15 (a 15)) 16 (a 16)) 13 (a 13)))) H := by
      rw [show a 15 = (va_up a 14 h) 15 from rfl, va_up_row, show a 16 = (va_up a 14 h) 16 from rfl, va_up_row, show a 13 = (va_up a 14 h) 13 from rfl, va_up_row]; exact hP
    refine acc_z2 hx hb hml hown hts hK hD (fun h2 h3 h4 H locs ls q2 q3 q4 hP hS hl => ?_) 8 0 rfl (a 15) (a 16) (a 13) H locs ls (fun _ q => absurd q (Nat.not_lt_zero _)) (fun _ q => absurd q (Nat.not_lt_zero _)) (fun _ q => absurd q (Nat.not_lt_zero _)) hP hS hl
    refine lv_aload_n hx hb d_M_accept_254 rfl (lv_at hl 0 rfl) ?_
    refine lv_iconst (v := 0) hx hb d_M_accept_255 rfl ?_
    refine mm_put hx hb hts hown hK hP hD hS (index := 112) 0 (by decide) mf_M_112 (0) (rfl) rfl rfl d_M_accept_256 (fun H locs hP hS => ?_)
    refine lv_aload_n hx hb d_M_accept_259 rfl (lv_at hl 0 rfl) ?_
    refine lv_iconst (v := 0) hx hb d_M_accept_260 rfl ?_
    refine mm_put hx hb hts hown hK hP hD hS (index := 128) 3 (by decide) mf_M_128 (0) (rfl) (zn_narb (by decide)) (zn_fitb (by decide)) d_M_accept_261 (fun H locs hP hS => ?_)
    refine lv_aload_n hx hb d_M_accept_264 rfl (lv_at hl 0 rfl) ?_
    refine lv_iconst (v := 0) hx hb d_M_accept_265 rfl ?_
    refine mm_put hx hb hts hown hK hP hD hS (index := 132) 4 (by decide) mf_M_132 (0) (rfl) (zn_narb (by decide)) (zn_fitb (by decide)) d_M_accept_266 (fun H locs hP hS => ?_)
    refine lv_aload_n hx hb d_M_accept_269 rfl (lv_at hl 0 rfl) ?_
    refine mm_get hx hb hts hown hK hP (index := 125) 29 (by decide) mf_M_125 (v := .int (nI (a 0 2))) rfl d_M_accept_270 ?_
    exact W.iret hx hb hr (fun t ht hW => ⟨⟨_, zs (zs (zs (va_up (va_up (va_up (va_up a 14 h) 15 h2) 16 h3) 13 h4) 0 0 0) 0 3 0) 0 4 0, rfl, Or.inr ⟨z, a, n, h, h2, h3, h4, hA, hh, q2, q3, q4, rfl, rfl⟩, va_K.moved hW.alike hK, by rw [ht]; exact hP⟩, hS.F ht⟩) hS.2.2 d_M_accept_273
  · skip
    have z : ¬ ar 0 0 = 1 := fun q => h5 (by rw [q]; rfl)
    refine lv_iconst (v := (-1)) hx hb d_M_accept_8 rfl ?_
    exact W.iret hx hb hr (fun t ht hW => ⟨⟨_, ar, rfl, Or.inl ⟨z, rfl, rfl⟩, va_K.moved hW.alike hK, by rw [ht]; exact hP⟩, hS.F ht⟩) hS.2.2 d_M_accept_9
