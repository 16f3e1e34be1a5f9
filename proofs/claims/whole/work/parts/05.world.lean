/-! a world of numbered cells: cell j lies at ad j and holds ct j -/
def zl (n : Nat) (ad : Nat → Nat) (ct : Nat → va_E) : va_W := (List.range n).map (fun j => (ad j, ct j))
theorem zl_get {n : Nat} {ad : Nat → Nat} {ct : Nat → va_E} {j : Nat} (h : j < n) : (zl n ad ct)[j]? = some (ad j, ct j) := by
  simp [zl, List.getElem?_range, h]
theorem zl_get' {n : Nat} {ad : Nat → Nat} {ct : Nat → va_E} {k : Nat} {q : Nat × va_E} (h : (zl n ad ct)[k]? = some q) : k < n ∧ q = (ad k, ct k) := by
  have hk : k < n := by
    have := (List.getElem?_eq_some_iff.mp h).1
    simpa [zl] using this
  rw [zl_get hk] at h
  exact ⟨hk, (Option.some.inj h).symm⟩
theorem zl_set {n : Nat} {ad : Nat → Nat} {ct : Nat → va_E} {j : Nat} {e : va_E} : (zl n ad ct).set j (ad j, e) = zl n ad (va_up ct j e) := by
  apply List.ext_getElem?
  intro i
  by_cases hi : i < n
  · rw [zl_get hi]
    by_cases hij : j = i
    · subst hij
      rw [List.getElem?_set_self (by simpa [zl] using hi), va_up_self]
    · rw [List.getElem?_set_ne hij, zl_get hi, va_up_ne _ _ (Ne.symm hij)]
  · rw [List.getElem?_eq_none (by simp [zl]; omega), List.getElem?_eq_none (by simp [zl]; omega)]
theorem zl_push {n : Nat} {ad : Nat → Nat} {ct : Nat → va_E} {q : Nat} {e : va_E} : zl n ad ct ++ [(q, e)] = zl (n + 1) (va_up ad n q) (va_up ct n e) := by
  unfold zl
  rw [List.range_succ, List.map_append]
  congr 1
  · apply List.map_congr_left
    intro j hj
    have : j ≠ n := Nat.ne_of_lt (List.mem_range.mp hj)
    rw [va_up_ne _ _ this, va_up_ne _ _ this]
  · simp [va_up_self]
/-- the addresses are apart and lie in A -/
def zD (A : Nat → Prop) (n : Nat) (ad : Nat → Nat) : Prop := (∀ i j, i < n → j < n → ad i = ad j → i = j) ∧ ∀ j, j < n → A (ad j)
theorem zD_to {A : Nat → Prop} {n : Nat} {ad : Nat → Nat} (h : zD A n ad) (ct : Nat → va_E) : va_D A (zl n ad ct) := by
  refine ⟨fun i j p q hp hq e => ?_, fun k q hq => ?_⟩
  · obtain ⟨h1, rfl⟩ := zl_get' hp
    obtain ⟨h2, rfl⟩ := zl_get' hq
    exact h.1 i j h1 h2 e
  · obtain ⟨h1, rfl⟩ := zl_get' hq
    exact h.2 k h1
theorem zD_of {A : Nat → Prop} {n : Nat} {ad : Nat → Nat} {ct : Nat → va_E} (h : va_D A (zl n ad ct)) : zD A n ad :=
  ⟨fun i j h1 h2 e => h.1 i j _ _ (zl_get h1) (zl_get h2) e, fun j hj => h.2 j _ (zl_get hj)⟩
theorem zP_at {D : va_G} {cl : List vw_C} {n : Nat} {ad : Nat → Nat} {ct : Nat → va_E} {H : Heap} (h : va_P D cl (zl n ad ct) H) {j : Nat} (hj : j < n) : va_at D cl (ad j, ct j) H := h j _ (zl_get hj)
theorem zP_of {D : va_G} {cl : List vw_C} {n : Nat} {ad : Nat → Nat} {ct : Nat → va_E} {H : Heap} (h : ∀ j, j < n → va_at D cl (ad j, ct j) H) : va_P D cl (zl n ad ct) H := by
  intro k q hq
  obtain ⟨h1, rfl⟩ := zl_get' hq
  exact h k h1
theorem zP_congr {D : va_G} {cl : List vw_C} {n : Nat} {ad : Nat → Nat} {ct ct' : Nat → va_E} {H : Heap} (h : va_P D cl (zl n ad ct) H) (he : ∀ j, j < n → ct' j = ct j) : va_P D cl (zl n ad ct') H :=
  zP_of fun j hj => by rw [he j hj]; exact zP_at h hj
section ZW
variable {p : Program} {l : Launch} {e : Env} {R : Room} {s : State} {m : MethodId} {args : Array Value} {below : List Frame} {meth : Method} {c : Code} {H H0 : Heap} {locs : List Loc} {cells slots pc n : Nat} {ls : Array Slot} {rest : List Value} {cc : ByteArray} {Q : State → Prop} {A : Nat → Prop} {D : va_G} {cl : List vw_C} {tys : List (ClassId × FieldType)} {ad : Nat → Nat} {ct : Nat → va_E}
theorem zz_get (hexec : p.tables.exec = Jvm.exec) (hb : c.code = cc) {own ref C : String} {T : u_T} {N ci index : Nat} {Ts : List Cond} (hts : ∀ w ∈ Ts, w.before args s = true) (hin : ∀ w ∈ u_ws C T N, w ∈ Ts) (hown : s.vm.findClass own = some m.cls) (hK : va_K D cl tys s) (hP : va_P D cl (zl n ad ct) H) {j : Nat} (hj : j < n) {fs : List Value} (he : ct j = .inr (ci, fs)) (hc : cl[ci]? = some (C, T, N)) (k : Nat) (hk : k < N) (hlink : (Cond.fieldLink own index ref (T k).2.1 (T k).2.2.1).before args s = true) (hsame : ∀ x, s.fieldFound? (T k).1 (T k).2.1 (T k).2.2.1 = some x → s.fieldFound? ref (T k).2.1 (T k).2.2.1 = some x) {v : Value} (hv : fs[k]? = some v) (hdg : decode cc pc = .ok (.getfield index, 3))
    (kk : W p l e R s m args below meth c H locs cells slots Q (F0 m (pc + 3) ls (v :: rest))) : W p l e R s m args below meth c H locs cells slots Q (F0 m pc ls (.ref (ad j) :: rest)) :=
  va_get hexec hb hts hin hown hK hP j ((zl_get hj).trans (by rw [he])) hc k hk hlink hsame hv hdg kk
theorem zz_put (hexec : p.tables.exec = Jvm.exec) (hb : c.code = cc) {own ref C : String} {T : u_T} {N ci index : Nat} {Ts : List Cond} (hts : ∀ w ∈ Ts, w.before args s = true) (hin : ∀ w ∈ u_ws C T N, w ∈ Ts) (ty0 : Nat → FieldType) (hty : ∀ k, k < N → parseFieldDescriptor (T k).2.2.1 = some (ty0 k)) (hnm : ∀ a, a < N → ∀ b, b < N → a ≠ b → (T a).2.1 ≠ (T b).2.1) (hown : s.vm.findClass own = some m.cls) (hK : va_K D cl tys s) (hP : va_P D cl (zl n ad ct) H) (hD : zD A n ad) (hS0 : va_S A H0 H locs) {j : Nat} (hj : j < n) {fs : List Value} (he : ct j = .inr (ci, fs)) (hc : cl[ci]? = some (C, T, N)) (k : Nat) (hk : k < N) (hlink : (Cond.fieldLink own index ref (T k).2.1 (T k).2.2.1).before args s = true) (hsame : ∀ x, s.fieldFound? (T k).1 (T k).2.1 (T k).2.2.1 = some x → s.fieldFound? ref (T k).2.1 (T k).2.2.1 = some x) (hfin : (T k).2.2.2 = false) {ty : FieldType} {v : Value} (hd : parseFieldDescriptor (T k).2.2.1 = some ty) (hn : narrow ty v = v) (hfit : fits ty v = true) (hl : k < fs.length)
    (hdg : decode cc pc = .ok (.putfield index, 3)) (kk : ∀ (H1 : Heap) (locs1 : List Loc), va_P D cl (zl n ad (va_up ct j (.inr (ci, fs.set k v)))) H1 → va_S A H0 H1 locs1 → W p l e R s m args below meth c H1 locs1 cells slots Q (F0 m (pc + 3) ls rest)) : W p l e R s m args below meth c H locs cells slots Q (F0 m pc ls (v :: .ref (ad j) :: rest)) :=
  va_put hexec hb hts hin ty0 hty hnm hown hK hP (zD_to hD ct) hS0 j ((zl_get hj).trans (by rw [he])) hc k hk hlink hsame hfin hd hn hfit hl hdg (fun H1 locs1 h1 _ h3 => kk H1 locs1 (by rw [zl_set] at h1; exact h1) h3)
theorem zz_iald (hexec : p.tables.exec = Jvm.exec) (hb : c.code = cc) (hK : va_K D cl tys s) (hP : va_P D cl (zl n ad ct) H) {j : Nat} (hj : j < n) (t0 : Nat) {cA : ClassId} {N : Nat} {f : Nat → Int32} (ha : ct j = .inl (cA, N, .inl f)) (ht : tys[t0]? = some (cA, .int)) {i : Int32} (k : Nat) (hi : i = nI k) (hk : k < N) (hN : N < 2 ^ 31) (hdg : decode cc pc = .ok (.iaload, 1))
    (kk : W p l e R s m args below meth c H locs cells slots Q (F0 m (pc + 1) ls (.int (f k) :: rest))) : W p l e R s m args below meth c H locs cells slots Q (F0 m pc ls (.int i :: .ref (ad j) :: rest)) := by
  subst hi
  refine va_iald hexec hb hK hP j t0 ((zl_get hj).trans (by rw [ha])) ht (vp_in_nI hk hN) hdg ?_
  rw [nI_clamp (by omega)]; exact kk
theorem zz_zald (hexec : p.tables.exec = Jvm.exec) (hb : c.code = cc) (hK : va_K D cl tys s) (hP : va_P D cl (zl n ad ct) H) {j : Nat} (hj : j < n) (t0 : Nat) {cA : ClassId} {N : Nat} {f : Nat → Int32} (ha : ct j = .inl (cA, N, .inl f)) (ht : tys[t0]? = some (cA, .boolean)) {i : Int32} (k : Nat) (hi : i = nI k) (hk : k < N) (hN : N < 2 ^ 31) (hdg : decode cc pc = .ok (.baload, 1))
    (kk : W p l e R s m args below meth c H locs cells slots Q (F0 m (pc + 1) ls (.int (f k) :: rest))) : W p l e R s m args below meth c H locs cells slots Q (F0 m pc ls (.int i :: .ref (ad j) :: rest)) := by
  subst hi
  refine va_zald hexec hb hK hP j t0 ((zl_get hj).trans (by rw [ha])) ht (vp_in_nI hk hN) hdg ?_
  rw [nI_clamp (by omega)]; exact kk
theorem zz_iast (hexec : p.tables.exec = Jvm.exec) (hb : c.code = cc) (hK : va_K D cl tys s) (hP : va_P D cl (zl n ad ct) H) (hD : zD A n ad) (hS : va_S A H0 H locs) {j : Nat} (hj : j < n) (t0 : Nat) {cA : ClassId} {N : Nat} {f : Nat → Int32} (ha : ct j = .inl (cA, N, .inl f)) (ht : tys[t0]? = some (cA, .int)) {i x : Int32} (k : Nat) (hi : i = nI k) (hk : k < N) (hN : N < 2 ^ 31) (hdg : decode cc pc = .ok (.iastore, 1))
    (kk : ∀ (H1 : Heap) (locs1 : List Loc), va_P D cl (zl n ad (va_up ct j (.inl (cA, N, .inl (upd f k x))))) H1 → va_S A H0 H1 locs1 → W p l e R s m args below meth c H1 locs1 cells slots Q (F0 m (pc + 1) ls rest)) : W p l e R s m args below meth c H locs cells slots Q (F0 m pc ls (.int x :: .int i :: .ref (ad j) :: rest)) := by
  subst hi
  refine va_iast hexec hb hK hP (zD_to hD ct) hS j t0 ((zl_get hj).trans (by rw [ha])) ht (vp_in_nI hk hN) hdg (fun H1 locs1 h1 _ h3 => kk H1 locs1 ?_ h3)
  rw [zl_set, nI_clamp (by omega)] at h1; exact h1
theorem zz_zast (hexec : p.tables.exec = Jvm.exec) (hb : c.code = cc) (hK : va_K D cl tys s) (hP : va_P D cl (zl n ad ct) H) (hD : zD A n ad) (hS : va_S A H0 H locs) {j : Nat} (hj : j < n) (t0 : Nat) {cA : ClassId} {N : Nat} {f : Nat → Int32} (ha : ct j = .inl (cA, N, .inl f)) (ht : tys[t0]? = some (cA, .boolean)) {i x : Int32} (k : Nat) (hi : i = nI k) (hk : k < N) (hN : N < 2 ^ 31) (hv : vp_nar .boolean x = x) (hdg : decode cc pc = .ok (.bastore, 1))
    (kk : ∀ (H1 : Heap) (locs1 : List Loc), va_P D cl (zl n ad (va_up ct j (.inl (cA, N, .inl (upd f k x))))) H1 → va_S A H0 H1 locs1 → W p l e R s m args below meth c H1 locs1 cells slots Q (F0 m (pc + 1) ls rest)) : W p l e R s m args below meth c H locs cells slots Q (F0 m pc ls (.int x :: .int i :: .ref (ad j) :: rest)) := by
  subst hi
  refine va_zast hexec hb hK hP (zD_to hD ct) hS j t0 ((zl_get hj).trans (by rw [ha])) ht (vp_in_nI hk hN) hdg (fun H1 locs1 h1 _ h3 => kk H1 locs1 ?_ h3)
  rw [zl_set, nI_clamp (by omega), hv] at h1; exact h1
end ZW
theorem zn_bool {b : Nat} (h : b < 2) : vp_nar .boolean (nI b) = nI b := by
  rcases (show b = 0 ∨ b = 1 by omega) with rfl | rfl <;> decide
