/-! numbers: powers, the two ways of raising, ranges of a number that stands for an int -/
theorem zp_sq (b k m : Nat) : (b ^ k % m) * (b ^ k % m) % m = b ^ (2 * k) % m := by
  rw [← Nat.mul_mod, ← Nat.pow_add, Nat.two_mul]
theorem zp_mul (b k m : Nat) : (b ^ k % m) * b % m = b ^ (k + 1) % m := by
  rw [Nat.pow_succ, Nat.mul_mod, Nat.mod_mod, ← Nat.mul_mod]
theorem zp_mulk (b k i m : Nat) : (b ^ (k * i) % m) * (b ^ k % m) % m = b ^ (k * (i + 1)) % m := by
  rw [← Nat.mul_mod, ← Nat.pow_add, Nat.mul_succ]
theorem zp_bit0 {e j : Nat} (h : e / 2 ^ j % 2 = 0) : 2 * (e / 2 ^ (j + 1)) = e / 2 ^ j := by
  rw [Nat.pow_succ, ← Nat.div_div_eq_div_mul]; omega
theorem zp_bit1 {e j : Nat} (h : e / 2 ^ j % 2 = 1) : 2 * (e / 2 ^ (j + 1)) + 1 = e / 2 ^ j := by
  rw [Nat.pow_succ, ← Nat.div_div_eq_div_mul]; omega
theorem zn_of (x : Int32) : ∃ n : Nat, n < 2 ^ 32 ∧ x = nI n := ⟨x.toBitVec.toNat, x.toBitVec.isLt, Int32.toBitVec_inj.mp (by show _ = BitVec.ofNat 32 _; simp)⟩
theorem zn_tn (n : Nat) : (nI n).toBitVec.toNat = n % 2 ^ 32 := rfl
theorem zn_mod (n : Nat) : nI (n % 2 ^ 32) = nI n := by
  apply Int32.toBitVec_inj.mp
  apply BitVec.eq_of_toNat_eq
  rw [zn_tn, zn_tn, Nat.mod_mod]
theorem zn_m1 : nI 4294967295 = -1 := by decide
theorem zn_inj {a b : Nat} (ha : a < 2 ^ 32) (hb : b < 2 ^ 32) : nI a = nI b ↔ a = b := by
  refine ⟨fun h => ?_, fun h => by rw [h]⟩
  have h1 := congrArg (fun z : Int32 => z.toBitVec.toNat) h
  simp only [zn_tn] at h1
  rwa [Nat.mod_eq_of_lt ha, Nat.mod_eq_of_lt hb] at h1
theorem zn_toInt {n : Nat} (h : n < 2 ^ 32) : (nI n).toInt = if n < 2 ^ 31 then (n : Int) else (n : Int) - 2 ^ 32 := by
  have c := BitVec.toInt_eq_toNat_cond (nI n).toBitVec
  rw [zn_tn, Nat.mod_eq_of_lt h] at c
  show (nI n).toBitVec.toInt = _
  rw [c]
  split <;> (try split) <;> omega
theorem zn_lt {a b : Nat} (ha : a < 2 ^ 32) (hb : b < 2 ^ 31) : nI a < nI b ↔ (a < b ∨ 2 ^ 31 ≤ a) := by
  rw [Int32.lt_iff_toInt_lt, zn_toInt ha, zn_toInt (by omega)]
  split <;> (try split) <;> omega
theorem zn_le {a b : Nat} (ha : a < 2 ^ 32) (hb : b < 2 ^ 31) : nI b ≤ nI a ↔ (b ≤ a ∧ a < 2 ^ 31) := by
  rw [Int32.le_iff_toInt_le, zn_toInt ha, zn_toInt (by omega)]
  split <;> (try split) <;> omega
theorem zn_lt0 {a : Nat} (ha : a < 2 ^ 32) : nI a < 0 ↔ 2 ^ 31 ≤ a := by
  have h := zn_lt (b := 0) ha (by decide)
  rw [show (0 : Int32) = nI 0 from rfl, h]; omega
theorem zn_ge0 {a : Nat} (ha : a < 2 ^ 32) : 0 ≤ nI a ↔ a < 2 ^ 31 := by
  have h := zn_le (b := 0) ha (by decide)
  rw [show (0 : Int32) = nI 0 from rfl, h]; omega
/-- a product that fits, divided with rest by m -/
theorem zn_mulrem {a b m : Nat} (h : a * b < 2 ^ 31) (h0 : 0 < m) (hm : m < 2 ^ 31) : nI a * nI b - nI a * nI b / nI m * nI m = nI (a * b % m) := by
  rw [pk_mul, pk_rem h h0 hm]
theorem zn_prod {x y m : Nat} (h : x < m) (hy : y < m) (hm : m ≤ 10007) : x * y < 2 ^ 31 := by
  have h1 : x * y ≤ 10006 * 10006 := Nat.mul_le_mul (by omega) (by omega)
  omega
def zb (b : Bool) : Int32 := if b then 1 else 0
theorem zb_nar (b : Bool) : narrow .boolean (.int (zb b)) = .int (zb b) := by cases b <;> rfl
/-- an element of the group, an exponent (numbers below 2^32 that stand for ints) -/
def el (n : Nat) : Bool := decide (1 ≤ n) && (decide (n < 10007) && decide (n ^ 5003 % 10007 = 1))
def ex (n : Nat) : Bool := decide (n < 5003)
def ls5 (a b : Nat) : Nat := (a + 5003 - b) % 5003
theorem zs_l : ∀ n, n < 32 → ((nI n &&& 31).toBitVec.smod 32).toNat = n := by decide +kernel
theorem zn_bit {e j : Nat} (he : e < 8192) (hj : j < 13) : nI e >>> (nI j &&& 31) &&& 1 = nI (e / 2 ^ j % 2) := by
  have h1 := pk_shrN (n := e) (by omega) (nI j &&& 31) j (zs_l j (by omega))
  have h2 := pk_andN (n := e / 2 ^ j) (Nat.lt_of_le_of_lt (Nat.div_le_self _ _) (by omega)) (m := 1) 1 (by decide)
  rw [h1]
  exact h2
theorem zn_dec (x : Int32) : x + (-1) = x - 1 := (Int32.sub_eq_add_neg x 1).symm
