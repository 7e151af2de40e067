/-! an order in one number, three bits a place -/
def p8 (m : Nat) (r : Nat → Nat) : Nat := sumTo (fun i => r i * 8 ^ i) m
theorem p8_lt {r : Nat → Nat} : ∀ {m : Nat}, (∀ i, i < m → r i < 8) → p8 m r < 8 ^ m
  | 0, _ => by show 0 < 1; omega
  | m + 1, h => by
    have h1 := p8_lt (r := r) (m := m) (fun i hi => h i (by omega))
    have h2 := Nat.mul_le_mul_right (8 ^ m) (show r m ≤ 7 by have := h m (by omega); omega)
    show p8 m r + r m * 8 ^ m < 8 ^ (m + 1)
    rw [Nat.pow_succ]; omega
theorem p8_bit {r : Nat → Nat} {t : Nat} : ∀ {m : Nat}, (∀ i, i < m → r i < 8) → (p8 m r).testBit t = (decide (t < 3 * m) && (r (t / 3)).testBit (t % 3))
  | 0, _ => by show (0 : Nat).testBit t = _; rw [Nat.zero_testBit]; simp
  | m + 1, h => by
    have h1 := p8_lt (r := r) (m := m) (fun i hi => h i (by omega))
    have e8 : (8 : Nat) ^ m = 2 ^ (3 * m) := by rw [Nat.pow_mul]
    have hm := h m (by omega)
    show (p8 m r + r m * 8 ^ m).testBit t = _
    rw [e8] at h1 ⊢
    rw [Nat.add_comm, Nat.mul_comm, Nat.testBit_two_pow_mul_add _ h1]
    by_cases e : t < 3 * m
    · rw [if_pos e, p8_bit (fun i hi => h i (by omega)), decide_eq_true e, decide_eq_true (show t < 3 * (m + 1) by omega)]
    · rw [if_neg e]
      by_cases e2 : t < 3 * (m + 1)
      · rw [decide_eq_true e2, Bool.true_and, show t / 3 = m by omega, show t % 3 = t - 3 * m by omega]
      · rw [decide_eq_false e2, Bool.false_and]
        refine Nat.testBit_lt_two_pow (Nat.lt_of_lt_of_le hm ?_)
        exact Nat.pow_le_pow_right (n := 2) (i := 3) (by omega) (by omega)
theorem p8_at {m : Nat} {r : Nat → Nat} (h : ∀ i, i < m → r i < 8) {i : Nat} (hi : i < m) : p8 m r / 8 ^ i % 8 = r i := by
  have e8 : (8 : Nat) ^ i = 2 ^ (3 * i) := by rw [Nat.pow_mul]
  refine Nat.eq_of_testBit_eq (fun t => ?_)
  rw [show (8 : Nat) = 2 ^ 3 from rfl, Nat.testBit_mod_two_pow, show ((2 : Nat) ^ 3) ^ i = 2 ^ (3 * i) from e8, Nat.testBit_div_two_pow, p8_bit h]
  by_cases e : t < 3
  · rw [decide_eq_true e, Bool.true_and, decide_eq_true (show t + 3 * i < 3 * m by omega), Bool.true_and, show (t + 3 * i) / 3 = i by omega, show (t + 3 * i) % 3 = t by omega]
  · rw [decide_eq_false e, Bool.false_and]
    symm
    refine Nat.testBit_lt_two_pow (Nat.lt_of_lt_of_le (h i hi) ?_)
    exact Nat.pow_le_pow_right (n := 2) (i := 3) (by omega) (by omega)
theorem p8_inj {m : Nat} {r s : Nat → Nat} (hr : ∀ i, i < m → r i < 8) (hs : ∀ i, i < m → s i < 8) (e : p8 m r = p8 m s) : ∀ i, i < m → r i = s i := fun i hi => by rw [← p8_at hr hi, ← p8_at hs hi, e]
theorem xor_lt {x y : Nat} (hx : x < 8) (hy : y < 8) : x ^^^ y < 8 := Nat.xor_lt_two_pow (n := 3) hx hy
theorem p8_sw {m : Nat} {r : Nat → Nat} {i : Nat} (h : ∀ i, i < m → r i < 8) (hi : i + 1 < m) : p8 m r ^^^ ((r (i + 1) ^^^ r i) * 9 * 8 ^ i) = p8 m (sw r i) := by
  have hx := xor_lt (h (i + 1) hi) (h i (by omega))
  have e1 : (r (i + 1) ^^^ r i) * 9 * 8 ^ i = p8 m (fun q => if q = i ∨ q = i + 1 then (r (i + 1) ^^^ r i) else 0) := by
    have k := (sumTo_two (F := fun _ => 0) (G := fun q => (if q = i ∨ q = i + 1 then (r (i + 1) ^^^ r i) else 0) * 8 ^ q) (i := i) (fun q a b => by
      show (if q = i ∨ q = i + 1 then _ else 0) * 8 ^ q = 0
      rw [if_neg (by omega), Nat.zero_mul]) (n := m)).2.2 hi
    generalize hX : r (i + 1) ^^^ r i = x at k ⊢
    have k' : sumTo (fun q => (if q = i ∨ q = i + 1 then x else 0) * 8 ^ q) m + 0 + 0 = sumTo (fun _ => 0) m + (if i = i ∨ i = i + 1 then x else 0) * 8 ^ i + (if i + 1 = i ∨ i + 1 = i + 1 then x else 0) * 8 ^ (i + 1) := k
    rw [sumTo_zero, if_pos (Or.inl rfl), if_pos (Or.inr rfl)] at k'
    show _ = sumTo (fun q => (if q = i ∨ q = i + 1 then x else 0) * 8 ^ q) m
    have e10 : x * 8 ^ (i + 1) = x * 8 ^ i * 8 := by rw [Nat.pow_succ, Nat.mul_assoc]
    have e11 : x * 9 * 8 ^ i = x * 8 ^ i * 9 := by rw [Nat.mul_assoc, Nat.mul_comm 9, ← Nat.mul_assoc]
    omega
  have hs : ∀ q, q < m → sw r i q < 8 := by
    intro q hq
    by_cases a : q = i
    · rw [a, sw_a]; exact h _ hi
    · by_cases b : q = i + 1
      · rw [b, sw_b]; exact h _ (by omega)
      · rw [sw_c a b]; exact h q hq
  rw [e1]
  refine Nat.eq_of_testBit_eq (fun t => ?_)
  rw [Nat.testBit_xor, p8_bit h, p8_bit (fun q hq => by split; exact hx; omega), p8_bit hs]
  by_cases e : t < 3 * m
  · rw [decide_eq_true e, Bool.true_and, Bool.true_and, Bool.true_and, ← Nat.testBit_xor]
    congr 1
    by_cases a : t / 3 = i
    · rw [if_pos (Or.inl a), a, sw_a, Nat.xor_comm (r (i + 1)), ← Nat.xor_assoc, Nat.xor_self, Nat.zero_xor]
    · by_cases b : t / 3 = i + 1
      · rw [if_pos (Or.inr b), b, sw_b, ← Nat.xor_assoc, Nat.xor_self, Nat.zero_xor]
      · rw [if_neg (by omega), sw_c a b, Nat.xor_zero]
  · rw [decide_eq_false e, Bool.false_and, Bool.false_and, Bool.false_and]; rfl
theorem pow8 {m : Nat} (h : m ≤ 7) : (8 : Nat) ^ m ≤ 2097152 := Nat.le_trans (Nat.pow_le_pow_right (by omega) h) (by decide)
theorem Pm8 {m : Nat} {r : Nat → Nat} (hm : m ≤ 7) (h : Pm m r) : ∀ i, i < m → r i < 8 := fun i hi => by have := h.1 i hi; omega
