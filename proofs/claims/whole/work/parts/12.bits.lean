/-! sets of children as bits -/
def bs (f : Nat → Bool) : Nat → Nat
  | 0 => 0
  | n + 1 => bs f n ||| (if f n = true then 2 ^ n else 0)
theorem bs_bit {f : Nat → Bool} {c : Nat} : ∀ {n : Nat}, (bs f n).testBit c = (decide (c < n) && f c)
  | 0 => by simp [bs]
  | n + 1 => by
    unfold bs
    rw [Nat.testBit_or, bs_bit (n := n)]
    by_cases e : c = n
    · subst e
      cases hf : f c <;> simp
    · by_cases hf : f n = true
      · rw [if_pos hf, Nat.testBit_two_pow_of_ne (fun h => e h.symm)]
        have : decide (c < n + 1) = decide (c < n) := decide_eq_decide.mpr (by omega)
        rw [this, Bool.or_false]
      · rw [if_neg hf, Nat.zero_testBit]
        have : decide (c < n + 1) = decide (c < n) := decide_eq_decide.mpr (by omega)
        rw [this, Bool.or_false]
theorem bs_lt {f : Nat → Bool} {n : Nat} : bs f n < 2 ^ n := by
  refine Nat.lt_pow_two_of_testBit _ (fun i hi => ?_)
  rw [bs_bit]
  have : decide (i < n) = false := decide_eq_false (by omega)
  rw [this, Bool.false_and]
theorem bs_lt7 {f : Nat → Bool} {n : Nat} (h : n ≤ 7) : bs f n < 128 := Nat.lt_of_lt_of_le bs_lt (Nat.pow_le_pow_right (by decide) h)
theorem bs_congr {f g : Nat → Bool} : ∀ {n : Nat}, (∀ c, c < n → f c = g c) → bs f n = bs g n
  | 0, _ => rfl
  | n + 1, h => by rw [bs, bs, bs_congr (fun c hc => h c (by omega)), h n (by omega)]
theorem bs_is {f : Nat → Bool} {n x : Nat} (h : ∀ c, x.testBit c = (decide (c < n) && f c)) : x = bs f n := Nat.eq_of_testBit_eq (fun c => by rw [h, bs_bit])
theorem jn_nat (a : Nat) : jn (a : Int) = ⟨⟨BitVec.ofNat 32 a⟩⟩ := by
  show Int32.ofInt a = _
  rw [Int32.ofInt_eq_ofNat]; rfl
theorem jn_or (a b : Nat) : jn (a : Int) ||| jn (b : Int) = jn ((a ||| b : Nat) : Int) := by
  rw [jn_nat, jn_nat, jn_nat, BitVec.ofNat_or]; rfl
theorem jn_and (a b : Nat) : jn (a : Int) &&& jn (b : Int) = jn ((a &&& b : Nat) : Int) := by
  rw [jn_nat, jn_nat, jn_nat, BitVec.ofNat_and]; rfl
theorem jn_xor (a b : Nat) : jn (a : Int) ^^^ jn (b : Int) = jn ((a ^^^ b : Nat) : Int) := by
  rw [jn_nat, jn_nat, jn_nat, BitVec.ofNat_xor]; rfl
theorem jn_bit {c : Nat} (h : c < 31) : (1 : Int32) <<< (jn (c : Int) &&& 31) = jn ((2 ^ c : Nat) : Int) := by
  have : ∀ c : Fin 31, (1 : Int32) <<< (jn (c.val : Int) &&& 31) = jn ((2 ^ c.val : Nat) : Int) := by decide +kernel
  exact this ⟨c, h⟩
theorem jn_tst {n c : Nat} (hn : n < 128) (hc : c < 8) : ((((jn (n : Int)) >>> (jn (c : Int) &&& 31)) &&& (1 : Int32)) = 0) = (n.testBit c = false) := by
  have : ∀ n : Fin 128, ∀ c : Fin 8, (((((jn (n.val : Int)) >>> (jn (c.val : Int) &&& 31)) &&& (1 : Int32)) = 0) ↔ (n.val.testBit c.val = false)) := by decide +kernel
  exact propext (this ⟨n, hn⟩ ⟨c, hc⟩)
theorem jn_tst1 {n c : Nat} (hn : n < 128) (hc : c < 8) : ((((jn (n : Int)) >>> (jn (c : Int) &&& 31)) &&& (1 : Int32)) = 1) = (n.testBit c = true) := by
  have : ∀ n : Fin 128, ∀ c : Fin 8, (((((jn (n.val : Int)) >>> (jn (c.val : Int) &&& 31)) &&& (1 : Int32)) = 1) ↔ (n.val.testBit c.val = true)) := by decide +kernel
  exact propext (this ⟨n, hn⟩ ⟨c, hc⟩)
/-- how many of the first n are in a set -/
def cnt (f : Nat → Bool) : Nat → Nat
  | 0 => 0
  | n + 1 => cnt f n + (if f n = true then 1 else 0)
theorem cnt_le {f : Nat → Bool} : ∀ {n : Nat}, cnt f n ≤ n
  | 0 => Nat.le_refl _
  | n + 1 => by
    unfold cnt
    have := cnt_le (f := f) (n := n)
    split <;> omega
theorem cnt_congr {f g : Nat → Bool} : ∀ {n : Nat}, (∀ c, c < n → f c = g c) → cnt f n = cnt g n
  | 0, _ => rfl
  | n + 1, h => by rw [cnt, cnt, cnt_congr (fun c hc => h c (by omega)), h n (by omega)]
theorem cnt_bs {f : Nat → Bool} {n m : Nat} (h : n ≤ m) : cnt (fun c => (bs f n).testBit c) m = cnt f n := by
  have h0 : ∀ d, cnt (fun c => (bs f n).testBit c) (n + d) = cnt (fun c => (bs f n).testBit c) n := by
    intro d
    induction d with
    | zero => rfl
    | succ d ih =>
      show cnt (fun c => (bs f n).testBit c) (n + d) + (if (bs f n).testBit (n + d) = true then 1 else 0) = _
      rw [ih, bs_bit]
      have : decide (n + d < n) = false := decide_eq_false (by omega)
      rw [this]; simp
  have := h0 (m - n)
  rw [show n + (m - n) = m by omega] at this
  rw [this]
  refine cnt_congr (fun c hc => ?_)
  rw [bs_bit]
  have : decide (c < n) = true := decide_eq_true hc
  rw [this, Bool.true_and]
