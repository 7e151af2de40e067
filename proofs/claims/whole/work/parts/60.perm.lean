/-! orders by number: how many lesser ones are behind -/
def fc : Nat → Nat
  | 0 => 1
  | n + 1 => (n + 1) * fc n
theorem fc_pos : ∀ {n : Nat}, 0 < fc n
  | 0 => by show 0 < 1; omega
  | n + 1 => Nat.mul_pos (by omega) fc_pos
theorem cnt_succ {f : Nat → Bool} {n : Nat} : cnt f (n + 1) = cnt f n + (if f n = true then 1 else 0) := rfl
theorem cnt_sum {f : Nat → Bool} : ∀ {n : Nat}, cnt f n = sumTo (fun c => if f c = true then 1 else 0) n
  | 0 => rfl
  | n + 1 => by rw [cnt_succ, sumTo, cnt_sum]
theorem sumTo_zero : ∀ {n : Nat}, sumTo (fun _ => 0) n = 0
  | 0 => rfl
  | n + 1 => by rw [sumTo, sumTo_zero]
theorem sumTo_add {F G : Nat → Nat} : ∀ {n : Nat}, sumTo (fun c => F c + G c) n = sumTo F n + sumTo G n
  | 0 => rfl
  | n + 1 => by simp only [sumTo]; rw [sumTo_add]; omega
theorem sumTo_swap {F : Nat → Nat → Nat} {k : Nat} : ∀ {n : Nat}, sumTo (fun i => sumTo (fun j => F i j) k) n = sumTo (fun j => sumTo (fun i => F i j) n) k
  | 0 => by show 0 = sumTo (fun _ => 0) k; rw [sumTo_zero]
  | n + 1 => by
    show sumTo (fun i => sumTo (fun j => F i j) k) n + sumTo (fun j => F n j) k = sumTo (fun j => sumTo (fun i => F i j) n + F n j) k
    rw [sumTo_swap, sumTo_add]
theorem sumTo_one {a x : Nat} : ∀ {n : Nat}, sumTo (fun c => if c = a then x else 0) n = if a < n then x else 0
  | 0 => by rw [if_neg (by omega)]; rfl
  | n + 1 => by
    rw [sumTo, sumTo_one]
    by_cases e : n = a
    · subst e; rw [if_neg (by omega), if_pos rfl, if_pos (by omega)]; omega
    · rw [if_neg e]
      by_cases h : a < n
      · rw [if_pos h, if_pos (by omega)]; rfl
      · rw [if_neg h, if_neg (by omega)]
/-- to count children is to count places -/
theorem cnt_perm {m : Nat} {r : Nat → Nat} (h : Pm m r) {f : Nat → Bool} : cnt (fun j => f (r j)) m = cnt f m := by
  have e1 : cnt (fun j => f (r j)) m = sumTo (fun j => sumTo (fun c => if c = r j then (if f (r j) = true then 1 else 0) else 0) m) m := by
    rw [cnt_sum]
    refine sumTo_congr (fun j hj => ?_)
    rw [sumTo_one, if_pos (h.1 j hj)]
  have e2 : cnt f m = sumTo (fun c => sumTo (fun j => if j = iv r c m then (if f c = true then 1 else 0) else 0) m) m := by
    rw [cnt_sum]
    refine sumTo_congr (fun c hc => ?_)
    rw [sumTo_one, if_pos (iv_lt h hc)]
  rw [e1, e2, sumTo_swap]
  refine sumTo_congr (fun c hc => sumTo_congr (fun j hj => ?_))
  by_cases e : c = r j
  · subst e
    rw [if_pos rfl, if_pos (iv_eq h hj).symm]
  · rw [if_neg e, if_neg]
    intro q
    rw [q, iv_at h hc] at e
    exact e rfl
theorem cnt_not {f : Nat → Bool} : ∀ {n : Nat}, cnt f n + cnt (fun c => !f c) n = n
  | 0 => rfl
  | n + 1 => by
    rw [cnt_succ, cnt_succ]
    have := cnt_not (f := f) (n := n)
    cases hf : f n
    · rw [if_neg (by decide), if_pos (by decide)]; omega
    · rw [if_pos rfl, if_neg (by decide)]; omega
/-- what is below a bound alone -/
theorem cnt_cut {f : Nat → Bool} {a : Nat} : ∀ {n : Nat}, cnt (fun c => f c && decide (c < a)) n = cnt f (min a n)
  | 0 => by rw [Nat.min_zero]; rfl
  | n + 1 => by
    rw [cnt_succ, cnt_cut]
    by_cases e : n < a
    · rw [Nat.min_eq_right (by omega), Nat.min_eq_right (by omega), cnt_succ]
      simp [e]
    · rw [Nat.min_eq_left (by omega), Nat.min_eq_left (by omega)]
      simp [e]
theorem cnt_ext {f g : Nat → Bool} {a : Nat} (h : ∀ c, c ≠ a → f c = g c) (ha : f a = true) (hb : g a = false) : ∀ {n : Nat}, cnt f n = cnt g n + (if a < n then 1 else 0)
  | 0 => by rw [if_neg (by omega)]; rfl
  | n + 1 => by
    rw [cnt_succ, cnt_succ, cnt_ext h ha hb]
    by_cases e : n = a
    · subst e; rw [ha, hb, if_neg (by omega), if_pos rfl, if_neg (by decide), if_pos (by omega)]
    · rw [h n e]
      by_cases q : a < n
      · rw [if_pos q, if_pos (show a < n + 1 by omega)]; omega
      · rw [if_neg q, if_neg (show ¬ a < n + 1 by omega)]; omega
/-- of a place: how many lesser ones are behind -/
def ls (m : Nat) (r : Nat → Nat) (i : Nat) : Nat := cnt (fun j => decide (i < j) && decide (r j < r i)) m
theorem ls_c {m : Nat} {r : Nat → Nat} (h : Pm m r) {i : Nat} (hi : i < m) : ls m r i = cnt (fun c => decide (i ≤ iv r c m)) (r i) := by
  have e := cnt_perm h (f := fun c => decide (i ≤ iv r c m) && decide (c < r i))
  rw [cnt_cut, Nat.min_eq_left (Nat.le_of_lt (h.1 i hi))] at e
  rw [← e]
  refine cnt_congr (fun j hj => ?_)
  rw [iv_eq h hj]
  by_cases q : i = j
  · subst q; simp
  · have : decide (i < j) = decide (i ≤ j) := decide_eq_decide.mpr (by omega)
    rw [this]
theorem cnt_lo {i : Nat} {f : Nat → Bool} : ∀ {m : Nat}, cnt (fun j => decide (i < j) && f j) m ≤ m - 1 - i
  | 0 => by show 0 ≤ _; omega
  | m + 1 => by
    rw [cnt_succ]
    have := cnt_lo (i := i) (f := f) (m := m)
    by_cases e : i < m
    · split <;> omega
    · rw [if_neg (by simp [e])]; omega
theorem ls_le {m : Nat} {r : Nat → Nat} {i : Nat} : ls m r i ≤ m - 1 - i := cnt_lo
/-- the number of what is behind -/
def rt (m : Nat) (r : Nat → Nat) : Nat → Nat
  | 0 => 0
  | d + 1 => ls m r (m - (d + 1)) * fc d + rt m r d
def rk (m : Nat) (r : Nat → Nat) : Nat := rt m r m
theorem rt_lt {m : Nat} {r : Nat → Nat} : ∀ {d : Nat}, d ≤ m → rt m r d < fc d
  | 0, _ => by show 0 < 1; omega
  | d + 1, h => by
    have h1 := rt_lt (m := m) (r := r) (d := d) (by omega)
    have h2 : ls m r (m - (d + 1)) ≤ d := by
      have := ls_le (m := m) (r := r) (i := m - (d + 1)); omega
    show ls m r (m - (d + 1)) * fc d + rt m r d < (d + 1) * fc d
    have h3 := Nat.mul_le_mul_right (fc d) h2
    rw [Nat.add_mul, Nat.one_mul]; omega
theorem rk_lt {m : Nat} {r : Nat → Nat} (hm : m ≤ 7) : rk m r < 5040 := by
  have h := rt_lt (m := m) (r := r) (Nat.le_refl m)
  have : fc m ≤ 5040 := by
    have q : ∀ k : Fin 8, fc k.val ≤ 5040 := by decide
    exact q ⟨m, by omega⟩
  unfold rk; omega
theorem rk_sum {m : Nat} {r : Nat → Nat} : ∀ {p : Nat}, p ≤ m → sumTo (fun i => ls m r i * fc (m - 1 - i)) p + rt m r (m - p) = rk m r
  | 0, _ => by show 0 + rt m r m = rk m r; unfold rk; omega
  | p + 1, h => by
    have e := rk_sum (m := m) (r := r) (p := p) (by omega)
    rw [show m - p = (m - (p + 1)) + 1 by omega, rt, show m - (m - (p + 1) + 1) = p by omega, show m - (p + 1) = m - 1 - p by omega] at e
    rw [sumTo, show m - (p + 1) = m - 1 - p by omega]; omega
theorem rk_all {m : Nat} {r : Nat → Nat} : sumTo (fun i => ls m r i * fc (m - 1 - i)) m = rk m r := by
  have := rk_sum (m := m) (r := r) (Nat.le_refl m)
  rw [Nat.sub_self] at this; exact this
theorem rt_div {m : Nat} {r : Nat → Nat} {i : Nat} (h : i < m) : rt m r (m - i) / fc (m - 1 - i) = ls m r i ∧ rt m r (m - i) % fc (m - 1 - i) = rt m r (m - (i + 1)) := by
  have h1 := rt_lt (m := m) (r := r) (d := m - (i + 1)) (by omega)
  have hp := fc_pos (n := m - 1 - i)
  rw [show m - i = (m - (i + 1)) + 1 by omega, rt, show m - (m - (i + 1) + 1) = i by omega]
  rw [show m - (i + 1) = m - 1 - i by omega] at h1 ⊢
  rw [Nat.mul_comm]
  constructor
  · rw [Nat.mul_add_div hp, Nat.div_eq_of_lt h1, Nat.add_zero]
  · rw [Nat.mul_add_mod, Nat.mod_eq_of_lt h1]
