/-! signs of a text -/
def skp (b : Nat → Int) (n a : Nat) : Nat := a + lead (fun i => decide (b (a + i) = 32)) (n - a)
def ltr (x : Int) : Prop := 97 ≤ x ∧ x ≤ 122
def dgt (x : Int) : Prop := 48 ≤ x ∧ x ≤ 57
def wl (b : Nat → Int) (n p : Nat) : Nat := lead (fun i => decide (97 ≤ b (p + i) ∧ b (p + i) ≤ 122)) (n - p)
def dl (b : Nat → Int) (n p : Nat) : Nat := lead (fun i => decide (48 ≤ b (p + i) ∧ b (p + i) ≤ 57)) (n - p)
def wtx : List Int := [99, 104, 105, 108, 100, 32, 112, 108, 97, 99, 101, 32, 98, 97, 99, 107, 32, 32, 108, 101, 97, 112, 32, 32, 98, 114, 101, 97, 116, 104, 111, 118, 101, 114, 32, 32, 108, 101, 97, 112, 116, 32, 109, 97, 110, 121, 32, 32, 99, 97, 110, 32, 32, 32, 116, 117, 114, 110, 32, 32, 105, 102, 32, 32, 32, 32, 110, 111, 116, 32, 32, 32, 97, 110, 100, 32, 32, 32, 111, 114, 32, 32, 32, 32, 108, 97, 110, 101, 32, 32]
theorem wtx_ok : ∀ i, i < 90 → ax_wd ax_txb i = jn (wtx.getD i 0) := by decide +kernel
theorem wtx_b : ∀ i, i < 90 → 0 ≤ wtx.getD i 0 ∧ wtx.getD i 0 ≤ 127 := by decide +kernel
/-- the letter of a word at a place, a blank behind it -/
def wle (b : Nat → Int) (n p j : Nat) : Int := if j < wl b n p then b (p + j) else 32
def wmt (b : Nat → Int) (n p i : Nat) : Bool := (List.range 6).all (fun j => decide (wtx.getD (6 * i + j) 0 = wle b n p j))
theorem wmt_iff {b : Nat → Int} {n p i : Nat} : wmt b n p i = true ↔ ∀ j, j < 6 → wtx.getD (6 * i + j) 0 = wle b n p j := by
  unfold wmt
  rw [List.all_eq_true]
  exact ⟨fun h j hj => of_decide_eq_true (h j (List.mem_range.mpr hj)), fun h j hj => decide_eq_true (h j (List.mem_range.mp hj))⟩
def wxf (b : Nat → Int) (n p : Nat) : Nat → Nat
  | 0 => 260
  | i + 1 => if wmt b n p i = true then 300 + i else wxf b n p i
def nv (b : Nat → Int) (p : Nat) : Nat → Nat
  | 0 => 0
  | i + 1 => 10 * nv b p i + (b (p + i) - 48).toNat
def numb (b : Nat → Int) (n p : Nat) : Int := if dl b n p ≤ 5 then (nv b p (dl b n p) : Nat) else -1
def mk8 (x : Int) : Nat := (x % 256).toNat
def sgn (b : Nat → Int) (n p : Nat) : Nat :=
  if n ≤ p then 256 else if 97 ≤ b p ∧ b p ≤ 122 then (if wl b n p ≤ 6 then wxf b n p 15 else 260) else if 48 ≤ b p ∧ b p ≤ 57 then 257
  else if (b p = 60 ∨ b p = 62) ∧ p + 1 < n ∧ b (p + 1) = 61 then (if b p = 60 then 258 else 259) else mk8 (b p)
def en (b : Nat → Int) (n p : Nat) : Nat :=
  if n ≤ p then p else if 97 ≤ b p ∧ b p ≤ 122 then p + wl b n p else if 48 ≤ b p ∧ b p ≤ 57 then p + dl b n p
  else if (b p = 60 ∨ b p = 62) ∧ p + 1 < n ∧ b (p + 1) = 61 then p + 2 else p + 1
theorem skp_le {b : Nat → Int} {n a : Nat} (h : a ≤ n) : a ≤ skp b n a ∧ skp b n a ≤ n := by
  have := lead_le (f := fun i => decide (b (a + i) = 32)) (n := n - a)
  unfold skp; omega
theorem skp_stop {b : Nat → Int} {n a : Nat} (h : skp b n a < n) : b (skp b n a) ≠ 32 := by
  unfold skp at h ⊢
  exact of_decide_eq_false (lead_stop (f := fun i => decide (b (a + i) = 32)) (n := n - a) (by omega))
theorem skp_is {b : Nat → Int} {n a q : Nat} (h1 : a ≤ q) (h2 : q ≤ n) (h3 : ∀ i, a ≤ i → i < q → b i = 32) (h4 : q = n ∨ b q ≠ 32) : skp b n a = q := by
  unfold skp
  have : lead (fun i => decide (b (a + i) = 32)) (n - a) = q - a := by
    refine lead_is (by omega) (fun i hi => decide_eq_true (h3 _ (by omega) (by omega))) ?_
    rcases h4 with h4 | h4
    · left; omega
    · right; rw [show a + (q - a) = q by omega]; exact decide_eq_false h4
  omega
theorem skp_skp {b : Nat → Int} {n a : Nat} (h : a ≤ n) : skp b n (skp b n a) = skp b n a := by
  have := skp_le (b := b) h
  refine skp_is (Nat.le_refl _) this.2 (fun i h1 h2 => by omega) ?_
  by_cases e : skp b n a < n
  · exact Or.inr (skp_stop e)
  · left; omega
theorem wl_le {b : Nat → Int} {n p : Nat} : wl b n p ≤ n - p := lead_le
theorem dl_le {b : Nat → Int} {n p : Nat} : dl b n p ≤ n - p := lead_le
theorem wl_pos {b : Nat → Int} {n p : Nat} (h : p < n) (hb : 97 ≤ b p ∧ b p ≤ 122) : 0 < wl b n p := by
  rcases Nat.eq_zero_or_pos (wl b n p) with e | e
  · have := lead_stop (f := fun i => decide (97 ≤ b (p + i) ∧ b (p + i) ≤ 122)) (n := n - p) (by show wl b n p < _; omega)
    rw [show lead _ (n - p) = 0 from e] at this
    exact absurd hb (of_decide_eq_false this)
  · exact e
theorem dl_pos {b : Nat → Int} {n p : Nat} (h : p < n) (hb : 48 ≤ b p ∧ b p ≤ 57) : 0 < dl b n p := by
  rcases Nat.eq_zero_or_pos (dl b n p) with e | e
  · have := lead_stop (f := fun i => decide (48 ≤ b (p + i) ∧ b (p + i) ≤ 57)) (n := n - p) (by show dl b n p < _; omega)
    rw [show lead _ (n - p) = 0 from e] at this
    exact absurd hb (of_decide_eq_false this)
  · exact e
theorem en_le {b : Nat → Int} {n p : Nat} (h : p ≤ n) : p ≤ en b n p ∧ en b n p ≤ n := by
  have h1 := wl_le (b := b) (n := n) (p := p)
  have h2 := dl_le (b := b) (n := n) (p := p)
  unfold en
  split
  · omega
  · split
    · omega
    · split
      · omega
      · split <;> omega
theorem en_lt {b : Nat → Int} {n p : Nat} (h : p < n) : p < en b n p := by
  unfold en
  rw [if_neg (by omega)]
  split
  · have := wl_pos h (by assumption); omega
  · split
    · have := dl_pos h (by assumption); omega
    · split <;> omega
theorem nv_lt {b : Nat → Int} {p : Nat} : ∀ {i : Nat}, (∀ j, j < i → 48 ≤ b (p + j) ∧ b (p + j) ≤ 57) → nv b p i < 10 ^ i
  | 0, _ => by simp [nv]
  | i + 1, h => by
    have h1 := nv_lt (i := i) (fun j hj => h j (by omega))
    have h2 := h i (by omega)
    rw [Nat.pow_succ]; unfold nv; omega
theorem dl_all {b : Nat → Int} {n p j : Nat} (h : j < dl b n p) : 48 ≤ b (p + j) ∧ b (p + j) ≤ 57 := of_decide_eq_true (lead_all h)
theorem wl_all {b : Nat → Int} {n p j : Nat} (h : j < wl b n p) : 97 ≤ b (p + j) ∧ b (p + j) ≤ 122 := of_decide_eq_true (lead_all h)
theorem numb_r {b : Nat → Int} {n p : Nat} : -1 ≤ numb b n p ∧ numb b n p < 100000 := by
  unfold numb
  split
  · rename_i q
    have h1 := nv_lt (b := b) (p := p) (i := dl b n p) (fun j hj => dl_all hj)
    have h2 : 10 ^ dl b n p ≤ 10 ^ 5 := Nat.pow_le_pow_right (by decide) q
    omega
  · omega
theorem wxf_r {b : Nat → Int} {n p : Nat} : ∀ {i : Nat}, wxf b n p i = 260 ∨ (300 ≤ wxf b n p i ∧ wxf b n p i < 300 + i)
  | 0 => Or.inl rfl
  | i + 1 => by
    unfold wxf
    have := wxf_r (b := b) (n := n) (p := p) (i := i)
    split
    · right; omega
    · rcases this with h | h
      · exact Or.inl h
      · right; omega
theorem mk8_lt {x : Int} : mk8 x < 256 := by unfold mk8; omega
theorem sgn_lt {b : Nat → Int} {n p : Nat} : sgn b n p < 315 := by
  have h1 := wxf_r (b := b) (n := n) (p := p) (i := 15)
  have h2 := mk8_lt (x := b p)
  unfold sgn
  repeat' split
  all_goals omega
