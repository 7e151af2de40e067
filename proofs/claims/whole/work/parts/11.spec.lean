/-! the game, as numbers: orders, places, how many can be leapt -/
def sumTo (F : Nat → Nat) : Nat → Nat
  | 0 => 0
  | n + 1 => sumTo F n + F n
theorem sumTo_le {F : Nat → Nat} {b : Nat} : ∀ {n : Nat}, (∀ c, c < n → F c ≤ b) → sumTo F n ≤ n * b
  | 0, _ => by simp [sumTo]
  | n + 1, h => by
    have h1 := sumTo_le (n := n) (fun c hc => h c (by omega))
    have h2 := h n (by omega)
    rw [sumTo, Nat.add_mul]; omega
theorem sumTo_congr {F G : Nat → Nat} : ∀ {n : Nat}, (∀ c, c < n → F c = G c) → sumTo F n = sumTo G n
  | 0, _ => rfl
  | n + 1, h => by rw [sumTo, sumTo, sumTo_congr (fun c hc => h c (by omega)), h n (by omega)]
/-- how many of the first n hold, one behind the other -/
def lead (f : Nat → Bool) : Nat → Nat
  | 0 => 0
  | n + 1 => if lead f n = n ∧ f n = true then n + 1 else lead f n
theorem lead_le {f : Nat → Bool} : ∀ {n : Nat}, lead f n ≤ n
  | 0 => Nat.le_refl _
  | n + 1 => by
    unfold lead
    have := lead_le (f := f) (n := n)
    split <;> omega
theorem lead_all {f : Nat → Bool} : ∀ {n i : Nat}, i < lead f n → f i = true
  | 0, i, h => by simp [lead] at h
  | n + 1, i, h => by
    unfold lead at h
    split at h
    · rename_i q
      by_cases e : i = n
      · rw [e]; exact q.2
      · exact lead_all (n := n) (by omega)
    · exact lead_all h
theorem lead_stop {f : Nat → Bool} : ∀ {n : Nat}, lead f n < n → f (lead f n) = false
  | 0, h => by simp at h
  | n + 1, h => by
    have hl := lead_le (f := f) (n := n)
    unfold lead at h ⊢
    split
    · rename_i q; rw [if_pos q] at h; omega
    · rename_i q
      rw [if_neg q] at h
      by_cases e : lead f n = n
      · rw [e]
        cases hf : f n with
        | false => rfl
        | true => exact absurd ⟨e, hf⟩ q
      · exact lead_stop (by omega)
theorem lead_is {f : Nat → Bool} {n j : Nat} (h1 : j ≤ n) (h2 : ∀ i, i < j → f i = true) (h3 : j = n ∨ f j = false) : lead f n = j := by
  have hl := lead_le (f := f) (n := n)
  rcases Nat.lt_trichotomy (lead f n) j with h | h | h
  · have := lead_stop (f := f) (n := n) (by omega)
    rw [h2 _ h] at this; cases this
  · exact h
  · have := lead_all h
    rcases h3 with h3 | h3
    · omega
    · rw [h3] at this; cases this
theorem lead_congr {f g : Nat → Bool} {n : Nat} (h : ∀ i, i < n → f i = g i) : lead f n = lead g n := by
  refine lead_is lead_le (fun i hi => ?_) ?_
  · rw [h i (Nat.lt_of_lt_of_le hi lead_le)]; exact lead_all hi
  · by_cases e : lead g n = n
    · exact Or.inl e
    · have hl := lead_le (f := g) (n := n)
      right; rw [h _ (by omega)]; exact lead_stop (by omega)
/-- an order of k children -/
def Pm (k : Nat) (O : Nat → Nat) : Prop := (∀ p, p < k → O p < k) ∧ (∀ p q, p < k → q < k → O p = O q → p = q) ∧ ∀ c, c < k → ∃ p, p < k ∧ O p = c
/-- the place of a child -/
def iv (O : Nat → Nat) (c : Nat) : Nat → Nat
  | 0 => 0
  | n + 1 => if O n = c then n else iv O c n
theorem iv_eq {k : Nat} {O : Nat → Nat} (h : Pm k O) {p : Nat} (hp : p < k) : iv O (O p) k = p := by
  have key : ∀ n, n ≤ k → p < n → iv O (O p) n = p := by
    intro n
    induction n with
    | zero => intro _ h; omega
    | succ n ih =>
      intro h1 h2
      unfold iv
      by_cases e : O n = O p
      · rw [if_pos e]; exact h.2.1 n p (by omega) hp e
      · rw [if_neg e]
        refine ih (by omega) ?_
        by_cases q : p = n
        · exact absurd (by rw [q]) e
        · omega
  exact key k (Nat.le_refl k) hp
theorem iv_lt {k : Nat} {O : Nat → Nat} (h : Pm k O) {c : Nat} (hc : c < k) : iv O c k < k := by
  obtain ⟨p, hp, rfl⟩ := h.2.2 c hc
  rw [iv_eq h hp]; exact hp
theorem iv_at {k : Nat} {O : Nat → Nat} (h : Pm k O) {c : Nat} (hc : c < k) : O (iv O c k) = c := by
  obtain ⟨p, hp, rfl⟩ := h.2.2 c hc
  rw [iv_eq h hp]
theorem Pm_id (k : Nat) : Pm k (fun p => p) := ⟨fun _ h => h, fun _ _ _ _ h => h, fun c h => ⟨c, h, rfl⟩⟩
/-- the one at place p leaps b backs -/
def mv (O : Nat → Nat) (p b : Nat) : Nat → Nat := fun q => if q = p - b then O p else if p - b < q ∧ q ≤ p then O (q - 1) else O q
theorem mv_Pm {k : Nat} {O : Nat → Nat} {p b : Nat} (h : Pm k O) (hp : p < k) (hb : b ≤ p) : Pm k (mv O p b) := by
  obtain ⟨h1, h2, h3⟩ := h
  have hin : ∀ q r, q < k → r < k → mv O p b q = mv O p b r → q = r := by
    intro q r hq hr e
    unfold mv at e
    (repeat' split at e) <;> first | omega | (have := h2 _ _ (by omega) (by omega) e; omega)
  refine ⟨fun q hq => ?_, hin, fun c hc => ?_⟩
  · unfold mv
    split
    · exact h1 p hp
    · split
      · exact h1 _ (by omega)
      · exact h1 q hq
  · obtain ⟨r, hr, rfl⟩ := h3 c hc
    by_cases e1 : r = p
    · exact ⟨p - b, by omega, by unfold mv; rw [if_pos rfl, e1]⟩
    · by_cases e2 : p - b ≤ r ∧ r < p
      · refine ⟨r + 1, by omega, ?_⟩
        unfold mv
        rw [if_neg (by omega), if_pos (by omega)]
        congr 1
      · refine ⟨r, hr, ?_⟩
        unfold mv
        rw [if_neg (by omega), if_neg (by omega)]
