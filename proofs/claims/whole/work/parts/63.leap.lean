/-! the graph of leaps, its nodes the orders' numbers -/
/-- a child can leap so many backs -/
def okl (m sp : Nat) (cl : Nat → Nat → Bool) (r : Nat → Nat) (c k : Nat) : Prop := c < m ∧ 1 ≤ k ∧ k ≤ sp ∧ k ≤ iv r c m ∧ ∀ j, 1 ≤ j → j ≤ k → cl c (r (iv r c m - j)) = true
/-- what comes of it -/
def nxl (m : Nat) (r : Nat → Nat) (c k : Nat) : Nat → Nat := mv r (iv r c m) k
def Lg (m sp : Nat) (cl : Nat → Nat → Bool) (a l b : Nat) : Prop := ∃ r, Pm m r ∧ rk m r = a ∧ okl m sp cl r (l / 8) (l % 8) ∧ rk m (nxl m r (l / 8) (l % 8)) = b
section LG
variable {m sp : Nat} {cl : Nat → Nat → Bool} {r s : Nat → Nat}
theorem iv_congr {c : Nat} : ∀ {n : Nat}, (∀ q, q < n → r q = s q) → iv r c n = iv s c n
  | 0, _ => rfl
  | n + 1, h => by unfold iv; rw [h n (by omega), iv_congr (fun q hq => h q (by omega))]
theorem ls_congr {i : Nat} (h : ∀ q, q < m → r q = s q) (hi : i < m) : ls m r i = ls m s i := by
  unfold ls
  refine cnt_congr (fun j hj => ?_)
  rw [h j hj, h i hi]
theorem rk_congr (h : ∀ q, q < m → r q = s q) : rk m r = rk m s := by
  rw [← rk_all, ← rk_all]
  exact sumTo_congr (fun c hc => by rw [ls_congr h hc])
theorem nxl_Pm {c k : Nat} (h : Pm m r) (ho : okl m sp cl r c k) : Pm m (nxl m r c k) := mv_Pm h (iv_lt h ho.1) ho.2.2.2.1
theorem nxl_congr {c k : Nat} (h : ∀ q, q < m → r q = s q) (hr : Pm m r) (hc : c < m) : ∀ q, q < m → nxl m r c k q = nxl m s c k q := by
  intro q hq
  have h1 := iv_lt hr hc
  unfold nxl
  rw [← iv_congr (c := c) h]
  unfold mv
  split
  · exact h _ h1
  · split
    · exact h _ (by omega)
    · exact h q hq
theorem okl_congr {c k : Nat} (h : ∀ q, q < m → r q = s q) (hr : Pm m r) (ho : okl m sp cl r c k) : okl m sp cl s c k := by
  obtain ⟨h1, h2, h3, h4, h5⟩ := ho
  have h6 := iv_lt hr h1
  refine ⟨h1, h2, h3, ?_, fun j a b => ?_⟩
  · rw [← iv_congr (c := c) h]; exact h4
  · rw [← iv_congr (c := c) h, ← h _ (by omega)]; exact h5 j a b
/-- the steps from an order -/
theorem Lg_iff (hm : m ≤ 7) (hr : Pm m r) {l b : Nat} : Lg m sp cl (rk m r) l b ↔ okl m sp cl r (l / 8) (l % 8) ∧ rk m (nxl m r (l / 8) (l % 8)) = b := by
  constructor
  · rintro ⟨s, hs, e, h1, h2⟩
    have e2 := rk_inj hm hs hr e
    refine ⟨okl_congr e2 hs h1, ?_⟩
    rw [← h2]
    exact rk_congr (fun q hq => (nxl_congr e2 hs h1.1 q hq).symm)
  · rintro ⟨h1, h2⟩; exact ⟨r, hr, rfl, h1, h2⟩
theorem Lg_ok {a l b : Nat} (h : Lg m sp cl a l b) : ∃ r, Pm m r ∧ rk m r = b := by
  obtain ⟨r, h1, h2, h3, h4⟩ := h
  exact ⟨_, nxl_Pm h1 h3, h4⟩
theorem Lg_congr {cl' : Nat → Nat → Bool} (h : ∀ c d, c < m → d < m → cl c d = cl' c d) {a l b : Nat} (hg : Lg m sp cl a l b) : Lg m sp cl' a l b := by
  obtain ⟨r, h1, h2, h3, h4⟩ := hg
  refine ⟨r, h1, h2, ⟨h3.1, h3.2.1, h3.2.2.1, h3.2.2.2.1, fun j a b => ?_⟩, h4⟩
  have := iv_lt h1 h3.1
  rw [← h _ _ h3.1 (h1.1 _ (by omega))]; exact h3.2.2.2.2 j a b
end LG
/-- to count what is found -/
theorem cnt_img {F M : Nat} {ro : Nat → Nat} {p g : Nat → Bool} (hi : ∀ i j, i < F → j < F → ro i = ro j → i = j) (hM : ∀ j, j < F → ro j < M) (hg : ∀ k, k < M → (g k = true ↔ ∃ j, j < F ∧ ro j = k ∧ p j = true)) : cnt g M = cnt p F := by
  have e1 : cnt p F = sumTo (fun j => sumTo (fun k => if k = ro j then (if p j = true then 1 else 0) else 0) M) F := by
    rw [cnt_sum]
    refine sumTo_congr (fun j hj => ?_)
    rw [sumTo_one, if_pos (hM j hj)]
  rw [e1, sumTo_swap, cnt_sum]
  refine sumTo_congr (fun k hk => ?_)
  by_cases h : g k = true
  · rw [if_pos h]
    obtain ⟨j, h1, h2, h3⟩ := (hg k hk).mp h
    have : sumTo (fun i => if k = ro i then (if p i = true then 1 else 0) else 0) F = sumTo (fun i => if i = j then 1 else 0) F := by
      refine sumTo_congr (fun i hi' => ?_)
      by_cases e : i = j
      · subst e; rw [if_pos h2.symm, if_pos h3, if_pos rfl]
      · rw [if_neg, if_neg e]
        intro q; exact e (hi i j hi' h1 (by rw [h2, q]))
    rw [this, sumTo_one, if_pos h1]
  · rw [if_neg h]
    have : sumTo (fun i => if k = ro i then (if p i = true then 1 else 0) else 0) F = sumTo (fun _ => 0) F := by
      refine sumTo_congr (fun i hi' => ?_)
      by_cases e : k = ro i
      · rw [if_pos e, if_neg]
        intro q; exact h ((hg k hk).mpr ⟨i, hi', e.symm, q⟩)
      · rw [if_neg e]
    rw [this, sumTo_zero]
theorem cnt_true : ∀ {n : Nat}, cnt (fun _ => true) n = n
  | 0 => rfl
  | n + 1 => by rw [cnt_succ, cnt_true]; rfl
/-- no more are found than there are -/
theorem inj_le {F M : Nat} {ro : Nat → Nat} (hi : ∀ i j, i < F → j < F → ro i = ro j → i = j) (hM : ∀ j, j < F → ro j < M) : F ≤ M := by
  have h := cnt_img (p := fun _ => true) (g := fun k => decide (ro (iv ro k F) = k ∧ iv ro k F < F)) hi hM (fun k hk => ?_)
  · rw [cnt_true] at h
    rw [← h]; exact cnt_le
  · rw [decide_eq_true_iff]
    constructor
    · intro q; exact ⟨_, q.2, q.1, rfl⟩
    · rintro ⟨j, h1, h2, -⟩
      have key : ∀ n, n ≤ F → j < n → iv ro k n = j := by
        intro n
        induction n with
        | zero => intro _ h; omega
        | succ n ih =>
          intro a b
          unfold iv
          by_cases e : ro n = k
          · rw [if_pos e]; exact hi n j (by omega) h1 (by rw [e, h2])
          · rw [if_neg e]
            refine ih (by omega) ?_
            by_cases q : j = n
            · rw [q] at h2; exact absurd h2 e
            · omega
      rw [key F (Nat.le_refl F) h1]
      exact ⟨h2, h1⟩
theorem inj_lt {F M b : Nat} {ro : Nat → Nat} (hi : ∀ i j, i < F → j < F → ro i = ro j → i = j) (hM : ∀ j, j < F → ro j < M) (hb : b < M) (hn : ∀ j, j < F → ro j ≠ b) : F < M := by
  refine inj_le (F := F + 1) (ro := fun j => if j = F then b else ro j) (fun i j h1 h2 e => ?_) (fun j hj => ?_)
  · by_cases a : i = F
    · by_cases c : j = F
      · omega
      · simp only [if_pos a, if_neg c] at e
        exact absurd e.symm (hn j (by omega))
    · by_cases c : j = F
      · simp only [if_neg a, if_pos c] at e
        exact absurd e (hn i (by omega))
      · simp only [if_neg a, if_neg c] at e
        exact hi i j (by omega) (by omega) e
  · show (if j = F then b else ro j) < M
    split
    · exact hb
    · exact hM j (by omega)
