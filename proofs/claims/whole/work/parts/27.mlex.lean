/-! the reference looks at a text -/
theorem wtx_one : ∀ i j : Fin 15, (∀ q : Fin 6, wtx.getD (6 * i.val + q.val) 0 = wtx.getD (6 * j.val + q.val) 0) → i = j := by decide +kernel
theorem wmt_one {b : Nat → Int} {n p i j : Nat} (hi : i < 15) (hj : j < 15) (h : wmt b n p i = true) (h' : wmt b n p j = true) : i = j := by
  have := wtx_one ⟨i, hi⟩ ⟨j, hj⟩ (fun q => by rw [wmt_iff.mp h q.val q.isLt, wmt_iff.mp h' q.val q.isLt])
  exact congrArg Fin.val this
theorem wxf_is {b : Nat → Int} {n p i : Nat} (hi : i < 15) (h : wmt b n p i = true) : ∀ {m : Nat}, m ≤ 15 → i < m → wxf b n p m = 300 + i
  | m + 1, hm, him => by
    unfold wxf
    by_cases e : wmt b n p m = true
    · rw [if_pos e, wmt_one hi (by omega) h e]
    · rw [if_neg e]
      refine wxf_is hi h (by omega) ?_
      by_cases z : i = m
      · subst z; exact absurd h e
      · omega
theorem wxf_of {b : Nat → Int} {n p i : Nat} : ∀ {m : Nat}, wxf b n p m = 300 + i → wmt b n p i = true
  | 0, h => by unfold wxf at h; omega
  | m + 1, h => by
    unfold wxf at h
    split at h
    · rename_i q
      rw [show i = m by omega]; exact q
    · exact wxf_of h
theorem sgn_word {b : Nat → Int} {n p i : Nat} (hi : i < 15) : sgn b n p = 300 + i ↔ p < n ∧ (97 ≤ b p ∧ b p ≤ 122) ∧ wl b n p ≤ 6 ∧ wmt b n p i = true := by
  have h8 := mk8_lt (x := b p)
  constructor
  · intro h
    unfold sgn at h
    split at h
    · omega
    · rename_i q1
      split at h
      · rename_i q2
        split at h
        · rename_i q3
          exact ⟨by omega, q2, q3, wxf_of h⟩
        · omega
      · split at h
        · omega
        · split at h
          · split at h <;> omega
          · omega
  · rintro ⟨h1, h2, h3, h4⟩
    unfold sgn
    rw [if_neg (by omega), if_pos h2, if_pos h3]
    exact wxf_is hi h4 (Nat.le_refl _) hi
def pk (b : Nat → Int) (p : Nat) : Nat → Nat
  | 0 => 0
  | j + 1 => pk b p j * 256 + (b (p + j)).toNat
/-- the words as the reference has them -/
def wcs : List Nat := [426953501796, 482854658917, 1650549611, 1818583408, 108243466679400, 1870030194, 465557352564, 1835101817, 6513006, 1953854062, 26982, 7237492, 6385252, 28530, 1818324581]
theorem wl_cases {b : Nat → Int} {n p : Nat} : ∀ j, j < 6 → wle b n p j = if j < wl b n p then b (p + j) else 32 := fun _ _ => rfl
set_option maxHeartbeats 4000000 in
theorem pk_word {b : Nat → Int} {n p i : Nat} (hi : i < 15) (h0 : 0 < wl b n p) (h8 : wl b n p < 8) : pk b p (wl b n p) = wcs.getD i 0 ↔ wl b n p ≤ 6 ∧ wmt b n p i = true := by
  have ha : ∀ j, j < wl b n p → 97 ≤ b (p + j) ∧ b (p + j) ≤ 122 := fun j hj => wl_all hj
  rw [wmt_iff]
  have hw : ∀ j, j < 6 → wle b n p j = if j < wl b n p then b (p + j) else 32 := fun _ _ => rfl
  generalize wl b n p = L at h0 h8 ha hw
  have hL : L = 1 ∨ L = 2 ∨ L = 3 ∨ L = 4 ∨ L = 5 ∨ L = 6 ∨ L = 7 := by omega
  have h6 : ∀ P : Nat → Prop, (∀ j, j < 6 → P j) ↔ P 0 ∧ P 1 ∧ P 2 ∧ P 3 ∧ P 4 ∧ P 5 := by
    intro P
    constructor
    · intro h; exact ⟨h 0 (by omega), h 1 (by omega), h 2 (by omega), h 3 (by omega), h 4 (by omega), h 5 (by omega)⟩
    · rintro ⟨a0, a1, a2, a3, a4, a5⟩ j hj
      have : j = 0 ∨ j = 1 ∨ j = 2 ∨ j = 3 ∨ j = 4 ∨ j = 5 := by omega
      rcases this with e | e | e | e | e | e <;> subst e <;> assumption
  rw [h6]
  have w0 := hw 0 (by omega)
  have w1 := hw 1 (by omega)
  have w2 := hw 2 (by omega)
  have w3 := hw 3 (by omega)
  have w4 := hw 4 (by omega)
  have w5 := hw 5 (by omega)
  rw [w0, w1, w2, w3, w4, w5]
  have hi : i = 0 ∨ i = 1 ∨ i = 2 ∨ i = 3 ∨ i = 4 ∨ i = 5 ∨ i = 6 ∨ i = 7 ∨ i = 8 ∨ i = 9 ∨ i = 10 ∨ i = 11 ∨ i = 12 ∨ i = 13 ∨ i = 14 := by omega
  rcases hL with e | e | e | e | e | e | e <;> subst e
  · have a0 := ha 0 (by omega)
    rcases hi with e | e | e | e | e | e | e | e | e | e | e | e | e | e | e <;> subst e <;> simp [wcs, wtx, pk] at * <;> omega
  · have a0 := ha 0 (by omega)
    have a1 := ha 1 (by omega)
    rcases hi with e | e | e | e | e | e | e | e | e | e | e | e | e | e | e <;> subst e <;> simp [wcs, wtx, pk] at * <;> omega
  · have a0 := ha 0 (by omega)
    have a1 := ha 1 (by omega)
    have a2 := ha 2 (by omega)
    rcases hi with e | e | e | e | e | e | e | e | e | e | e | e | e | e | e <;> subst e <;> simp [wcs, wtx, pk] at * <;> omega
  · have a0 := ha 0 (by omega)
    have a1 := ha 1 (by omega)
    have a2 := ha 2 (by omega)
    have a3 := ha 3 (by omega)
    rcases hi with e | e | e | e | e | e | e | e | e | e | e | e | e | e | e <;> subst e <;> simp [wcs, wtx, pk] at * <;> omega
  · have a0 := ha 0 (by omega)
    have a1 := ha 1 (by omega)
    have a2 := ha 2 (by omega)
    have a3 := ha 3 (by omega)
    have a4 := ha 4 (by omega)
    rcases hi with e | e | e | e | e | e | e | e | e | e | e | e | e | e | e <;> subst e <;> simp [wcs, wtx, pk] at * <;> omega
  · have a0 := ha 0 (by omega)
    have a1 := ha 1 (by omega)
    have a2 := ha 2 (by omega)
    have a3 := ha 3 (by omega)
    have a4 := ha 4 (by omega)
    have a5 := ha 5 (by omega)
    rcases hi with e | e | e | e | e | e | e | e | e | e | e | e | e | e | e <;> subst e <;> simp [wcs, wtx, pk] at * <;> omega
  · have a0 := ha 0 (by omega)
    have a1 := ha 1 (by omega)
    have a2 := ha 2 (by omega)
    have a3 := ha 3 (by omega)
    have a4 := ha 4 (by omega)
    have a5 := ha 5 (by omega)
    have a6 := ha 6 (by omega)
    rcases hi with e | e | e | e | e | e | e | e | e | e | e | e | e | e | e <;> subst e <;> simp [wcs, wtx, pk] at * <;> omega
