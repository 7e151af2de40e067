/-! names within a view -/
def ax_ix : List Nat → Nat → Option Nat
  | [], _ => none
  | k :: L, a => if k = a then some 0 else match ax_ix L a with
    | some i => some (i + 1)
    | none => none
def ax_tau (L : List Nat) (a : Nat) : Nat := match ax_ix L a with
  | some i => i
  | none => if 900 ≤ a ∧ a < 1000 then a else a + 1000
def ax_the (L : List Nat) (i : Nat) : Nat := match L[i]? with
  | some k => k
  | none => if i < 1000 then i else i - 1000
theorem ax_ix_some : ∀ {L : List Nat} {a i : Nat}, ax_ix L a = some i → L[i]? = some a
  | [], _, _, h => by cases h
  | k :: L, a, i, h => by
    unfold ax_ix at h
    split at h
    · rename_i hk; cases h; simp [hk]
    · split at h
      · rename_i j hj; cases h; simpa using ax_ix_some hj
      · cases h
theorem ax_ix_none : ∀ {L : List Nat} {a : Nat}, ax_ix L a = none → a ∉ L
  | [], _, _ => by simp
  | k :: L, a, h => by
    unfold ax_ix at h
    split at h
    · cases h
    · rename_i hk
      split at h
      · cases h
      · rename_i hj
        have := ax_ix_none hj
        simp only [List.mem_cons, not_or]
        exact ⟨fun q => hk q.symm, this⟩
theorem ax_the_tau {L : List Nat} (hL : L.length ≤ 900) (a : Nat) : ax_the L (ax_tau L a) = a := by
  unfold ax_tau
  split
  · rename_i i hi
    unfold ax_the
    rw [ax_ix_some hi]
  · split
    · rename_i h1
      unfold ax_the
      rw [List.getElem?_eq_none (by omega)]
      exact if_pos h1.2
    · unfold ax_the
      rw [List.getElem?_eq_none (by omega)]
      show (if a + 1000 < 1000 then a + 1000 else a + 1000 - 1000) = a
      rw [if_neg (by omega)]
      omega
theorem ax_the_out {L : List Nat} (hL : L.length ≤ 900) {k : Nat} (h1 : 900 ≤ k) (h2 : k < 1000) : ax_the L k = k := by
  unfold ax_the
  rw [List.getElem?_eq_none (by omega)]
  exact if_pos h2
theorem ax_the_in {L : List Nat} {i k : Nat} (h : L[i]? = some k) : ax_the L i = k := by
  unfold ax_the; rw [h]
