def nn : Nat → ax_W
  | 0 => []
  | n + 1 => none :: nn n
def PL (out : ax_E) : Prop := out.1 = some (.int 1) ∧ out.2.2.1.Nodup ∧ out.2.2.1.length ≤ 10000 ∧ out.2.2.2 ≤ 3000000 ∧ ∀ k ∈ out.2.2.1, k < 900
theorem nth_nn : ∀ {n k : Nat}, ax_nth (nn n) k = none
  | 0, _ => rfl
  | n + 1, 0 => rfl
  | n + 1, k + 1 => nth_nn (n := n) (k := k)
theorem law_runs {Z : Nat × (Nat → Int32)} (hZ : Z.1 ≤ 3072) : EM (ax_GG Z) m_L_law [.ref 903] (nn 239) PL := sorry
