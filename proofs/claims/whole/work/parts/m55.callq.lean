/-! a call by a view, its world laid back in one pass -/
def ax_ptA (L : List Nat) (v : ax_W) : Nat → ax_W → ax_W
  | _, [] => []
  | i, x :: w => (match ax_ix L i with
    | some j => ax_nth v j
    | none => x) :: ax_ptA L v (i + 1) w
theorem ptA_len {L : List Nat} {v : ax_W} : ∀ {w : ax_W} {i : Nat}, (ax_ptA L v i w).length = w.length
  | [], _ => rfl
  | x :: w, i => congrArg (· + 1) (ptA_len (w := w) (i := i + 1))
theorem ptA_nth {L : List Nat} {v : ax_W} : ∀ {w : ax_W} {i k : Nat}, k < w.length → ax_nth (ax_ptA L v i w) k = match ax_ix L (i + k) with
    | some j => ax_nth v j
    | none => ax_nth w k
  | x :: w, i, 0, _ => rfl
  | x :: w, i, k + 1, h => by
    have := ptA_nth (L := L) (v := v) (w := w) (i := i + 1) (k := k) (by simpa using h)
    rw [show i + 1 + k = i + (k + 1) by omega] at this
    exact this
theorem nth_ext : ∀ {l l' : ax_W}, l.length = l'.length → (∀ k, k < l.length → ax_nth l k = ax_nth l' k) → l = l'
  | [], [], _, _ => rfl
  | x :: l, y :: l', h, hk => by
    have h0 : x = y := hk 0 (by simp)
    rw [h0, nth_ext (l := l) (l' := l') (by simpa using h) (fun k hl => hk (k + 1) (by simpa using hl))]
theorem ptA_put {L : List Nat} {v w : ax_W} (hn : L.Nodup) (hb : ∀ k ∈ L, k < w.length) (hv : v.length = L.length) : ax_ptA L v 0 w = ax_put w L v := by
  refine nth_ext (by rw [ptA_len, ax_put_len]) (fun k hk => ?_)
  rw [ptA_len] at hk
  rw [ptA_nth hk, Nat.zero_add]
  cases e : ax_ix L k with
  | some j => exact (ax_put_in hn hb hv (ax_ix_some e)).symm
  | none => exact (ax_put_out (ax_ix_none e)).symm
theorem EV.callQ {G : ax_G} {M : ax_M} {P : ax_E → Prop} {c : ax_C} {j pn : Nat} {As r : List Value} {ls : ax_L} {L : List Nat} {M' : ax_M} {P' : ax_E → Prop} {vs : List Value} {w0 : ax_W} (h : ax_step G (ax_tab M) c = some (.inr (.inr (.inr (j, As, some L, pn, ls, r))))) (hj : G.2.2.2[j]? = some M') (hl : ax_okL L c.2.2.2.1.length = true ∧ (ax_lay As).length ≤ M'.2.2.1) (hvs : As.map (ax_rv (ax_tau L)) = vs) (hw : ax_cut L c.2.2.2.1 = w0) (hM : EM G M' vs w0 P') (hE : ∀ out, P' out → EV G M P (pn, ls, (out.1.map (ax_rv (ax_the L))).toList ++ r, ax_ptA L (ax_uncut L out.2.1) 0 c.2.2.2.1, c.2.2.2.2.1 ++ out.2.2.1.map (ax_the L), c.2.2.2.2.2 + out.2.2.2)) : EV G M P c := by
  obtain ⟨n1, o1, h1, h2⟩ := hM
  have hk := (ax_run_keep h1).2.2
  have hok := hl.1
  simp only [ax_okL, Bool.and_eq_true, List.all_eq_true] at hok
  obtain ⟨⟨hb, hnd⟩, -⟩ := hok
  have e : ax_ptA L (ax_uncut L o1.2.1) 0 c.2.2.2.1 = ax_put c.2.2.2.1 L (ax_uncut L o1.2.1) := by
    refine ptA_put (ax_nod_nd hnd) (fun k hk => Nat.le_of_ble_eq_true (hb k hk)) ?_
    have h3 : (ax_uncut L o1.2.1).length = o1.2.1.length := List.length_map _
    rw [h3, hk]
    show w0.length = L.length
    rw [← hw]
    exact List.length_map _
  refine EV.callL (P' := fun out => out = o1) h hj hl hvs hw ⟨n1, o1, h1, rfl⟩ (fun out ho => ?_)
  subst ho
  rw [← e]
  exact hE _ h2
