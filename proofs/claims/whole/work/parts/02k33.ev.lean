/-! runs that come to an end, and how they are put together -/
theorem ax_run_up {G : ax_G} : ∀ {n : Nat} {M : ax_M} {c : ax_C} {out : ax_E}, ax_run G n M c = some out → ax_run G (n + 1) M c = some out
  | 0, M, c, out, h => by cases h
  | n + 1, M, c, out, h => by
    unfold ax_run at h ⊢
    split at h
    · cases h
    · rename_i g c' hs
      split at h
      · rename_i hg
        rw [if_pos hg]
        exact ax_run_up h
      · cases h
    · rename_i cs d hs
      exact ax_run_up h
    · rename_i g v hs
      exact h
    · rename_i j As is pn ls r hs
      split at h
      · cases h
      · rename_i M' hj
        split at h
        · split at h
          · rename_i hl
            rw [if_pos hl]
            split at h
            · cases h
            · rename_i v w1 lg1 sl1 h1
              rw [ax_run_up h1]
              exact ax_run_up h
          · cases h
        · split at h
          · rename_i L hl
            rw [if_pos hl]
            split at h
            · cases h
            · rename_i v w1 lg1 sl1 h1
              rw [ax_run_up h1]
              exact ax_run_up h
          · cases h
theorem ax_run_le {G : ax_G} {M : ax_M} {c : ax_C} {out : ax_E} {n k : Nat} (h : ax_run G n M c = some out) (hk : n ≤ k) : ax_run G k M c = some out := by
  induction hk with
  | refl => exact h
  | step _ ih => exact ax_run_up ih
/-- from here on it comes to an end of that kind -/
def EV (G : ax_G) (M : ax_M) (P : ax_E → Prop) (c : ax_C) : Prop := ∃ n out, ax_run G n M c = some out ∧ P out
def ax_segs (G : ax_G) (T : List (Option ax_R)) : Nat → ax_C → Option (List Prop × ax_C)
  | 0, c => some ([], c)
  | n + 1, c => match ax_step G T c with
    | some (.inl (none, c')) => ax_segs G T n c'
    | some (.inl (some P, c')) => match ax_segs G T n c' with
      | some (Ps, c'') => some (P :: Ps, c'')
      | none => none
    | _ => none
def ax_all : List Prop → Prop
  | [] => True
  | P :: Ps => P ∧ ax_all Ps
theorem ax_segs_run {G : ax_G} {M : ax_M} {n : Nat} {out : ax_E} : ∀ {k : Nat} {c c' : ax_C} {Ps : List Prop}, ax_segs G (ax_tab M) k c = some (Ps, c') → ax_all Ps → ax_run G n M c' = some out → ax_run G (n + k) M c = some out
  | 0, c, c', Ps, h, hP, hr => by cases h; exact hr
  | k + 1, c, c', Ps, h, hP, hr => by
    unfold ax_segs at h
    rw [← Nat.add_assoc]
    unfold ax_run
    split at h
    · rename_i c1 hs
      rw [hs]
      dsimp only
      rw [if_pos (show ax_ok none from trivial)]
      exact ax_segs_run h hP hr
    · rename_i P c1 hs
      rw [hs]
      dsimp only
      split at h
      · rename_i Ps' c2 h2
        cases h
        rw [if_pos (show ax_ok (some P) from hP.1)]
        exact ax_segs_run h2 hP.2 hr
      · cases h
    · cases h
section EVS
variable {G : ax_G} {M : ax_M} {P : ax_E → Prop} {c c' : ax_C}
theorem EV.seg (k : Nat) {Ps : List Prop} (h : ax_segs G (ax_tab M) k c = some (Ps, c')) (hP : ax_all Ps) (hE : EV G M P c') : EV G M P c := by
  obtain ⟨n, out, h1, h2⟩ := hE
  exact ⟨n + k, out, ax_segs_run h hP h1, h2⟩
theorem EV.br {Q : Prop} {c1 c2 : ax_C} (h : ax_step G (ax_tab M) c = some (.inr (.inl ([(Q, c1)], c2)))) (ht : Q → EV G M P c1) (hf : ¬ Q → EV G M P c2) : EV G M P c := by
  by_cases hq : Q
  · obtain ⟨n, out, h1, h2⟩ := ht hq
    refine ⟨n + 1, out, ?_, h2⟩
    unfold ax_run
    rw [h]
    dsimp only
    rw [ax_ch_t hq]
    exact h1
  · obtain ⟨n, out, h1, h2⟩ := hf hq
    refine ⟨n + 1, out, ?_, h2⟩
    unfold ax_run
    rw [h]
    dsimp only
    rw [ax_ch_f hq]
    exact h1
theorem EV.sw {cs : List (Prop × ax_C)} {d : ax_C} (h : ax_step G (ax_tab M) c = some (.inr (.inl (cs, d)))) (hE : EV G M P (ax_ch cs d)) : EV G M P c := by
  obtain ⟨n, out, h1, h2⟩ := hE
  refine ⟨n + 1, out, ?_, h2⟩
  unfold ax_run
  rw [h]
  exact h1
theorem EV.ch {Q : Prop} {c1 d : ax_C} {cs : List (Prop × ax_C)} (ht : Q → EV G M P c1) (hf : ¬ Q → EV G M P (ax_ch cs d)) : EV G M P (ax_ch ((Q, c1) :: cs) d) := by
  unfold ax_ch
  by_cases hq : Q
  · rw [if_pos hq]; exact ht hq
  · rw [if_neg hq]; exact hf hq
theorem EV.ret {g : Option Prop} {v : Option Value} (h : ax_step G (ax_tab M) c = some (.inr (.inr (.inl (g, v))))) (hg : ax_ok g) (hP : P (v, c.2.2.2.1, c.2.2.2.2.1, c.2.2.2.2.2)) : EV G M P c := by
  refine ⟨1, _, ?_, hP⟩
  unfold ax_run
  rw [h]
  exact if_pos hg
/-- a method, called: it comes to an end of that kind -/
def EM (G : ax_G) (M : ax_M) (vs : List Value) (w : ax_W) (P : ax_E → Prop) : Prop := EV G M P (0, ax_ent M.2.2.1 vs, [], w, [], 0)
theorem EV.call {j pn : Nat} {As r : List Value} {ls : ax_L} {M' : ax_M} {P' : ax_E → Prop} (h : ax_step G (ax_tab M) c = some (.inr (.inr (.inr (j, As, none, pn, ls, r))))) (hj : G.2.2.2[j]? = some M') (hl : (ax_lay As).length ≤ M'.2.2.1) (hM : EM G M' As c.2.2.2.1 P') (hE : ∀ out, P' out → EV G M P (pn, ls, out.1.toList ++ r, out.2.1, c.2.2.2.2.1 ++ out.2.2.1, c.2.2.2.2.2 + out.2.2.2)) : EV G M P c := by
  obtain ⟨n1, ⟨v, w1, lg1, sl1⟩, h1, h2⟩ := hM
  obtain ⟨n2, out, h3, h4⟩ := hE _ h2
  refine ⟨(n1 + n2) + 1, out, ?_, h4⟩
  unfold ax_run
  rw [h]
  dsimp only
  rw [hj]
  dsimp only
  rw [if_pos hl, ax_run_le h1 (Nat.le_add_right n1 n2)]
  exact ax_run_le h3 (Nat.le_add_left n2 n1)
theorem EV.callL {j pn : Nat} {As r : List Value} {ls : ax_L} {L : List Nat} {M' : ax_M} {P' : ax_E → Prop} {vs : List Value} {w0 : ax_W} (h : ax_step G (ax_tab M) c = some (.inr (.inr (.inr (j, As, some L, pn, ls, r))))) (hj : G.2.2.2[j]? = some M') (hl : ax_okL L c.2.2.2.1.length = true ∧ (ax_lay As).length ≤ M'.2.2.1) (hvs : As.map (ax_rv (ax_tau L)) = vs) (hw : ax_cut L c.2.2.2.1 = w0) (hM : EM G M' vs w0 P') (hE : ∀ out, P' out → EV G M P (pn, ls, (out.1.map (ax_rv (ax_the L))).toList ++ r, ax_put c.2.2.2.1 L (ax_uncut L out.2.1), c.2.2.2.2.1 ++ out.2.2.1.map (ax_the L), c.2.2.2.2.2 + out.2.2.2)) : EV G M P c := by
  subst hvs; subst hw
  obtain ⟨n1, ⟨v, w1, lg1, sl1⟩, h1, h2⟩ := hM
  obtain ⟨n2, out, h3, h4⟩ := hE _ h2
  refine ⟨(n1 + n2) + 1, out, ?_, h4⟩
  unfold ax_run
  rw [h]
  dsimp only
  rw [hj]
  dsimp only
  rw [if_pos hl, ax_run_le h1 (Nat.le_add_right n1 n2)]
  exact ax_run_le h3 (Nat.le_add_left n2 n1)
end EVS
