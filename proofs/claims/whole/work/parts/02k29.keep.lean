/-! what a run keeps -/
section AXR
variable {l : Launch} {G : ax_G} {D : va_G} {κ ρ : Nat → Nat} {A : Nat → Prop} {M : ax_M} {out : ax_E} {p : Program} {e : Env} {s : State} {m : MethodId} {args : Array Value} {below : List Frame} {meth : Method} {cd : Code} {pc : Nat} {ls : ax_L} {st : List Value} {w : ax_W} {lg : List Nat} {sl : Nat}
set_option maxHeartbeats 4000000 in
theorem ax_do_keep {r : ax_R} {g : Option Prop} {pc' : Nat} {ls' : ax_L} {st' : List Value} {w' : ax_W} {lg' : List Nat} {sl' : Nat} (hstep : ax_dor G pc r ls st w lg sl = some (.inl (g, (pc', ls', st', w', lg', sl')))) : lg <+: lg' ∧ sl ≤ sl' ∧ w'.length = w.length := by
  obtain ⟨ins, len, a, b, d, cv, cl, sws, isf, kp⟩ := r
  cases ins with
  | ifCond c o => cases c <;> (simp only [ax_dor, ax_do] at hstep; (repeat' split at hstep) <;> cases hstep)
  | if_icmp c o => cases c <;> (simp only [ax_dor, ax_do] at hstep; (repeat' split at hstep) <;> cases hstep)
  | putfield i =>
    simp only [ax_dor, ax_do, ax_pf] at hstep
    repeat' split at hstep
    all_goals cases hstep
    all_goals exact ⟨List.prefix_refl _, Nat.le_refl _, ax_set_len⟩
  | _ =>
    simp only [ax_dor, ax_do] at hstep
    first
    | (cases hstep; done)
    | (cases hstep; exact ⟨List.prefix_refl _, Nat.le_refl _, rfl⟩)
    | (repeat' split at hstep
       all_goals first
        | (cases hstep; done)
        | (cases hstep; exact ⟨List.prefix_refl _, Nat.le_refl _, rfl⟩)
        | (cases hstep; exact ⟨List.prefix_refl _, Nat.le_refl _, ax_set_len⟩)
        | (cases hstep; exact ⟨List.prefix_append _ _, Nat.le_add_right _ _, ax_set_len⟩))
theorem ax_sw_same {x : Int32} : ∀ {sws : List (Int32 × Nat)}, ∀ q ∈ ax_sw ls st w lg sl x sws, q.2.2.2.2 = (w, lg, sl)
  | [], q, h => by cases h
  | (v, t) :: sws, q, h => by
    rcases List.mem_cons.mp h with h | h
    · rw [h]
    · exact ax_sw_same q h
theorem ax_ch_same {X : ax_W × List Nat × Nat} : ∀ {cs : List (Prop × ax_C)} {d : ax_C}, (∀ q ∈ cs, q.2.2.2.2 = X) → d.2.2.2 = X → (ax_ch cs d).2.2.2 = X
  | [], d, _, h => h
  | (P, c) :: cs, d, h, hd => by
    unfold ax_ch
    by_cases hP : P
    · rw [if_pos hP]; exact h (P, c) List.mem_cons_self
    · rw [if_neg hP]; exact ax_ch_same (fun q hq => h q (List.mem_cons_of_mem _ hq)) hd
set_option maxHeartbeats 4000000 in
theorem ax_do_ch {r : ax_R} {cs : List (Prop × ax_C)} {d : ax_C} (hstep : ax_dor G pc r ls st w lg sl = some (.inr (.inl (cs, d)))) : (ax_ch cs d).2.2.2 = (w, lg, sl) := by
  obtain ⟨ins, len, a, b, dd, cv, cl, sws, isf, kp⟩ := r
  cases ins with
  | ifCond c o =>
    cases c <;>
    (simp only [ax_dor, ax_do] at hstep
     split at hstep
     · cases hstep
       exact ax_ch_same (fun q hq => by rcases List.mem_cons.mp hq with h | h; (rw [h]); (cases h)) rfl
     · cases hstep)
  | if_icmp c o =>
    cases c <;>
    (simp only [ax_dor, ax_do] at hstep
     split at hstep
     · cases hstep
       exact ax_ch_same (fun q hq => by rcases List.mem_cons.mp hq with h | h; (rw [h]); (cases h)) rfl
     · cases hstep)
  | tableswitch df lo hi os =>
    simp only [ax_dor, ax_do] at hstep
    split at hstep
    · cases hstep
      exact ax_ch_same ax_sw_same rfl
    · cases hstep
  | lookupswitch df ps =>
    simp only [ax_dor, ax_do] at hstep
    split at hstep
    · cases hstep
      exact ax_ch_same ax_sw_same rfl
    · cases hstep
  | putfield i =>
    simp only [ax_dor, ax_do, ax_pf] at hstep
    repeat' split at hstep
    all_goals cases hstep
  | _ =>
    simp only [ax_dor, ax_do] at hstep
    first
    | (cases hstep; done)
    | ((repeat' split at hstep) <;> cases hstep)
theorem ax_run_keep : ∀ {n : Nat} {M : ax_M} {c : ax_C} {out : ax_E}, ax_run G n M c = some out → c.2.2.2.2.1 <+: out.2.2.1 ∧ c.2.2.2.2.2 ≤ out.2.2.2 ∧ out.2.1.length = c.2.2.2.1.length
  | 0, M, c, out, h => by cases h
  | n + 1, M, c, out, h => by
    unfold ax_run at h
    unfold ax_step at h
    split at h
    · cases h
    · rename_i g c' hs
      split at hs
      · cases hs
      · obtain ⟨pc', ls', st', w', lg', sl'⟩ := c'
        obtain ⟨h1, h2, h3⟩ := ax_do_keep hs
        split at h
        · obtain ⟨g1, g2, g3⟩ := ax_run_keep h
          exact ⟨h1.trans g1, Nat.le_trans h2 g2, g3.trans h3⟩
        · cases h
    · rename_i cs d hs
      split at hs
      · cases hs
      · have h1 := ax_do_ch hs
        obtain ⟨g1, g2, g3⟩ := ax_run_keep h
        rw [show (ax_ch cs d).2.2.2.2.1 = c.2.2.2.2.1 by rw [h1]] at g1
        rw [show (ax_ch cs d).2.2.2.2.2 = c.2.2.2.2.2 by rw [h1]] at g2
        rw [show (ax_ch cs d).2.2.2.1 = c.2.2.2.1 by rw [h1]] at g3
        exact ⟨g1, g2, g3⟩
    · split at h
      · cases h
        exact ⟨List.prefix_refl _, Nat.le_refl _, rfl⟩
      · cases h
    · split at h
      · cases h
      · split at h
        · split at h
          · split at h
            · cases h
            · rename_i v w1 lg1 sl1 h1
              obtain ⟨f1, f2, f3⟩ := ax_run_keep h1
              obtain ⟨g1, g2, g3⟩ := ax_run_keep h
              exact ⟨(List.prefix_append _ _).trans g1, Nat.le_trans (Nat.le_add_right _ _) g2, g3.trans f3⟩
          · cases h
        · split at h
          · split at h
            · cases h
            · rename_i v w1 lg1 sl1 h1
              obtain ⟨g1, g2, g3⟩ := ax_run_keep h
              exact ⟨(List.prefix_append _ _).trans g1, Nat.le_trans (Nat.le_add_right _ _) g2, g3.trans ax_put_len⟩
          · cases h
end AXR
