/-! calls, and the whole -/
abbrev ax_Pc (G : ax_G) (D : va_G) (κ ρ : Nat → Nat) (vs : List Value) (w0 : ax_W) (sz : Nat) : Array Value → State → Prop := va_Pc (vs.map (ax_rv ρ)) (fun U => U.heap.size = sz ∧ ax_Rep D κ ρ w0 U.heap ∧ va_K D vwCl (ax_tys κ) U ∧ ax_F G ρ (ax_A ρ w0 sz) U U.heap)
theorem ax_blind {G : ax_G} {D : va_G} {κ ρ : Nat → Nat} {vs : List Value} {w0 : ax_W} {sz : Nat} : FrameBlind (ax_Pc G D κ ρ vs w0 sz) := by
  intro a U g mk h
  obtain ⟨h1, h2, h3, h4, h5⟩ := h
  exact ⟨h1, h2, h3, va_K.moved (u := U) (U := U.calling g mk a) (Vm.Alike.refl U.vm) h4, ax_F.same (u := U) (U := U.calling g mk a) rfl h5⟩
theorem ax_pop_eq : ∀ {n : Nat} {st acc As r : List Value}, ax_pop n st acc = some (As, r) → ∃ pre : List Value, pre.length = n ∧ st = pre ++ r ∧ As = pre.reverse ++ acc
  | 0, st, acc, As, r, h => by cases h; exact ⟨[], rfl, rfl, rfl⟩
  | n + 1, [], acc, As, r, h => by cases h
  | n + 1, v :: st, acc, As, r, h => by
    obtain ⟨pre, h1, h2, h3⟩ := ax_pop_eq (n := n) h
    exact ⟨v :: pre, by simp [h1], by rw [h2]; rfl, by rw [h3]; simp⟩
section AXC
variable {l : Launch} {G : ax_G} {D : va_G} {κ ρ : Nat → Nat} {A : Nat → Prop} {M : ax_M} {out : ax_E} {p : Program} {e : Env} {s : State} {m : MethodId} {args : Array Value} {below : List Frame} {meth : Method} {cd : Code} {pc : Nat} {ls : ax_L} {st : List Value} {w : ax_W} {lg : List Nat} {sl : Nat}
theorem ax_goon {θ : Nat → Nat} {A' : Nat → Prop} {out1 : ax_E} {H : Heap} {locs : List Loc} {r : Array Slot} {st0 rest : List Value} {a : Array Value} {w' : ax_W} {lg1 : List Nat} (hI : ax_Iv D κ ρ A M out s ls w lg sl H locs r) (hr : va_Run p l e (ax_Rm M out) s m args below meth cd H locs lg.length sl out1.2.2.1.length out1.2.2.2 (F0 m pc r st0) (rest.map (ax_rv ρ)) (ax_Q D κ (fun x => ρ (θ x)) A' out1 a) A') (hAA : ∀ q, A' q → A q)
    (hview : ∀ k e, ax_nth w' k = some e → (∃ i e1, ax_nth out1.2.1 i = some e1 ∧ k = θ i ∧ e = ax_rc (fun x => x) θ e1) ∨ (ax_nth w k = some e ∧ ¬ A' (ρ k))) (hlg : lg1.length = out1.2.2.1.length) (hpre : (lg ++ lg1) <+: out.2.2.1) (hsl : sl + out1.2.2.2 ≤ out.2.2.2) (k : ax_SW l D κ ρ A M out p e s m args below meth cd (pc + 3) ls ((out1.1.map (ax_rv θ)).toList ++ rest) w' (lg ++ lg1) (sl + out1.2.2.2)) : W p l e (ax_Rm M out) s m args below meth cd H locs lg.length sl (MQ below (ax_Q D κ ρ A out) args s out.2.2.1.length out.2.2.2 A) (F0 m pc r st0) := by
  intro T hT X
  obtain ⟨v, st₀, t, T', L, h0, X', hL, e1, e2, ⟨hv, hR1, hI1, ⟨hz, hk⟩, hsz⟩, stp⟩ := hr T hT X
  obtain ⟨i1, i2, i3, i4, i5, i6, i7⟩ := hI
  rw [h0] at hz hk hsz
  have hv' : v = out1.1.map (ax_rv (fun x => ρ (θ x))) := Outcome.returned.inj hv
  obtain ⟨b1, b2⟩ := ax_back i2 i3 hR1 hI1 hAA hk hview
  have hJ : ax_Iv D κ ρ A M out s ls w' (lg ++ lg1) (sl + out1.2.2.2) T'.heap (locs ++ L) r := by
    refine ⟨i1, by rw [e1]; exact b1, b2, ⟨Nat.le_trans i4.1 (by rw [e1]; exact hz), fun q g1 g2 => ?_, fun q hq => ?_⟩, by rw [e1, List.length_append, hlg]; omega, hpre, hsl⟩
    · rw [e1, hk q (Nat.lt_of_lt_of_le g1 i4.1) (fun z => g2 (hAA q z))]
      exact i4.2.1 q g1 g2
    · rcases List.mem_append.mp hq with h | h
      · exact i4.2.2 q h
      · exact hAA _ (hL q h)
  have hW := k T'.heap (locs ++ L) r hJ
  rw [List.length_append, hlg, List.map_append] at hW
  have hst : ((out1.1.map (ax_rv θ)).toList).map (ax_rv ρ) = v.toList := by
    rw [hv']
    cases out1.1 with
    | none => rfl
    | some x => simp [ax_rv_comp]
  rw [hst] at hW
  obtain ⟨t2, a1, b1⟩ := hW T' rfl X'
  exact ⟨t2, stp t2 a1, b1⟩
end AXC
