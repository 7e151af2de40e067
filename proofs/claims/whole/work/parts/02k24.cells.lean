section AXM
variable {l : Launch} {G : ax_G} {D : va_G} {κ ρ : Nat → Nat} {A : Nat → Prop} {M : ax_M} {out : ax_E} {p : Program} {e : Env} {s : State} {m : MethodId} {args : Array Value} {below : List Frame} {meth : Method} {cd : Code} {pc : Nat} {ls : ax_L} {st : List Value} {w : ax_W} {lg : List Nat} {sl : Nat}
theorem ax_fn_map {ρ : Nat → Nat} : ∀ {fs : List Value} {k : Nat} {v : Value}, ax_fn fs k = some v → (fs.map (ax_rv ρ))[k]? = some (ax_rv ρ v)
  | [], _, _, h => by cases h
  | x :: fs, 0, v, h => by cases h; rfl
  | x :: fs, k + 1, v, h => by simpa using ax_fn_map (fs := fs) h
theorem ax_fset_map {ρ : Nat → Nat} : ∀ {fs : List Value} {k : Nat} {v : Value}, (ax_fset fs k v).map (ax_rv ρ) = (fs.map (ax_rv ρ)).set k (ax_rv ρ v)
  | [], _, _ => by simp [ax_fset]
  | x :: fs, 0, v => by simp [ax_fset]
  | x :: fs, k + 1, v => by simp [ax_fset, ax_fset_map (fs := fs)]
theorem ax_clt : ∀ (c : Nat) (q : vw_C), vwCl[c]? = some q → ∃ ty : Nat → FieldType, ∀ k, k < q.2.2 → parseFieldDescriptor (q.2.1 k).2.2.1 = some (ty k) := by
  have h : ∀ q ∈ vwCl, ∀ k, k < q.2.2 → (parseFieldDescriptor (q.2.1 k).2.2.1).isSome = true := by decide +kernel
  intro c q hq
  refine ⟨fun k => (parseFieldDescriptor (q.2.1 k).2.2.1).getD .int, fun k hk => ?_⟩
  have h1 := h q (List.mem_of_getElem? hq) k hk
  cases hp : parseFieldDescriptor (q.2.1 k).2.2.1 with
  | none => rw [hp] at h1; cases h1
  | some t => show some t = some (Option.getD _ _); rw [hp]; rfl
theorem ax_cln : ∀ (c : Nat) (q : vw_C), vwCl[c]? = some q → ∀ a, a < q.2.2 → ∀ b, b < q.2.2 → a ≠ b → (q.2.1 a).2.1 ≠ (q.2.1 b).2.1 := by
  have h : ∀ q ∈ vwCl, ∀ a, a < q.2.2 → ∀ b, b < q.2.2 → a ≠ b → (q.2.1 a).2.1 ≠ (q.2.1 b).2.1 := by decide +kernel
  exact fun c q hq => h q (List.mem_of_getElem? hq)
theorem ax_P1 {H : Heap} {y : Nat} {ee : va_E} (h : ax_Rep D κ ρ w H) (hy : ax_nth w y = some ee) : va_P D vwCl [(ρ y, ax_rc κ ρ ee)] H := by
  intro k q hq
  have hz : k < 1 := (List.getElem?_eq_some_iff.mp hq).1
  rw [show k = 0 by omega] at hq
  cases hq
  exact h.1 y ee hy
theorem ax_rest {H H1 : Heap} {locs locs1 : List Loc} {r : Array Slot} {w1 : ax_W} (hI : ax_Iv D κ ρ A M out s ls w lg sl H locs r) (h1 : ax_Rep D κ ρ w1 H1) (h2 : ax_In ρ A w1) (h3 : va_S A H H1 locs1) (h0 : ∀ q ∈ locs1, A q.base) : ax_Iv D κ ρ A M out s ls w1 lg sl H1 locs1 r := by
  obtain ⟨i1, i2, i3, i4, i5, i6⟩ := hI
  refine ⟨i1, h1, h2, ⟨Nat.le_trans i4.1 h3.1, fun q g1 g2 => ?_, h0⟩, Nat.le_trans i5 h3.1, i6⟩
  rw [h3.2.1 q (Nat.lt_of_lt_of_le g1 i4.1) g2]
  exact i4.2.1 q g1 g2
theorem ax_S0 {H : Heap} {locs : List Loc} {r : Array Slot} (hI : ax_Iv D κ ρ A M out s ls w lg sl H locs r) : va_S A H H locs := ⟨Nat.le_refl _, fun _ _ _ => rfl, hI.2.2.2.1.2.2⟩
theorem ax_tyat {κ : Nat → Nat} {k : Nat} (h4 : 4 ≤ k) : ∃ (t : Nat) (C : String), ax_ty k = .object C ∧ (k ≤ 6 → (ax_tys κ)[t]? = some (κ k, .object C)) := by
  by_cases h : k = 4
  · subst h; exact ⟨4, _, rfl, fun _ => rfl⟩
  · by_cases h : k = 5
    · subst h; exact ⟨5, _, rfl, fun _ => rfl⟩
    · refine ⟨6, "LeapLane$Game", ?_, fun h6 => ?_⟩
      · match k, h4 with
        | k + 6, _ => rfl
        | 4, _ => omega
        | 5, _ => omega
      · have : k = 6 := by omega
        subst this; rfl
end AXM
