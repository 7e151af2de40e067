section AXN
variable {l : Launch} {G : ax_G} {D : va_G} {κ ρ : Nat → Nat} {A : Nat → Prop} {M : ax_M} {out : ax_E} {p : Program} {e : Env} {s : State} {m : MethodId} {args : Array Value} {below : List Frame} {meth : Method} {cd : Code} {pc : Nat} {ls : ax_L} {st : List Value} {w : ax_W} {lg : List Nat} {sl : Nat}
/-- the name that is made next, and the room that is left -/
theorem ax_next {b : Nat} (hl : (lg ++ [b]) <+: out.2.2.1) : out.2.2.1[lg.length]? = some b ∧ lg.length + 1 ≤ out.2.2.1.length := by
  obtain ⟨t, ht⟩ := hl
  rw [← ht]
  exact ⟨by simp, by simp⟩
theorem ax_dfv {df : List Value} {q : vw_C} (h : ax_cok df q = true) {ty : Nat → FieldType} (hty : ∀ k, k < q.2.2 → parseFieldDescriptor (q.2.1 k).2.2.1 = some (ty k)) : df.length = q.2.2 ∧ ∀ (ρ : Nat → Nat) (j : Nat), j < q.2.2 → defaultValue (ty j) = vp_V (df.map (ax_rv ρ)) j := by
  simp only [ax_cok, Bool.and_eq_true, decide_eq_true_eq, List.all_eq_true, List.mem_range] at h
  refine ⟨h.1, fun ρ j hj => ?_⟩
  have h1 := h.2 j hj
  rw [hty j hj] at h1
  simp only [decide_eq_true_eq] at h1
  unfold vp_V
  rw [List.getD_eq_getElem?_getD] at h1 ⊢
  rw [List.getElem?_map]
  have hjl : j < df.length := by rw [h.1]; exact hj
  rw [List.getElem?_eq_getElem hjl] at h1 ⊢
  simp only [Option.getD_some, Option.map_some] at h1 ⊢
  rw [← h1]
  cases ty j <;> rfl
theorem ax_cs_eq {ρ : Nat → Nat} : ∀ {st : List Value}, ((st.map (ax_rv ρ)).map fun v => v.category).sum = ax_cs st
  | [] => rfl
  | v :: st => by rw [List.map_cons, List.map_cons, List.sum_cons, ax_cs_eq (st := st), ax_rv_cat]; rfl
theorem ax_fin {H : Heap} {locs : List Loc} {r : Array Slot} {v : Option Value} (hI : ax_Iv D κ ρ A M out s ls w lg sl H locs r) (ho : out = (v, w, lg, sl)) : ∀ t : State, t.heap = H → s.WarmedH t.vm → ax_Q D κ ρ A out args s (.returned (v.map (ax_rv ρ))) t := by
  intro t ht _
  subst ho
  exact ⟨rfl, by rw [ht]; exact hI.2.1, hI.2.2.1, hI.2.2.2.1.F ht, by rw [ht]; exact hI.2.2.2.2.1⟩
end AXN
