section AXP
variable {l : Launch} {G : ax_G} {D : va_G} {κ ρ : Nat → Nat} {A : Nat → Prop} {M : ax_M} {out : ax_E} {p : Program} {e : Env} {s : State} {m : MethodId} {args : Array Value} {below : List Frame} {meth : Method} {cd : Code} {pc : Nat} {ls : ax_L} {st : List Value} {w : ax_W} {lg : List Nat} {sl : Nat}
abbrev ax_SC (l : Launch) (D : va_G) (κ ρ : Nat → Nat) (A : Nat → Prop) (M : ax_M) (out : ax_E) (p : Program) (e : Env) (s : State) (m : MethodId) (args : Array Value) (below : List Frame) (meth : Method) (cd : Code) (c : ax_C) : Prop := ax_SW l D κ ρ A M out p e s m args below meth cd c.1 c.2.1 c.2.2.1 c.2.2.2.1 c.2.2.2.2.1 c.2.2.2.2.2
theorem ax_ch_t {P : Prop} {c1 c2 : ax_C} (h : P) : ax_ch [(P, c1)] c2 = c1 := if_pos h
theorem ax_ch_f {P : Prop} {c1 c2 : ax_C} (h : ¬ P) : ax_ch [(P, c1)] c2 = c2 := if_neg h
theorem ax_sw_tab {x : Int32} {d : ax_C} : ∀ {sws : List (Int32 × Nat)} {lo : Int} {os : List Int}, ax_sok pc sws lo os = true → (∃ (i t : Nat) (o : Int), os[i]? = some o ∧ x.toInt = lo + i ∧ (pc : Int) + o = (t : Int) ∧ ax_ch (ax_sw ls st w lg sl x sws) d = (t, ls, st, w, lg, sl)) ∨ ((x.toInt < lo ∨ lo + os.length ≤ x.toInt) ∧ ax_ch (ax_sw ls st w lg sl x sws) d = d)
  | [], lo, [], _ => Or.inr ⟨by simp; omega, rfl⟩
  | (v, t) :: sws, lo, o :: os, h => by
    simp only [ax_sok, Bool.and_eq_true, decide_eq_true_eq] at h
    obtain ⟨⟨h1, h2⟩, h3⟩ := h
    by_cases hx : x = v
    · refine Or.inl ⟨0, t, o, rfl, ?_, h2, if_pos hx⟩
      rw [hx, h1]; simp
    · have e1 : ax_ch (ax_sw ls st w lg sl x ((v, t) :: sws)) d = ax_ch (ax_sw ls st w lg sl x sws) d := if_neg hx
      have hxv : x.toInt ≠ lo := fun q => hx (Int32.toInt_inj.mp (by rw [q, h1]))
      rcases ax_sw_tab (x := x) (d := d) h3 with ⟨i, t', o', g1, g2, g3, g4⟩ | ⟨g1, g2⟩
      · exact Or.inl ⟨i + 1, t', o', g1, by rw [g2]; push_cast; omega, g3, e1.trans g4⟩
      · refine Or.inr ⟨?_, e1.trans g2⟩
        simp only [List.length_cons]
        push_cast
        omega
  | [], _, _ :: _, h => by simp [ax_sok] at h
  | _ :: _, _, [], h => by simp [ax_sok] at h
theorem ax_sw_look {x : Int32} {d : ax_C} {df : Int} (hd : (pc : Int) + df = (d.1 : Int)) (hdd : d = (d.1, ls, st, w, lg, sl)) : ∀ {sws : List (Int32 × Nat)} {ps : List (Int × Int)}, ax_lok pc sws ps = true → ∃ t : Nat, (pc : Int) + Op.lookupswitch.offset ps df x.toInt = (t : Int) ∧ ax_ch (ax_sw ls st w lg sl x sws) d = (t, ls, st, w, lg, sl)
  | [], [], _ => ⟨d.1, hd, hdd⟩
  | (v, t) :: sws, (kk, o) :: ps, h => by
    simp only [ax_lok, Bool.and_eq_true, decide_eq_true_eq] at h
    obtain ⟨⟨h1, h2⟩, h3⟩ := h
    by_cases hx : x = v
    · refine ⟨t, ?_, if_pos hx⟩
      subst hx
      simp [Op.lookupswitch.offset, h1, h2]
    · obtain ⟨t', g1, g2⟩ := ax_sw_look (x := x) hd hdd h3
      have hxv : ¬ kk = x.toInt := fun q => hx (Int32.toInt_inj.mp (by rw [← q, h1]))
      refine ⟨t', ?_, (if_neg hx).trans g2⟩
      rw [← g1]
      simp [Op.lookupswitch.offset, hxv]
  | [], _ :: _, h => by simp [ax_lok] at h
  | _ :: _, [], h => by simp [ax_lok] at h
end AXP
