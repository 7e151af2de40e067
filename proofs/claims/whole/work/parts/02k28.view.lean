/-! views of a world: what a call hands over, what comes back -/
theorem ax_rv_comp {f g : Nat → Nat} {v : Value} : ax_rv f (ax_rv g v) = ax_rv (fun x => f (g x)) v := by cases v <;> rfl
theorem ax_rc_comp {κ f g : Nat → Nat} {x : va_E} : ax_rc κ f (ax_rc (fun x => x) g x) = ax_rc κ (fun x => f (g x)) x := by
  rcases x with ⟨k, n, x⟩ | ⟨ci, fs⟩
  · rcases x with f1 | f1 | f1 | f1 | f1 <;> simp [ax_rc, ax_rx, Function.comp_def]
  · simp [ax_rc, ax_rv_comp, Function.comp_def]
theorem ax_rv_id {v : Value} : ax_rv (fun x => x) v = v := by cases v <;> rfl
theorem ax_rc_id {x : va_E} : ax_rc (fun x => x) (fun x => x) x = x := by
  rcases x with ⟨k, n, x⟩ | ⟨ci, fs⟩
  · rcases x with f1 | f1 | f1 | f1 | f1 <;> simp [ax_rc, ax_rx]
  · rw [ax_rc, show (ax_rv fun x => x) = id from funext (fun v => ax_rv_id)]; simp
theorem ax_nd_inj : ∀ {L : List Nat} {i j k : Nat}, L.Nodup → L[i]? = some k → L[j]? = some k → i = j
  | [], _, _, _, _, h, _ => by simp at h
  | x :: L, 0, 0, _, _, _, _ => rfl
  | x :: L, 0, j + 1, k, hn, h1, h2 => by
    simp only [List.getElem?_cons_zero, Option.some.injEq] at h1
    simp only [List.getElem?_cons_succ] at h2
    exact absurd (by rw [h1]; exact List.mem_of_getElem? h2) (List.nodup_cons.mp hn).1
  | x :: L, i + 1, 0, k, hn, h1, h2 => by
    simp only [List.getElem?_cons_zero, Option.some.injEq] at h2
    simp only [List.getElem?_cons_succ] at h1
    exact absurd (by rw [h2]; exact List.mem_of_getElem? h1) (List.nodup_cons.mp hn).1
  | x :: L, i + 1, j + 1, k, hn, h1, h2 => congrArg Nat.succ (ax_nd_inj (List.nodup_cons.mp hn).2 (by simpa using h1) (by simpa using h2))
theorem ax_nod_nd : ∀ {L : List Nat}, ax_nod L = true → L.Nodup
  | [], _ => List.nodup_nil
  | k :: L, h => by
    simp only [ax_nod, Bool.and_eq_true] at h
    refine List.nodup_cons.mpr ⟨?_, ax_nod_nd h.2⟩
    have h1 := h.1
    split at h1
    · cases h1
    · exact ax_ix_none (by assumption)
theorem ax_cut_nth : ∀ {K L : List Nat} {w : ax_W} {i : Nat} {x : va_E}, ax_nth (K.map fun k => match ax_nth w k with
  | some e => some (ax_rc (fun x => x) (ax_tau L) e)
  | none => none) i = some x → ∃ k e, K[i]? = some k ∧ ax_nth w k = some e ∧ x = ax_rc (fun x => x) (ax_tau L) e
  | [], _, _, _, _, h => by cases h
  | k :: K, L, w, 0, x, h => by
    simp only [List.map_cons, ax_nth] at h
    split at h
    · rename_i e he; cases h; exact ⟨k, e, rfl, he, rfl⟩
    · cases h
  | k :: K, L, w, i + 1, x, h => by
    simp only [List.map_cons, ax_nth] at h
    obtain ⟨k', e, h1, h2, h3⟩ := ax_cut_nth h
    exact ⟨k', e, by simpa using h1, h2, h3⟩
theorem ax_uncut_nth {L : List Nat} : ∀ {v : ax_W} {i : Nat} {x : va_E}, ax_nth (ax_uncut L v) i = some x → ∃ e, ax_nth v i = some e ∧ x = ax_rc (fun x => x) (ax_the L) e
  | [], _, _, h => by cases h
  | y :: v, 0, x, h => by
    simp only [ax_uncut, List.map_cons, ax_nth] at h
    split at h
    · rename_i e; cases h; exact ⟨e, rfl, rfl⟩
    · cases h
  | y :: v, i + 1, x, h => by
    simp only [ax_uncut, List.map_cons, ax_nth] at h
    exact ax_uncut_nth (v := v) h
theorem ax_put_len : ∀ {L : List Nat} {w v : ax_W}, (ax_put w L v).length = w.length
  | [], w, v => by cases v <;> rfl
  | k :: L, w, [] => rfl
  | k :: L, w, x :: v => by
    show (ax_put (ax_set w k x) L v).length = w.length
    rw [ax_put_len, ax_set_len]
theorem ax_put_out : ∀ {L : List Nat} {w v : ax_W} {k : Nat}, k ∉ L → ax_nth (ax_put w L v) k = ax_nth w k
  | [], w, v, _, _ => by cases v <;> rfl
  | j :: L, w, [], k, _ => rfl
  | j :: L, w, x :: v, k, h => by
    simp only [List.mem_cons, not_or] at h
    show ax_nth (ax_put (ax_set w j x) L v) k = ax_nth w k
    rw [ax_put_out h.2, ax_nth_set_ne h.1]
theorem ax_put_in : ∀ {L : List Nat} {w v : ax_W} {i k : Nat}, L.Nodup → (∀ k ∈ L, k < w.length) → v.length = L.length → L[i]? = some k → ax_nth (ax_put w L v) k = ax_nth v i
  | [], _, _, _, _, _, _, _, h => by simp at h
  | j :: L, w, [], _, _, _, _, hl, _ => by simp at hl
  | j :: L, w, x :: v, 0, k, hn, hb, hl, h => by
    simp only [List.getElem?_cons_zero, Option.some.injEq] at h
    subst h
    show ax_nth (ax_put (ax_set w j x) L v) j = x
    rw [ax_put_out (List.nodup_cons.mp hn).1, ax_nth_set_eq (hb j List.mem_cons_self)]
  | j :: L, w, x :: v, i + 1, k, hn, hb, hl, h => by
    show ax_nth (ax_put (ax_set w j x) L v) k = ax_nth v i
    exact ax_put_in (List.nodup_cons.mp hn).2 (fun q hq => by rw [ax_set_len]; exact hb q (List.mem_cons_of_mem _ hq)) (by simpa using hl) (by simpa using h)
def ax_A (ρ : Nat → Nat) (w : ax_W) (sz : Nat) : Nat → Prop := fun q => (∃ k e, ax_nth w k = some e ∧ ρ k = q) ∨ sz ≤ q
/-- the callee's world, in the heap -/
theorem ax_cut_rep {D : va_G} {κ ρ : Nat → Nat} {w : ax_W} {H : Heap} {L : List Nat} (hR : ax_Rep D κ ρ w H) (hL : L.length ≤ 900) (hn : L.Nodup) : ax_Rep D κ (fun x => ρ (ax_the L x)) (ax_cut L w) H := by
  refine ⟨fun i x hx => ?_, fun i j x y hx hy hij => ?_⟩
  · obtain ⟨k, e, h1, h2, rfl⟩ := ax_cut_nth hx
    rw [ax_rc_comp]
    have e1 : (fun x => ρ (ax_the L (ax_tau L x))) = ρ := by funext a; rw [ax_the_tau hL]
    simp only [ax_the_in h1]
    rw [e1]
    exact hR.1 k e h2
  · obtain ⟨k, e, h1, h2, rfl⟩ := ax_cut_nth hx
    obtain ⟨k', e', h1', h2', rfl⟩ := ax_cut_nth hy
    simp only [ax_the_in h1, ax_the_in h1'] at hij
    have := hR.2 k k' e e' h2 h2' hij
    subst this
    exact ax_nd_inj hn h1 h1'
/-- the caller's world behind the call -/
theorem ax_back {D : va_G} {κ ρ θ : Nat → Nat} {A A' : Nat → Prop} {w w1 w' : ax_W} {H H1 : Heap} (hR : ax_Rep D κ ρ w H) (hI : ax_In ρ A w) (hR1 : ax_Rep D κ (fun x => ρ (θ x)) w1 H1) (hI1 : ax_In (fun x => ρ (θ x)) A' w1) (hAA : ∀ q, A' q → A q) (hk : ∀ q, q < H.size → ¬ A' q → H1[q]? = H[q]?)
    (hv : ∀ k e, ax_nth w' k = some e → (∃ i e1, ax_nth w1 i = some e1 ∧ k = θ i ∧ e = ax_rc (fun x => x) θ e1) ∨ (ax_nth w k = some e ∧ ¬ A' (ρ k))) : ax_Rep D κ ρ w' H1 ∧ ax_In ρ A w' := by
  refine ⟨⟨fun k e he => ?_, fun i j x y hx hy hij => ?_⟩, fun k e he => ?_⟩
  · rcases hv k e he with ⟨i, e1, h1, rfl, rfl⟩ | ⟨h1, h2⟩
    · rw [ax_rc_comp]
      exact hR1.1 i e1 h1
    · have h3 := hR.1 k e h1
      exact h3.kept (hk _ h3.lt h2)
  · rcases hv i x hx with ⟨a, e1, h1, rfl, rfl⟩ | ⟨h1, h2⟩
    · rcases hv j y hy with ⟨b, e2, g1, rfl, rfl⟩ | ⟨g1, g2⟩
      · rw [hR1.2 a b e1 e2 h1 g1 hij]
      · exact absurd (by rw [← hij]; exact hI1 a e1 h1) g2
    · rcases hv j y hy with ⟨b, e2, g1, rfl, rfl⟩ | ⟨g1, g2⟩
      · exact absurd (by rw [hij]; exact hI1 b e2 g1) h2
      · exact hR.2 i j x y h1 g1 hij
  · rcases hv k e he with ⟨i, e1, h1, rfl, rfl⟩ | ⟨h1, h2⟩
    · exact hAA _ (hI1 i e1 h1)
    · exact hI k e h1
theorem ax_view {D : va_G} {κ ρ : Nat → Nat} {w w1 : ax_W} {H : Heap} {L : List Nat} (hR : ax_Rep D κ ρ w H) (hL : L.length ≤ 900) (hn : L.Nodup) (hb : ∀ k ∈ L, k < w.length) (hlen : w1.length = L.length) : ∀ k e, ax_nth (ax_put w L (ax_uncut L w1)) k = some e → (∃ i e1, ax_nth w1 i = some e1 ∧ k = ax_the L i ∧ e = ax_rc (fun x => x) (ax_the L) e1) ∨ (ax_nth w k = some e ∧ ¬ ax_A (fun x => ρ (ax_the L x)) (ax_cut L w) H.size (ρ k)) := by
  intro k e he
  by_cases hk : k ∈ L
  · obtain ⟨i, hi⟩ := List.getElem?_of_mem hk
    rw [ax_put_in hn hb (by rw [ax_uncut, List.length_map]; exact hlen) hi] at he
    obtain ⟨e1, h1, h2⟩ := ax_uncut_nth he
    exact Or.inl ⟨i, e1, h1, (ax_the_in hi).symm, h2⟩
  · rw [ax_put_out hk] at he
    refine Or.inr ⟨he, ?_⟩
    rintro (⟨i, x, h1, h2⟩ | h)
    · obtain ⟨k', e', g1, g2, rfl⟩ := ax_cut_nth h1
      simp only [ax_the_in g1] at h2
      have := hR.2 k' k e' e g2 he h2
      subst this
      exact hk (List.mem_of_getElem? g1)
    · have := (hR.1 k e he).lt
      exact absurd this (by show ¬ ρ k < H.size; omega)
theorem ax_lay_pad : ∀ {n : Nat} {l : ax_L} {i : Nat} {v : Value}, ax_nth (ax_pad n l) i = some v → ax_nth l i = some v
  | 0, _, _, _, h => by cases h
  | n + 1, [], 0, _, h => by cases h
  | n + 1, [], i + 1, v, h => by
    have := ax_lay_pad (n := n) (l := []) (i := i) h
    cases this
  | n + 1, x :: l, 0, v, h => h
  | n + 1, x :: l, i + 1, v, h => ax_lay_pad (n := n) (l := l) h
theorem ax_lay_args {ρ : Nat → Nat} : ∀ {vs : List Value} {s i : Nat} {v : Value}, ax_nth (ax_lay vs) i = some v → (s + i, ax_rv ρ v) ∈ lv_args s (vs.map (ax_rv ρ))
  | [], _, _, _, h => by cases h
  | x :: vs, s, i, v, h => by
    by_cases hc : x.category = 2
    · have e1 : ax_lay (x :: vs) = some x :: none :: ax_lay vs := by cases x <;> simp [Value.category] at hc <;> rfl
      rw [e1] at h
      match i, h with
      | 0, h => cases h; exact List.mem_cons_self
      | 1, h => cases h
      | i + 2, h =>
        have := ax_lay_args (ρ := ρ) (vs := vs) (s := s + 2) (i := i) h
        simp only [List.map_cons, lv_args, ax_rv_cat, hc, if_true]
        rw [show s + (i + 2) = s + 2 + i by omega]
        exact List.mem_cons_of_mem _ this
    · have e1 : ax_lay (x :: vs) = some x :: ax_lay vs := by cases x <;> simp [Value.category] at hc <;> rfl
      rw [e1] at h
      match i, h with
      | 0, h => cases h; exact List.mem_cons_self
      | i + 1, h =>
        have := ax_lay_args (ρ := ρ) (vs := vs) (s := s + 1) (i := i) h
        simp only [List.map_cons, lv_args, ax_rv_cat, hc, if_false]
        rw [show s + (i + 1) = s + 1 + i by omega]
        exact List.mem_cons_of_mem _ this
theorem ax_lay_len {ρ : Nat → Nat} : ∀ {vs : List Value}, (lg_sl (vs.map (ax_rv ρ))).length = (ax_lay vs).length
  | [] => rfl
  | x :: vs => by
    have ih := ax_lay_len (ρ := ρ) (vs := vs)
    simp only [lg_sl] at ih ⊢
    rw [List.map_cons, List.flatMap_cons, List.length_append, ih, ax_rv_cat]
    by_cases hc : x.category = 2
    · have e1 : ax_lay (x :: vs) = some x :: none :: ax_lay vs := by cases x <;> simp [Value.category] at hc <;> rfl
      rw [e1, if_pos hc]; simp; omega
    · have e1 : ax_lay (x :: vs) = some x :: ax_lay vs := by cases x <;> simp [Value.category] at hc <;> rfl
      rw [e1, if_neg hc]; simp; omega
theorem ax_ent_Ls {ρ : Nat → Nat} {n : Nat} {vs : List Value} (h : (ax_lay vs).length ≤ n) : ax_Ls ρ (ax_ent n vs) n ((lg_sl (vs.map (ax_rv ρ)) ++ List.replicate (n - (lg_sl (vs.map (ax_rv ρ))).length) Slot.unset).toArray) := by
  have h1 := lv_entry (vs.map (ax_rv ρ)) (n := n) (by rw [ax_lay_len]; exact h)
  refine ⟨h1.1, h1.2.1, fun q hq => ?_⟩
  obtain ⟨k, v, h2, rfl⟩ := ax_lv_mem.mp hq
  exact h1.2.2 _ (ax_lay_args (s := 0) (ax_lay_pad h2))
