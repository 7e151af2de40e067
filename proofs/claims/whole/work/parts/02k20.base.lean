/-! rows on named lists, worlds, locals -/
theorem ax_nth_set_eq {α : Type} {l : List (Option α)} {i : Nat} {x : Option α} (h : i < l.length) : ax_nth (ax_set l i x) i = x := by
  induction l generalizing i with
  | nil => simp at h
  | cons y l ih => cases i with
    | zero => rfl
    | succ n => exact ih (by simpa using h)
theorem ax_nth_set_ne {α : Type} {l : List (Option α)} {i j : Nat} {x : Option α} (h : j ≠ i) : ax_nth (ax_set l i x) j = ax_nth l j := by
  induction l generalizing i j with
  | nil => rfl
  | cons y l ih => cases i with
    | zero => cases j with
      | zero => exact absurd rfl h
      | succ m => rfl
    | succ n => cases j with
      | zero => rfl
      | succ m => exact ih (by omega)
theorem ax_set_len {α : Type} {l : List (Option α)} {i : Nat} {x : Option α} : (ax_set l i x).length = l.length := by
  induction l generalizing i with
  | nil => rfl
  | cons y l ih => cases i with
    | zero => rfl
    | succ n => simp [ax_set, ih]
theorem ax_nth_lt {α : Type} {l : List (Option α)} {i : Nat} {x : α} (h : ax_nth l i = some x) : i < l.length := by
  induction l generalizing i with
  | nil => cases h
  | cons y l ih => cases i with
    | zero => simp
    | succ n => have := ih h; simpa using this
theorem ax_nth_get {α : Type} {l : List (Option α)} {i : Nat} : ax_nth l i = (l[i]?).join := by
  induction l generalizing i with
  | nil => rfl
  | cons y l ih => cases i with
    | zero => cases y <;> rfl
    | succ n => simpa [ax_nth] using ih
/-- the cells that are there, as the kit's list -/
def ax_ws (κ ρ : Nat → Nat) : Nat → ax_W → va_W
  | _, [] => []
  | i, none :: w => ax_ws κ ρ (i + 1) w
  | i, some e :: w => (ρ i, ax_rc κ ρ e) :: ax_ws κ ρ (i + 1) w
theorem ax_ws_mem {κ ρ : Nat → Nat} {w : ax_W} {i : Nat} {q : Nat × va_E} : q ∈ ax_ws κ ρ i w ↔ ∃ k e, ax_nth w k = some e ∧ q = (ρ (i + k), ax_rc κ ρ e) := by
  induction w generalizing i with
  | nil => simp [ax_ws, ax_nth]
  | cons x w ih =>
    constructor
    · intro h
      cases x with
      | none =>
        obtain ⟨k, e, h1, h2⟩ := ih.mp h
        exact ⟨k + 1, e, h1, by rw [h2]; congr 2; omega⟩
      | some e0 =>
        rcases List.mem_cons.mp h with h | h
        · exact ⟨0, e0, rfl, h⟩
        · obtain ⟨k, e, h1, h2⟩ := ih.mp h
          exact ⟨k + 1, e, h1, by rw [h2]; congr 2; omega⟩
    · rintro ⟨k, e, h1, h2⟩
      cases k with
      | zero =>
        cases x with
        | none => cases h1
        | some e0 => cases h1; exact List.mem_cons.mpr (Or.inl h2)
      | succ k =>
        have h3 : q ∈ ax_ws κ ρ (i + 1) w := ih.mpr ⟨k, e, h1, by rw [h2]; congr 2; omega⟩
        cases x with
        | none => exact h3
        | some e0 => exact List.mem_cons.mpr (Or.inr h3)
/-- the world stands in the heap under a naming -/
def ax_Rep (D : va_G) (κ ρ : Nat → Nat) (w : ax_W) (H : Heap) : Prop := (∀ k e, ax_nth w k = some e → va_at D vwCl (ρ k, ax_rc κ ρ e) H) ∧ ∀ i j e f, ax_nth w i = some e → ax_nth w j = some f → ρ i = ρ j → i = j
def ax_In (ρ : Nat → Nat) (A : Nat → Prop) (w : ax_W) : Prop := ∀ k e, ax_nth w k = some e → A (ρ k)
theorem ax_ws_P {D : va_G} {κ ρ : Nat → Nat} {w : ax_W} {H : Heap} (h : ax_Rep D κ ρ w H) : va_P D vwCl (ax_ws κ ρ 0 w) H := by
  intro k q hq
  obtain ⟨i, e, h1, rfl⟩ := ax_ws_mem.mp (List.mem_of_getElem? hq)
  rw [Nat.zero_add]
  exact h.1 i e h1
theorem ax_ws_nd {κ ρ : Nat → Nat} {w : ax_W} {s : Nat} (h : ∀ i j e f, ax_nth w i = some e → ax_nth w j = some f → ρ (s + i) = ρ (s + j) → i = j) : ∀ (i j : Nat) (p q : Nat × va_E), (ax_ws κ ρ s w)[i]? = some p → (ax_ws κ ρ s w)[j]? = some q → p.1 = q.1 → i = j := by
  induction w generalizing s with
  | nil => intro i j p q h1; simp [ax_ws] at h1
  | cons x w ih =>
    have ih' := ih (s := s + 1) (fun i j e f h1 h2 h3 => by
      have := h (i + 1) (j + 1) e f h1 h2 (by rw [show s + (i + 1) = s + 1 + i by omega, show s + (j + 1) = s + 1 + j by omega]; exact h3)
      omega)
    cases x with
    | none => exact ih'
    | some e0 =>
      have hd : ∀ (j : Nat) (q : Nat × va_E), (ax_ws κ ρ (s + 1) w)[j]? = some q → ρ s ≠ q.1 := by
        intro j q hq he
        obtain ⟨k, f, h1, rfl⟩ := ax_ws_mem.mp (List.mem_of_getElem? hq)
        have := h 0 (k + 1) e0 f rfl h1 (by rw [Nat.add_zero, show s + (k + 1) = s + 1 + k by omega]; exact he)
        omega
      intro i j p q h1 h2 h3
      cases i with
      | zero =>
        cases h1
        cases j with
        | zero => rfl
        | succ j => exact absurd h3 (hd j q h2)
      | succ i =>
        cases j with
        | zero => cases h2; exact absurd h3.symm (hd i p h1)
        | succ j => exact congrArg Nat.succ (ih' i j p q h1 h2 h3)
theorem ax_ws_D {D : va_G} {κ ρ : Nat → Nat} {w : ax_W} {H : Heap} {A : Nat → Prop} (h : ax_Rep D κ ρ w H) (hA : ax_In ρ A w) : va_D A (ax_ws κ ρ 0 w) := by
  refine ⟨ax_ws_nd (fun i j e f h1 h2 h3 => h.2 i j e f h1 h2 (by simpa using h3)), fun k q hq => ?_⟩
  obtain ⟨i, e, h1, rfl⟩ := ax_ws_mem.mp (List.mem_of_getElem? hq)
  rw [Nat.zero_add]
  exact hA i e h1
theorem ax_ws_at {κ ρ : Nat → Nat} {w : ax_W} {y : Nat} {e : va_E} (h : ax_nth w y = some e) : ∃ q0 : Nat, (ax_ws κ ρ 0 w)[q0]? = some (ρ y, ax_rc κ ρ e) := by
  have : (ρ y, ax_rc κ ρ e) ∈ ax_ws κ ρ 0 w := ax_ws_mem.mpr ⟨y, e, h, by rw [Nat.zero_add]⟩
  exact List.getElem?_of_mem this
theorem ax_rep_set {D : va_G} {κ ρ : Nat → Nat} {w : ax_W} {H H1 : Heap} {y q0 : Nat} {e e' : va_E} (hR : ax_Rep D κ ρ w H) (hy : ax_nth w y = some e) (hq : (ax_ws κ ρ 0 w)[q0]? = some (ρ y, ax_rc κ ρ e)) (hP : va_P D vwCl ((ax_ws κ ρ 0 w).set q0 (ρ y, ax_rc κ ρ e')) H1) : ax_Rep D κ ρ (ax_set w y (some e')) H1 := by
  have hlt := ax_nth_lt hy
  have hpr : ∀ k f, ax_nth (ax_set w y (some e')) k = some f → ∃ f', ax_nth w k = some f' := by
    intro k f hk
    by_cases hky : k = y
    · subst hky; exact ⟨_, hy⟩
    · rw [ax_nth_set_ne hky] at hk; exact ⟨_, hk⟩
  refine ⟨fun k f hk => ?_, fun i j a b h1 h2 h3 => ?_⟩
  · by_cases hky : k = y
    · subst hky
      rw [ax_nth_set_eq hlt] at hk
      cases hk
      refine hP q0 _ ?_
      rw [List.getElem?_set_self (List.getElem?_eq_some_iff.mp hq).1]
    · rw [ax_nth_set_ne hky] at hk
      obtain ⟨q1, h1⟩ := ax_ws_at (κ := κ) (ρ := ρ) hk
      refine hP q1 _ ?_
      rw [List.getElem?_set_ne, h1]
      intro hqq
      subst hqq
      rw [hq] at h1
      have := congrArg Prod.fst (Option.some.inj h1)
      exact hky (hR.2 y k _ _ hy hk this).symm
  · obtain ⟨a', ha⟩ := hpr i a h1
    obtain ⟨b', hb⟩ := hpr j b h2
    exact hR.2 i j _ _ ha hb h3
theorem ax_in_set {ρ : Nat → Nat} {A : Nat → Prop} {w : ax_W} {y : Nat} {x : Option va_E} (h : ax_In ρ A w) (hy : A (ρ y)) : ax_In ρ A (ax_set w y x) := by
  intro k f hk
  by_cases hky : k = y
  · subst hky; exact hy
  · rw [ax_nth_set_ne hky] at hk; exact h k f hk
/-- a cell is made: all others stay -/
theorem ax_rep_new {D : va_G} {κ ρ : Nat → Nat} {w : ax_W} {H H1 : Heap} {b : Nat} {e : va_E} (hR : ax_Rep D κ ρ w H) (hn : ax_nth w b = none) (hb : ρ b = H.size) (o1 : ∀ q, q < H.size → H1[q]? = H[q]?) (he : va_at D vwCl (ρ b, ax_rc κ ρ e) H1) : ax_Rep D κ ρ (ax_set w b (some e)) H1 := by
  have old : ∀ k f, k ≠ b → ax_nth (ax_set w b (some e)) k = some f → ax_nth w k = some f := fun k f hk h => by rwa [ax_nth_set_ne hk] at h
  refine ⟨fun k f hk => ?_, fun i j a c h1 h2 h3 => ?_⟩
  · by_cases hkb : k = b
    · subst hkb
      rw [ax_nth_set_eq (by have := ax_nth_lt hk; rwa [ax_set_len] at this)] at hk
      cases hk
      exact he
    · have h := hR.1 k f (old k f hkb hk)
      exact h.kept (o1 _ h.lt)
  · by_cases hi : i = b
    · by_cases hj : j = b
      · rw [hi, hj]
      · have h := (hR.1 j c (old j c hj h2)).lt
        rw [hi, hb] at h3
        exact absurd h (by show ¬ ρ j < H.size; omega)
    · by_cases hj : j = b
      · have h := (hR.1 i a (old i a hi h1)).lt
        rw [hj, hb] at h3
        exact absurd h (by show ¬ ρ i < H.size; omega)
      · exact hR.2 i j a c (old i a hi h1) (old j c hj h2) h3
/-- the locals -/
def ax_lv (ρ : Nat → Nat) : Nat → ax_L → List (Nat × Value)
  | _, [] => []
  | i, none :: l => ax_lv ρ (i + 1) l
  | i, some v :: l => (i, ax_rv ρ v) :: ax_lv ρ (i + 1) l
theorem ax_lv_mem {ρ : Nat → Nat} {l : ax_L} {s : Nat} {q : Nat × Value} : q ∈ ax_lv ρ s l ↔ ∃ k v, ax_nth l k = some v ∧ q = (s + k, ax_rv ρ v) := by
  induction l generalizing s with
  | nil => simp [ax_lv, ax_nth]
  | cons x l ih =>
    constructor
    · intro h
      cases x with
      | none =>
        obtain ⟨k, v, h1, h2⟩ := ih.mp h
        exact ⟨k + 1, v, h1, by rw [h2]; congr 1; omega⟩
      | some v0 =>
        rcases List.mem_cons.mp h with h | h
        · exact ⟨0, v0, rfl, h⟩
        · obtain ⟨k, v, h1, h2⟩ := ih.mp h
          exact ⟨k + 1, v, h1, by rw [h2]; congr 1; omega⟩
    · rintro ⟨k, v, h1, h2⟩
      cases k with
      | zero =>
        cases x with
        | none => cases h1
        | some v0 => cases h1; exact List.mem_cons.mpr (Or.inl h2)
      | succ k =>
        have h3 : q ∈ ax_lv ρ (s + 1) l := ih.mpr ⟨k, v, h1, by rw [h2]; congr 1; omega⟩
        cases x with
        | none => exact h3
        | some v0 => exact List.mem_cons.mpr (Or.inr h3)
def ax_Ls (ρ : Nat → Nat) (ls : ax_L) (n : Nat) (r : Array Slot) : Prop := lv_has r n (ax_lv ρ 0 ls)
theorem ax_Ls.at {ρ : Nat → Nat} {ls : ax_L} {n i : Nat} {r : Array Slot} {v : Value} (h : ax_Ls ρ ls n r) (hi : ax_nth ls i = some v) : r[i]? = some (.val (ax_rv ρ v)) := h.2.2 (i, ax_rv ρ v) (ax_lv_mem.mpr ⟨i, v, hi, by rw [Nat.zero_add]⟩)
theorem ax_Ls.sub {ρ : Nat → Nat} {ls ls' : ax_L} {n : Nat} {r : Array Slot} (h : ax_Ls ρ ls n r) (hs : ∀ i v, ax_nth ls' i = some v → ax_nth ls i = some v) : ax_Ls ρ ls' n r := by
  refine ⟨h.1, h.2.1, fun q hq => ?_⟩
  obtain ⟨k, v, h1, rfl⟩ := ax_lv_mem.mp hq
  rw [Nat.zero_add]
  exact h.at (hs k v h1)
theorem ax_mask_sub {m : List Bool} {ls : ax_L} : ∀ i v, ax_nth (ax_mask m ls) i = some v → ax_nth ls i = some v := by
  induction m generalizing ls with
  | nil => intro i v h; cases ls <;> exact h
  | cons b m ih =>
    intro i v h
    cases ls with
    | nil => cases h
    | cons x l => cases i with
      | zero => cases b with
        | true => exact h
        | false => cases h
      | succ i => exact ih i v h
theorem ax_keep_sub {k : Option (List Bool)} {ls : ax_L} : ∀ i v, ax_nth (ax_keep k ls) i = some v → ax_nth ls i = some v := by
  cases k with
  | none => exact fun _ _ h => h
  | some m => exact ax_mask_sub
theorem ax_kill_sub {ls : ax_L} {i : Nat} : ∀ j v, ax_nth (ax_kill ls i) j = some v → ax_nth ls j = some v ∧ ¬ (j + 1 = i ∧ v.category = 2) := by
  intro j v h
  cases i with
  | zero => exact ⟨h, fun q => by omega⟩
  | succ i =>
    have hk : ∀ u : Value, ax_nth ls i = some u → u.category = 2 → ax_kill ls (i + 1) = ax_set ls i none := by
      intro u hu hc
      cases u <;> simp [Value.category] at hc <;> simp [ax_kill, hu]
    by_cases hc : ∃ u : Value, ax_nth ls i = some u ∧ u.category = 2
    · obtain ⟨u, hu, hc⟩ := hc
      rw [hk u hu hc] at h
      by_cases hj : j = i
      · subst hj
        rw [ax_nth_set_eq (ax_nth_lt hu)] at h
        cases h
      · rw [ax_nth_set_ne hj] at h
        exact ⟨h, fun q => by omega⟩
    · have he : ax_kill ls (i + 1) = ls := by
        simp only [ax_kill]
        split
        · rename_i x hx; exact absurd ⟨_, hx, rfl⟩ hc
        · rename_i x hx; exact absurd ⟨_, hx, rfl⟩ hc
        · rfl
      rw [he] at h
      exact ⟨h, fun q => hc ⟨v, by rw [← show j = i by omega]; exact h, q.2⟩⟩
theorem ax_rv_cat {ρ : Nat → Nat} {v : Value} : (ax_rv ρ v).category = v.category := by cases v <;> rfl
theorem ax_Ls.st1 {ρ : Nat → Nat} {ls : ax_L} {n i : Nat} {r : Array Slot} {x : Value} (h : lv_has r n ((i, ax_rv ρ x) :: (ax_lv ρ 0 ls).filter (fun q => !(q.1 == i) && !(q.1 + 1 == i && q.2.category == 2)))) : ax_Ls ρ (ax_st1 ls i x) n r := by
  refine ⟨h.1, h.2.1, fun q hq => ?_⟩
  obtain ⟨k, v, h1, rfl⟩ := ax_lv_mem.mp hq
  rw [Nat.zero_add]
  refine h.2.2 _ ?_
  by_cases hk : k = i
  · subst hk
    unfold ax_st1 at h1
    rw [ax_nth_set_eq (by have := ax_nth_lt h1; rwa [ax_set_len] at this)] at h1
    cases h1
    exact List.mem_cons_self
  · unfold ax_st1 at h1
    rw [ax_nth_set_ne hk] at h1
    obtain ⟨h2, h3⟩ := ax_kill_sub k v h1
    refine List.mem_cons_of_mem _ (List.mem_filter.mpr ⟨ax_lv_mem.mpr ⟨k, v, h2, by rw [Nat.zero_add]⟩, ?_⟩)
    simp only [ax_rv_cat]
    by_cases h4 : k + 1 = i
    · have : ¬ v.category = 2 := fun q => h3 ⟨h4, q⟩
      simp [hk, this]
    · simp [hk, h4]
theorem ax_Ls.st2 {ρ : Nat → Nat} {ls : ax_L} {n i : Nat} {r : Array Slot} {x : Value} (h : lv_has r n ((i, ax_rv ρ x) :: (ax_lv ρ 0 ls).filter (fun q => !(q.1 == i) && (!(q.1 == i + 1) && !(q.1 + 1 == i && q.2.category == 2))))) : ax_Ls ρ (ax_st2 ls i x) n r := by
  refine ⟨h.1, h.2.1, fun q hq => ?_⟩
  obtain ⟨k, v, h1, rfl⟩ := ax_lv_mem.mp hq
  rw [Nat.zero_add]
  refine h.2.2 _ ?_
  unfold ax_st2 at h1
  have hk1 : k ≠ i + 1 := by
    intro hk
    subst hk
    rw [ax_nth_set_eq (by have := ax_nth_lt h1; rwa [ax_set_len] at this)] at h1
    cases h1
  rw [ax_nth_set_ne hk1] at h1
  by_cases hk : k = i
  · subst hk
    rw [ax_nth_set_eq (by have := ax_nth_lt h1; rwa [ax_set_len] at this)] at h1
    cases h1
    exact List.mem_cons_self
  · rw [ax_nth_set_ne hk] at h1
    obtain ⟨h2, h3⟩ := ax_kill_sub k v h1
    refine List.mem_cons_of_mem _ (List.mem_filter.mpr ⟨ax_lv_mem.mpr ⟨k, v, h2, by rw [Nat.zero_add]⟩, ?_⟩)
    simp only [ax_rv_cat]
    by_cases h4 : k + 1 = i
    · have : ¬ v.category = 2 := fun q => h3 ⟨h4, q⟩
      simp [hk, hk1, this]
    · simp [hk, hk1, h4]
