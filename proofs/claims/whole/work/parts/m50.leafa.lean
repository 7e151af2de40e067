/-! the small machine keeps the typed predicates: by program -/
abbrev po_X0_begin (l_told : Int32) (l_spring : Int32) (l_many : Int32) (l_back : Nat → Int32) (l_leap : Nat → Int32) (l_breath : Nat → Int32) (Q : (Int32) → (Nat → Int32) → (Nat → Int32) → (Nat → Int32) → (Nat → Int32) → Prop) : ax_E → Prop := fun out => ∃ (g_turn' : Int32) (g_order' : Nat → Int32) (g_back' : Nat → Int32) (g_breath' : Nat → Int32) (g_leapt' : Nat → Int32), out = (none, (w_gl g_turn' g_order' g_back' g_breath' g_leapt' l_told l_spring l_many l_back l_leap l_breath), [], 0) ∧ Q g_turn' g_order' g_back' g_breath' g_leapt'
theorem ok_X0_begin_7 {X : Nat × (Nat → Int32)} {N : Nat} {l_told : Int32} {l_spring : Int32} {l_many : Int32} {l_back : Nat → Int32} {l_leap : Nat → Int32} {l_breath : Nat → Int32}  {Q : (Int32) → (Nat → Int32) → (Nat → Int32) → (Nat → Int32) → (Nat → Int32) → Prop}  : ∀ (n : Nat) (v2 : Int32) (g_turn : Int32) (g_order : Nat → Int32) (g_back : Nat → Int32) (g_breath : Nat → Int32) (g_leapt : Nat → Int32), wp_X0_begin_7 N l_back l_breath  Q n v2 g_turn g_order g_back g_breath g_leapt → EV (ax_GG X) m_X0_begin (po_X0_begin l_told l_spring l_many l_back l_leap l_breath Q) (7, [some (.ref 0), some (.ref 5), some (.int v2)], [], (w_gl g_turn g_order g_back g_breath g_leapt l_told l_spring l_many l_back l_leap l_breath), [], 0) := by
  intro n
  induction n with
  | zero => intro _ _ _ _ _ _ h; exact h.elim
  | succ n ih =>
    intro v2 g_turn g_order g_back g_breath g_leapt h
    unfold wp_X0_begin_7 at h
    refine EV.seg (c' := (10, [some (.ref 0), some (.ref 5), some (.int v2)], [.int (7 : Int32), .int v2], (w_gl g_turn g_order g_back g_breath g_leapt l_told l_spring l_many l_back l_leap l_breath), [], 0)) 2 rfl trivial ?_
    refine EV.br (c1 := (57, [some (.ref 0), some (.ref 5), some (.int v2)], [], (w_gl g_turn g_order g_back g_breath g_leapt l_told l_spring l_many l_back l_leap l_breath), [], 0)) (c2 := (13, [some (.ref 0), some (.ref 5), some (.int v2)], [], (w_gl g_turn g_order g_back g_breath g_leapt l_told l_spring l_many l_back l_leap l_breath), [], 0)) rfl (fun hc => ?_) (fun hc => ?_)
    · have h := h.1 hc
      exact EV.ret rfl trivial ⟨_, _, _, _, _, rfl, h⟩
    · have h := h.2 hc
      obtain ⟨g1, h⟩ := h
      refine EV.seg (c' := (20, [some (.ref 0), some (.ref 5), some (.int v2)], [], (w_gl g_turn (upd g_order v2.toNatClampNeg v2) g_back g_breath g_leapt l_told l_spring l_many l_back l_leap l_breath), [], 0)) 5 rfl (And.intro g1 trivial) ?_
      obtain ⟨a1, e_a1⟩ : ∃ z : Nat → Int32, z = upd g_order v2.toNatClampNeg v2 := ⟨_, rfl⟩
      have h := h a1 e_a1
      rw [← e_a1]
      obtain ⟨g1, g2, h⟩ := h
      refine EV.seg (c' := (32, [some (.ref 0), some (.ref 5), some (.int v2)], [], (w_gl g_turn a1 (upd g_back v2.toNatClampNeg (l_back v2.toNatClampNeg)) g_breath g_leapt l_told l_spring l_many l_back l_leap l_breath), [], 0)) 8 rfl (And.intro g1 (And.intro g2 trivial)) ?_
      obtain ⟨a2, e_a2⟩ : ∃ z : Nat → Int32, z = upd g_back v2.toNatClampNeg (l_back v2.toNatClampNeg) := ⟨_, rfl⟩
      have h := h a2 e_a2
      rw [← e_a2]
      obtain ⟨g1, g2, h⟩ := h
      refine EV.seg (c' := (44, [some (.ref 0), some (.ref 5), some (.int v2)], [], (w_gl g_turn a1 a2 (upd g_breath v2.toNatClampNeg (l_breath v2.toNatClampNeg)) g_leapt l_told l_spring l_many l_back l_leap l_breath), [], 0)) 8 rfl (And.intro g1 (And.intro g2 trivial)) ?_
      obtain ⟨a3, e_a3⟩ : ∃ z : Nat → Int32, z = upd g_breath v2.toNatClampNeg (l_breath v2.toNatClampNeg) := ⟨_, rfl⟩
      have h := h a3 e_a3
      rw [← e_a3]
      obtain ⟨g1, h⟩ := h
      refine EV.seg (c' := (51, [some (.ref 0), some (.ref 5), some (.int v2)], [], (w_gl g_turn a1 a2 a3 (upd g_leapt v2.toNatClampNeg (0 : Int32)) l_told l_spring l_many l_back l_leap l_breath), [], 0)) 5 rfl (And.intro g1 trivial) ?_
      obtain ⟨a4, e_a4⟩ : ∃ z : Nat → Int32, z = upd g_leapt v2.toNatClampNeg (0 : Int32) := ⟨_, rfl⟩
      have h := h a4 e_a4
      rw [← e_a4]
      refine EV.seg (c' := (7, [some (.ref 0), some (.ref 5), some (.int (v2 + 1))], [], (w_gl g_turn a1 a2 a3 a4 l_told l_spring l_many l_back l_leap l_breath), [], 0)) 2 rfl trivial ?_
      exact ih _ _ _ _ _ _ h
theorem em_X0_begin {X : Nat × (Nat → Int32)} {N : Nat} {l_told : Int32} {l_spring : Int32} {l_many : Int32} {l_back : Nat → Int32} {l_leap : Nat → Int32} {l_breath : Nat → Int32} {g_turn : Int32} {g_order : Nat → Int32} {g_back : Nat → Int32} {g_breath : Nat → Int32} {g_leapt : Nat → Int32} {Q : (Int32) → (Nat → Int32) → (Nat → Int32) → (Nat → Int32) → (Nat → Int32) → Prop} (h : wp_X0_begin N l_back l_breath Q g_turn g_order g_back g_breath g_leapt) : EM (ax_GG X) m_X0_begin [.ref 0, .ref 5] (w_gl g_turn g_order g_back g_breath g_leapt l_told l_spring l_many l_back l_leap l_breath) (po_X0_begin l_told l_spring l_many l_back l_leap l_breath Q) := by
  unfold wp_X0_begin at h
  show EV _ _ _ (0, [some (.ref 0), some (.ref 5), none], [], (w_gl g_turn g_order g_back g_breath g_leapt l_told l_spring l_many l_back l_leap l_breath), [], 0)
  refine EV.seg (c' := (7, [some (.ref 0), some (.ref 5), some (.int (0 : Int32))], [], (w_gl (0 : Int32) g_order g_back g_breath g_leapt l_told l_spring l_many l_back l_leap l_breath), [], 0)) 5 rfl trivial ?_
  exact (ok_X0_begin_7  N) _ _ _ _ _ _ h
abbrev po_X0_takeFrom (h_turn : Int32) (h_order : Nat → Int32) (h_back : Nat → Int32) (h_breath : Nat → Int32) (h_leapt : Nat → Int32) (Q : (Int32) → (Nat → Int32) → (Nat → Int32) → (Nat → Int32) → (Nat → Int32) → Prop) : ax_E → Prop := fun out => ∃ (g_turn' : Int32) (g_order' : Nat → Int32) (g_back' : Nat → Int32) (g_breath' : Nat → Int32) (g_leapt' : Nat → Int32), out = (none, (w_gh g_turn' g_order' g_back' g_breath' g_leapt' h_turn h_order h_back h_breath h_leapt), [], 0) ∧ Q g_turn' g_order' g_back' g_breath' g_leapt'
theorem em_X0_takeFrom {X : Nat × (Nat → Int32)} {N : Nat} {h_turn : Int32} {h_order : Nat → Int32} {h_back : Nat → Int32} {h_breath : Nat → Int32} {h_leapt : Nat → Int32} {g_turn : Int32} {g_order : Nat → Int32} {g_back : Nat → Int32} {g_breath : Nat → Int32} {g_leapt : Nat → Int32} {Q : (Int32) → (Nat → Int32) → (Nat → Int32) → (Nat → Int32) → (Nat → Int32) → Prop} (h : wp_X0_takeFrom N h_turn h_order h_back h_breath h_leapt Q g_turn g_order g_back g_breath g_leapt) : EM (ax_GG X) m_X0_takeFrom [.ref 0, .ref 5] (w_gh g_turn g_order g_back g_breath g_leapt h_turn h_order h_back h_breath h_leapt) (po_X0_takeFrom h_turn h_order h_back h_breath h_leapt Q) := by
  unfold wp_X0_takeFrom at h
  show EV _ _ _ (0, [some (.ref 0), some (.ref 5)], [], (w_gh g_turn g_order g_back g_breath g_leapt h_turn h_order h_back h_breath h_leapt), [], 0)
  obtain ⟨g1, h⟩ := h
  refine EV.seg (c' := (23, [some (.ref 0), some (.ref 5)], [], (w_gh h_turn (va_cpy h_order g_order ((0 : Int32).toNatClampNeg) ((0 : Int32).toNatClampNeg) ((7 : Int32).toNatClampNeg)) g_back g_breath g_leapt h_turn h_order h_back h_breath h_leapt), [], 0)) 12 rfl (And.intro g1 trivial) ?_
  obtain ⟨a1, e_a1⟩ : ∃ z : Nat → Int32, z = va_cpy h_order g_order ((0 : Int32).toNatClampNeg) ((0 : Int32).toNatClampNeg) ((7 : Int32).toNatClampNeg) := ⟨_, rfl⟩
  have h := h a1 e_a1
  rw [← e_a1]
  obtain ⟨g1, h⟩ := h
  refine EV.seg (c' := (38, [some (.ref 0), some (.ref 5)], [], (w_gh h_turn a1 (va_cpy h_back g_back ((0 : Int32).toNatClampNeg) ((0 : Int32).toNatClampNeg) ((7 : Int32).toNatClampNeg)) g_breath g_leapt h_turn h_order h_back h_breath h_leapt), [], 0)) 8 rfl (And.intro g1 trivial) ?_
  obtain ⟨a2, e_a2⟩ : ∃ z : Nat → Int32, z = va_cpy h_back g_back ((0 : Int32).toNatClampNeg) ((0 : Int32).toNatClampNeg) ((7 : Int32).toNatClampNeg) := ⟨_, rfl⟩
  have h := h a2 e_a2
  rw [← e_a2]
  obtain ⟨g1, h⟩ := h
  refine EV.seg (c' := (53, [some (.ref 0), some (.ref 5)], [], (w_gh h_turn a1 a2 (va_cpy h_breath g_breath ((0 : Int32).toNatClampNeg) ((0 : Int32).toNatClampNeg) ((7 : Int32).toNatClampNeg)) g_leapt h_turn h_order h_back h_breath h_leapt), [], 0)) 8 rfl (And.intro g1 trivial) ?_
  obtain ⟨a3, e_a3⟩ : ∃ z : Nat → Int32, z = va_cpy h_breath g_breath ((0 : Int32).toNatClampNeg) ((0 : Int32).toNatClampNeg) ((7 : Int32).toNatClampNeg) := ⟨_, rfl⟩
  have h := h a3 e_a3
  rw [← e_a3]
  obtain ⟨g1, h⟩ := h
  refine EV.seg (c' := (68, [some (.ref 0), some (.ref 5)], [], (w_gh h_turn a1 a2 a3 (va_cpy h_leapt g_leapt ((0 : Int32).toNatClampNeg) ((0 : Int32).toNatClampNeg) ((7 : Int32).toNatClampNeg)) h_turn h_order h_back h_breath h_leapt), [], 0)) 8 rfl (And.intro g1 trivial) ?_
  obtain ⟨a4, e_a4⟩ : ∃ z : Nat → Int32, z = va_cpy h_leapt g_leapt ((0 : Int32).toNatClampNeg) ((0 : Int32).toNatClampNeg) ((7 : Int32).toNatClampNeg) := ⟨_, rfl⟩
  have h := h a4 e_a4
  rw [← e_a4]
  exact EV.ret rfl trivial ⟨_, _, _, _, _, rfl, h⟩
abbrev po_X0_placeOf (g_turn : Int32) (g_order : Nat → Int32) (g_back : Nat → Int32) (g_breath : Nat → Int32) (g_leapt : Nat → Int32) (l_told : Int32) (l_spring : Int32) (l_many : Int32) (l_back : Nat → Int32) (l_leap : Nat → Int32) (l_breath : Nat → Int32) (Q : Int32 → Prop) : ax_E → Prop := fun out => ∃ (r : Int32), out = (some (.int r), (w_gl g_turn g_order g_back g_breath g_leapt l_told l_spring l_many l_back l_leap l_breath), [], 0) ∧ Q r
theorem ok_X0_placeOf_2 {X : Nat × (Nat → Int32)} {N : Nat} {g_turn : Int32} {g_order : Nat → Int32} {g_back : Nat → Int32} {g_breath : Nat → Int32} {g_leapt : Nat → Int32} {l_told : Int32} {l_spring : Int32} {l_many : Int32} {l_back : Nat → Int32} {l_leap : Nat → Int32} {l_breath : Nat → Int32}  {Q : Int32 → Prop}  : ∀ (n : Nat) (v2 : Int32) (v3 : Int32), wp_X0_placeOf_2 N g_order l_many  Q n v2 v3 → EV (ax_GG X) m_X0_placeOf (po_X0_placeOf g_turn g_order g_back g_breath g_leapt l_told l_spring l_many l_back l_leap l_breath Q) (2, [some (.ref 0), some (.ref 5), some (.int v2), some (.int v3)], [], (w_gl g_turn g_order g_back g_breath g_leapt l_told l_spring l_many l_back l_leap l_breath), [], 0) := by
  intro n
  induction n with
  | zero => intro _ _ h; exact h.elim
  | succ n ih =>
    intro v2 v3 h
    unfold wp_X0_placeOf_2 at h
    refine EV.seg (c' := (7, [some (.ref 0), some (.ref 5), some (.int v2), some (.int v3)], [.int l_many, .int v3], (w_gl g_turn g_order g_back g_breath g_leapt l_told l_spring l_many l_back l_leap l_breath), [], 0)) 3 rfl trivial ?_
    refine EV.br (c1 := (28, [some (.ref 0), some (.ref 5), some (.int v2), some (.int v3)], [], (w_gl g_turn g_order g_back g_breath g_leapt l_told l_spring l_many l_back l_leap l_breath), [], 0)) (c2 := (10, [some (.ref 0), some (.ref 5), some (.int v2), some (.int v3)], [], (w_gl g_turn g_order g_back g_breath g_leapt l_told l_spring l_many l_back l_leap l_breath), [], 0)) rfl (fun hc => ?_) (fun hc => ?_)
    · have h := h.1 hc
      refine EV.seg (c' := (29, [some (.ref 0), some (.ref 5), some (.int v2), some (.int v3)], [.int (0 : Int32)], (w_gl g_turn g_order g_back g_breath g_leapt l_told l_spring l_many l_back l_leap l_breath), [], 0)) 1 rfl trivial ?_
      exact EV.ret rfl trivial ⟨_, rfl, h⟩
    · have h := h.2 hc
      obtain ⟨g1, h⟩ := h
      refine EV.seg (c' := (17, [some (.ref 0), some (.ref 5), some (.int v2), some (.int v3)], [.int v2, .int (g_order v3.toNatClampNeg)], (w_gl g_turn g_order g_back g_breath g_leapt l_told l_spring l_many l_back l_leap l_breath), [], 0)) 5 rfl (And.intro g1 trivial) ?_
      refine EV.br (c1 := (20, [some (.ref 0), some (.ref 5), some (.int v2), some (.int v3)], [], (w_gl g_turn g_order g_back g_breath g_leapt l_told l_spring l_many l_back l_leap l_breath), [], 0)) (c2 := (22, [some (.ref 0), some (.ref 5), some (.int v2), some (.int v3)], [], (w_gl g_turn g_order g_back g_breath g_leapt l_told l_spring l_many l_back l_leap l_breath), [], 0)) rfl (fun hc => ?_) (fun hc => ?_)
      · have h := h.1 hc
        refine EV.seg (c' := (21, [some (.ref 0), some (.ref 5), some (.int v2), some (.int v3)], [.int v3], (w_gl g_turn g_order g_back g_breath g_leapt l_told l_spring l_many l_back l_leap l_breath), [], 0)) 1 rfl trivial ?_
        exact EV.ret rfl trivial ⟨_, rfl, h⟩
      · have h := h.2 hc
        refine EV.seg (c' := (2, [some (.ref 0), some (.ref 5), some (.int v2), some (.int (v3 + 1))], [], (w_gl g_turn g_order g_back g_breath g_leapt l_told l_spring l_many l_back l_leap l_breath), [], 0)) 2 rfl trivial ?_
        exact ih _ _ h
theorem em_X0_placeOf {X : Nat × (Nat → Int32)} {N : Nat} {g_turn : Int32} {g_order : Nat → Int32} {g_back : Nat → Int32} {g_breath : Nat → Int32} {g_leapt : Nat → Int32} {l_told : Int32} {l_spring : Int32} {l_many : Int32} {l_back : Nat → Int32} {l_leap : Nat → Int32} {l_breath : Nat → Int32} {p0 : Int32} {Q : Int32 → Prop} (h : wp_X0_placeOf N g_order l_many Q p0) : EM (ax_GG X) m_X0_placeOf [.ref 0, .ref 5, .int p0] (w_gl g_turn g_order g_back g_breath g_leapt l_told l_spring l_many l_back l_leap l_breath) (po_X0_placeOf g_turn g_order g_back g_breath g_leapt l_told l_spring l_many l_back l_leap l_breath Q) := by
  unfold wp_X0_placeOf at h
  show EV _ _ _ (0, [some (.ref 0), some (.ref 5), some (.int p0), none], [], (w_gl g_turn g_order g_back g_breath g_leapt l_told l_spring l_many l_back l_leap l_breath), [], 0)
  refine EV.seg (c' := (2, [some (.ref 0), some (.ref 5), some (.int p0), some (.int (0 : Int32))], [], (w_gl g_turn g_order g_back g_breath g_leapt l_told l_spring l_many l_back l_leap l_breath), [], 0)) 2 rfl trivial ?_
  exact (ok_X0_placeOf_2  N) _ _ h
abbrev po_X0_overFrom (g_turn : Int32) (g_order : Nat → Int32) (g_back : Nat → Int32) (g_breath : Nat → Int32) (g_leapt : Nat → Int32) (l_told : Int32) (l_spring : Int32) (l_many : Int32) (l_back : Nat → Int32) (l_leap : Nat → Int32) (l_breath : Nat → Int32) (Q : Int32 → Prop) : ax_E → Prop := fun out => ∃ (r : Int32), out = (some (.int r), (w_gl g_turn g_order g_back g_breath g_leapt l_told l_spring l_many l_back l_leap l_breath), [], 0) ∧ Q r
theorem ok_X0_overFrom_56 {X : Nat × (Nat → Int32)} {N : Nat} {g_turn : Int32} {g_order : Nat → Int32} {g_back : Nat → Int32} {g_breath : Nat → Int32} {g_leapt : Nat → Int32} {l_told : Int32} {l_spring : Int32} {l_many : Int32} {l_back : Nat → Int32} {l_leap : Nat → Int32} {l_breath : Nat → Int32}  {Q : Int32 → Prop}  : ∀ (v4 : Int32), wp_X0_overFrom_56 N g_order g_back l_spring l_leap  Q  v4 → EV (ax_GG X) m_X0_overFrom (po_X0_overFrom g_turn g_order g_back g_breath g_leapt l_told l_spring l_many l_back l_leap l_breath Q) (56, [none, none, none, none, some (.int v4)], [], (w_gl g_turn g_order g_back g_breath g_leapt l_told l_spring l_many l_back l_leap l_breath), [], 0) := by
  intro v4 h
  unfold wp_X0_overFrom_56 at h
  refine EV.seg (c' := (58, [none, none, none, none, some (.int v4)], [.int v4], (w_gl g_turn g_order g_back g_breath g_leapt l_told l_spring l_many l_back l_leap l_breath), [], 0)) 1 rfl trivial ?_
  exact EV.ret rfl trivial ⟨_, rfl, h⟩
theorem ok_X0_overFrom_15 {X : Nat × (Nat → Int32)} {N : Nat} {g_turn : Int32} {g_order : Nat → Int32} {g_back : Nat → Int32} {g_breath : Nat → Int32} {g_leapt : Nat → Int32} {l_told : Int32} {l_spring : Int32} {l_many : Int32} {l_back : Nat → Int32} {l_leap : Nat → Int32} {l_breath : Nat → Int32}  {Q : Int32 → Prop}  : ∀ (n : Nat) (v2 : Int32) (v3 : Int32) (v4 : Int32), wp_X0_overFrom_15 N g_order g_back l_spring l_leap  Q n v2 v3 v4 → EV (ax_GG X) m_X0_overFrom (po_X0_overFrom g_turn g_order g_back g_breath g_leapt l_told l_spring l_many l_back l_leap l_breath Q) (15, [some (.ref 0), some (.ref 5), some (.int v2), some (.int v3), some (.int v4)], [], (w_gl g_turn g_order g_back g_breath g_leapt l_told l_spring l_many l_back l_leap l_breath), [], 0) := by
  intro n
  induction n with
  | zero => intro _ _ _ h; exact h.elim
  | succ n ih =>
    intro v2 v3 v4 h
    unfold wp_X0_overFrom_15 at h
    refine EV.seg (c' := (21, [some (.ref 0), some (.ref 5), some (.int v2), some (.int v3), some (.int v4)], [.int l_spring, .int v4], (w_gl g_turn g_order g_back g_breath g_leapt l_told l_spring l_many l_back l_leap l_breath), [], 0)) 3 rfl trivial ?_
    refine EV.br (c1 := (56, [some (.ref 0), some (.ref 5), some (.int v2), some (.int v3), some (.int v4)], [], (w_gl g_turn g_order g_back g_breath g_leapt l_told l_spring l_many l_back l_leap l_breath), [], 0)) (c2 := (24, [some (.ref 0), some (.ref 5), some (.int v2), some (.int v3), some (.int v4)], [], (w_gl g_turn g_order g_back g_breath g_leapt l_told l_spring l_many l_back l_leap l_breath), [], 0)) rfl (fun hc => ?_) (fun hc => ?_)
    · have h := h.1 hc
      refine EV.mask (ls' := [none, none, none, none, some (.int v4)]) rfl rfl ?_
      exact (ok_X0_overFrom_56 ) _ h
    · have h := h.2 hc
      refine EV.seg (c' := (27, [some (.ref 0), some (.ref 5), some (.int v2), some (.int v3), some (.int v4)], [.int v2, .int v4], (w_gl g_turn g_order g_back g_breath g_leapt l_told l_spring l_many l_back l_leap l_breath), [], 0)) 2 rfl trivial ?_
      refine EV.br (c1 := (56, [some (.ref 0), some (.ref 5), some (.int v2), some (.int v3), some (.int v4)], [], (w_gl g_turn g_order g_back g_breath g_leapt l_told l_spring l_many l_back l_leap l_breath), [], 0)) (c2 := (30, [some (.ref 0), some (.ref 5), some (.int v2), some (.int v3), some (.int v4)], [], (w_gl g_turn g_order g_back g_breath g_leapt l_told l_spring l_many l_back l_leap l_breath), [], 0)) rfl (fun hc => ?_) (fun hc => ?_)
      · have h := h.1 hc
        refine EV.mask (ls' := [none, none, none, none, some (.int v4)]) rfl rfl ?_
        exact (ok_X0_overFrom_56 ) _ h
      · have h := h.2 hc
        obtain ⟨g1, g2, h⟩ := h
        refine EV.seg (c' := (47, [some (.ref 0), some (.ref 5), some (.int v2), some (.int v3), some (.int v4)], [.int v3, .int (g_back (g_order ((v2 - v4) - (1 : Int32)).toNatClampNeg).toNatClampNeg)], (w_gl g_turn g_order g_back g_breath g_leapt l_told l_spring l_many l_back l_leap l_breath), [], 0)) 12 rfl (And.intro g1 (And.intro g2 trivial)) ?_
        refine EV.br (c1 := (56, [some (.ref 0), some (.ref 5), some (.int v2), some (.int v3), some (.int v4)], [], (w_gl g_turn g_order g_back g_breath g_leapt l_told l_spring l_many l_back l_leap l_breath), [], 0)) (c2 := (50, [some (.ref 0), some (.ref 5), some (.int v2), some (.int v3), some (.int v4)], [], (w_gl g_turn g_order g_back g_breath g_leapt l_told l_spring l_many l_back l_leap l_breath), [], 0)) rfl (fun hc => ?_) (fun hc => ?_)
        · have h := h.1 hc
          refine EV.mask (ls' := [none, none, none, none, some (.int v4)]) rfl rfl ?_
          exact (ok_X0_overFrom_56 ) _ h
        · have h := h.2 hc
          refine EV.seg (c' := (15, [some (.ref 0), some (.ref 5), some (.int v2), some (.int v3), some (.int (v4 + 1))], [], (w_gl g_turn g_order g_back g_breath g_leapt l_told l_spring l_many l_back l_leap l_breath), [], 0)) 2 rfl trivial ?_
          exact ih _ _ _ h
theorem em_X0_overFrom {X : Nat × (Nat → Int32)} {N : Nat} {g_turn : Int32} {g_order : Nat → Int32} {g_back : Nat → Int32} {g_breath : Nat → Int32} {g_leapt : Nat → Int32} {l_told : Int32} {l_spring : Int32} {l_many : Int32} {l_back : Nat → Int32} {l_leap : Nat → Int32} {l_breath : Nat → Int32} {p0 : Int32} {Q : Int32 → Prop} (h : wp_X0_overFrom N g_order g_back l_spring l_leap Q p0) : EM (ax_GG X) m_X0_overFrom [.ref 0, .ref 5, .int p0] (w_gl g_turn g_order g_back g_breath g_leapt l_told l_spring l_many l_back l_leap l_breath) (po_X0_overFrom g_turn g_order g_back g_breath g_leapt l_told l_spring l_many l_back l_leap l_breath Q) := by
  unfold wp_X0_overFrom at h
  show EV _ _ _ (0, [some (.ref 0), some (.ref 5), some (.int p0), none, none], [], (w_gl g_turn g_order g_back g_breath g_leapt l_told l_spring l_many l_back l_leap l_breath), [], 0)
  obtain ⟨g1, g2, h⟩ := h
  refine EV.seg (c' := (12, [some (.ref 0), some (.ref 5), some (.int p0), some (.int (l_leap (g_order p0.toNatClampNeg).toNatClampNeg)), none], [], (w_gl g_turn g_order g_back g_breath g_leapt l_told l_spring l_many l_back l_leap l_breath), [], 0)) 8 rfl (And.intro g1 (And.intro g2 trivial)) ?_
  obtain ⟨x1, e_x1⟩ : ∃ z : Int32, z = l_leap (g_order p0.toNatClampNeg).toNatClampNeg := ⟨_, rfl⟩
  have h := h x1 e_x1
  rw [← e_x1]
  refine EV.seg (c' := (15, [some (.ref 0), some (.ref 5), some (.int p0), some (.int x1), some (.int (0 : Int32))], [], (w_gl g_turn g_order g_back g_breath g_leapt l_told l_spring l_many l_back l_leap l_breath), [], 0)) 2 rfl trivial ?_
  exact (ok_X0_overFrom_15  N) _ _ _ h
abbrev po_X0_canFrom (g_turn : Int32) (g_order : Nat → Int32) (g_back : Nat → Int32) (g_breath : Nat → Int32) (g_leapt : Nat → Int32) (l_told : Int32) (l_spring : Int32) (l_many : Int32) (l_back : Nat → Int32) (l_leap : Nat → Int32) (l_breath : Nat → Int32) (Q : Int32 → Prop) : ax_E → Prop := fun out => ∃ (r : Int32), out = (some (.int r), (w_gl g_turn g_order g_back g_breath g_leapt l_told l_spring l_many l_back l_leap l_breath), [], 0) ∧ Q r
theorem ok_X0_canFrom_47 {X : Nat × (Nat → Int32)} {N : Nat} {g_turn : Int32} {g_order : Nat → Int32} {g_back : Nat → Int32} {g_breath : Nat → Int32} {g_leapt : Nat → Int32} {l_told : Int32} {l_spring : Int32} {l_many : Int32} {l_back : Nat → Int32} {l_leap : Nat → Int32} {l_breath : Nat → Int32}  {Q : Int32 → Prop}  : ∀ (s0 : Int32), wp_X0_canFrom_47 N g_order g_back g_breath l_leap  Q  s0 → EV (ax_GG X) m_X0_canFrom (po_X0_canFrom g_turn g_order g_back g_breath g_leapt l_told l_spring l_many l_back l_leap l_breath Q) (47, [none, none, none, none], [.int s0], (w_gl g_turn g_order g_back g_breath g_leapt l_told l_spring l_many l_back l_leap l_breath), [], 0) := by
  intro s0 h
  unfold wp_X0_canFrom_47 at h
  exact EV.ret rfl h.1 ⟨_, rfl, h.2⟩
theorem ok_X0_canFrom_46 {X : Nat × (Nat → Int32)} {N : Nat} {g_turn : Int32} {g_order : Nat → Int32} {g_back : Nat → Int32} {g_breath : Nat → Int32} {g_leapt : Nat → Int32} {l_told : Int32} {l_spring : Int32} {l_many : Int32} {l_back : Nat → Int32} {l_leap : Nat → Int32} {l_breath : Nat → Int32} {K47 : (Int32) → Prop} {Q : Int32 → Prop} (hK47 : ∀ (s0 : Int32), K47 s0 → EV (ax_GG X) m_X0_canFrom (po_X0_canFrom g_turn g_order g_back g_breath g_leapt l_told l_spring l_many l_back l_leap l_breath Q) (47, [none, none, none, none], [.int s0], (w_gl g_turn g_order g_back g_breath g_leapt l_told l_spring l_many l_back l_leap l_breath), [], 0)) : wp_X0_canFrom_46 N g_order g_back g_breath l_leap K47 Q   → EV (ax_GG X) m_X0_canFrom (po_X0_canFrom g_turn g_order g_back g_breath g_leapt l_told l_spring l_many l_back l_leap l_breath Q) (46, [none, none, none, none], [], (w_gl g_turn g_order g_back g_breath g_leapt l_told l_spring l_many l_back l_leap l_breath), [], 0) := by
  intro  h
  unfold wp_X0_canFrom_46 at h
  refine EV.seg (c' := (47, [none, none, none, none], [.int (0 : Int32)], (w_gl g_turn g_order g_back g_breath g_leapt l_told l_spring l_many l_back l_leap l_breath), [], 0)) 1 rfl trivial ?_
  exact hK47 _ h
theorem em_X0_canFrom {X : Nat × (Nat → Int32)} {N : Nat} {g_turn : Int32} {g_order : Nat → Int32} {g_back : Nat → Int32} {g_breath : Nat → Int32} {g_leapt : Nat → Int32} {l_told : Int32} {l_spring : Int32} {l_many : Int32} {l_back : Nat → Int32} {l_leap : Nat → Int32} {l_breath : Nat → Int32} {p0 : Int32} {Q : Int32 → Prop} (h : wp_X0_canFrom N g_order g_back g_breath l_leap Q p0) : EM (ax_GG X) m_X0_canFrom [.ref 0, .ref 5, .int p0] (w_gl g_turn g_order g_back g_breath g_leapt l_told l_spring l_many l_back l_leap l_breath) (po_X0_canFrom g_turn g_order g_back g_breath g_leapt l_told l_spring l_many l_back l_leap l_breath Q) := by
  unfold wp_X0_canFrom at h
  show EV _ _ _ (0, [some (.ref 0), some (.ref 5), some (.int p0), none], [], (w_gl g_turn g_order g_back g_breath g_leapt l_told l_spring l_many l_back l_leap l_breath), [], 0)
  obtain ⟨g1, h⟩ := h
  refine EV.seg (c' := (7, [some (.ref 0), some (.ref 5), some (.int p0), some (.int (g_order p0.toNatClampNeg))], [], (w_gl g_turn g_order g_back g_breath g_leapt l_told l_spring l_many l_back l_leap l_breath), [], 0)) 5 rfl (And.intro g1 trivial) ?_
  obtain ⟨x1, e_x1⟩ : ∃ z : Int32, z = g_order p0.toNatClampNeg := ⟨_, rfl⟩
  have h := h x1 e_x1
  rw [← e_x1]
  refine EV.seg (c' := (8, [some (.ref 0), some (.ref 5), some (.int p0), some (.int x1)], [.int p0], (w_gl g_turn g_order g_back g_breath g_leapt l_told l_spring l_many l_back l_leap l_breath), [], 0)) 1 rfl trivial ?_
  refine EV.br (c1 := (46, [some (.ref 0), some (.ref 5), some (.int p0), some (.int x1)], [], (w_gl g_turn g_order g_back g_breath g_leapt l_told l_spring l_many l_back l_leap l_breath), [], 0)) (c2 := (11, [some (.ref 0), some (.ref 5), some (.int p0), some (.int x1)], [], (w_gl g_turn g_order g_back g_breath g_leapt l_told l_spring l_many l_back l_leap l_breath), [], 0)) rfl (fun hc => ?_) (fun hc => ?_)
  · have h := h.1 hc
    refine EV.mask (ls' := [none, none, none, none]) rfl rfl ?_
    exact (ok_X0_canFrom_46 (ok_X0_canFrom_47 ))  h
  · have h := h.2 hc
    obtain ⟨g1, h⟩ := h
    refine EV.seg (c' := (17, [some (.ref 0), some (.ref 5), some (.int p0), some (.int x1)], [.int (g_breath x1.toNatClampNeg)], (w_gl g_turn g_order g_back g_breath g_leapt l_told l_spring l_many l_back l_leap l_breath), [], 0)) 4 rfl (And.intro g1 trivial) ?_
    refine EV.br (c1 := (46, [some (.ref 0), some (.ref 5), some (.int p0), some (.int x1)], [], (w_gl g_turn g_order g_back g_breath g_leapt l_told l_spring l_many l_back l_leap l_breath), [], 0)) (c2 := (20, [some (.ref 0), some (.ref 5), some (.int p0), some (.int x1)], [], (w_gl g_turn g_order g_back g_breath g_leapt l_told l_spring l_many l_back l_leap l_breath), [], 0)) rfl (fun hc => ?_) (fun hc => ?_)
    · have h := h.1 hc
      refine EV.mask (ls' := [none, none, none, none]) rfl rfl ?_
      exact (ok_X0_canFrom_46 (ok_X0_canFrom_47 ))  h
    · have h := h.2 hc
      obtain ⟨g1, g2, g3, h⟩ := h
      refine EV.seg (c' := (39, [some (.ref 0), some (.ref 5), some (.int p0), some (.int x1)], [.int (l_leap x1.toNatClampNeg), .int (g_back (g_order (p0 - (1 : Int32)).toNatClampNeg).toNatClampNeg)], (w_gl g_turn g_order g_back g_breath g_leapt l_told l_spring l_many l_back l_leap l_breath), [], 0)) 13 rfl (And.intro g1 (And.intro g2 (And.intro g3 trivial))) ?_
      refine EV.br (c1 := (46, [some (.ref 0), some (.ref 5), some (.int p0), some (.int x1)], [], (w_gl g_turn g_order g_back g_breath g_leapt l_told l_spring l_many l_back l_leap l_breath), [], 0)) (c2 := (42, [some (.ref 0), some (.ref 5), some (.int p0), some (.int x1)], [], (w_gl g_turn g_order g_back g_breath g_leapt l_told l_spring l_many l_back l_leap l_breath), [], 0)) rfl (fun hc => ?_) (fun hc => ?_)
      · have h := h.1 hc
        refine EV.mask (ls' := [none, none, none, none]) rfl rfl ?_
        exact (ok_X0_canFrom_46 (ok_X0_canFrom_47 ))  h
      · have h := h.2 hc
        refine EV.seg (c' := (47, [some (.ref 0), some (.ref 5), some (.int p0), some (.int x1)], [.int (1 : Int32)], (w_gl g_turn g_order g_back g_breath g_leapt l_told l_spring l_many l_back l_leap l_breath), [], 0)) 2 rfl trivial ?_
        refine EV.mask (ls' := [none, none, none, none]) rfl rfl ?_
        exact (ok_X0_canFrom_47 ) _ h
abbrev po_X0_whoCan (g_turn : Int32) (g_order : Nat → Int32) (g_back : Nat → Int32) (g_breath : Nat → Int32) (g_leapt : Nat → Int32) (l_told : Int32) (l_spring : Int32) (l_many : Int32) (l_back : Nat → Int32) (l_leap : Nat → Int32) (l_breath : Nat → Int32) (Q : Int32 → Prop) : ax_E → Prop := fun out => ∃ (r : Int32), out = (some (.int r), (w_gl g_turn g_order g_back g_breath g_leapt l_told l_spring l_many l_back l_leap l_breath), [], 0) ∧ Q r
theorem ok_X0_whoCan_34 {X : Nat × (Nat → Int32)} {N : Nat} {g_turn : Int32} {g_order : Nat → Int32} {g_back : Nat → Int32} {g_breath : Nat → Int32} {g_leapt : Nat → Int32} {l_told : Int32} {l_spring : Int32} {l_many : Int32} {l_back : Nat → Int32} {l_leap : Nat → Int32} {l_breath : Nat → Int32} {K4 : (Int32) → (Int32) → Prop} {Q : Int32 → Prop} (hK4 : ∀ (v2 : Int32) (v3 : Int32), K4 v2 v3 → EV (ax_GG X) m_X0_whoCan (po_X0_whoCan g_turn g_order g_back g_breath g_leapt l_told l_spring l_many l_back l_leap l_breath Q) (4, [some (.ref 0), some (.ref 5), some (.int v2), some (.int v3)], [], (w_gl g_turn g_order g_back g_breath g_leapt l_told l_spring l_many l_back l_leap l_breath), [], 0)) : ∀ (v3 : Int32) (s0 : Int32) (s1 : Int32), wp_X0_whoCan_34 N g_order g_back g_breath l_many l_leap K4 Q  v3 s0 s1 → EV (ax_GG X) m_X0_whoCan (po_X0_whoCan g_turn g_order g_back g_breath g_leapt l_told l_spring l_many l_back l_leap l_breath Q) (34, [some (.ref 0), some (.ref 5), none, some (.int v3)], [.int s0, .int s1], (w_gl g_turn g_order g_back g_breath g_leapt l_told l_spring l_many l_back l_leap l_breath), [], 0) := by
  intro v3 s0 s1 h
  unfold wp_X0_whoCan_34 at h
  refine EV.seg (c' := (36, [some (.ref 0), some (.ref 5), some (.int (s1 ||| s0)), some (.int v3)], [], (w_gl g_turn g_order g_back g_breath g_leapt l_told l_spring l_many l_back l_leap l_breath), [], 0)) 2 rfl trivial ?_
  obtain ⟨x2, e_x2⟩ : ∃ z : Int32, z = s1 ||| s0 := ⟨_, rfl⟩
  have h := h x2 e_x2
  rw [← e_x2]
  refine EV.seg (c' := (4, [some (.ref 0), some (.ref 5), some (.int x2), some (.int (v3 + 1))], [], (w_gl g_turn g_order g_back g_breath g_leapt l_told l_spring l_many l_back l_leap l_breath), [], 0)) 2 rfl trivial ?_
  exact hK4 _ _ h
theorem ok_X0_whoCan_4 {X : Nat × (Nat → Int32)} {N : Nat} {g_turn : Int32} {g_order : Nat → Int32} {g_back : Nat → Int32} {g_breath : Nat → Int32} {g_leapt : Nat → Int32} {l_told : Int32} {l_spring : Int32} {l_many : Int32} {l_back : Nat → Int32} {l_leap : Nat → Int32} {l_breath : Nat → Int32}  {Q : Int32 → Prop}  : ∀ (n : Nat) (v2 : Int32) (v3 : Int32), wp_X0_whoCan_4 N g_order g_back g_breath l_many l_leap  Q n v2 v3 → EV (ax_GG X) m_X0_whoCan (po_X0_whoCan g_turn g_order g_back g_breath g_leapt l_told l_spring l_many l_back l_leap l_breath Q) (4, [some (.ref 0), some (.ref 5), some (.int v2), some (.int v3)], [], (w_gl g_turn g_order g_back g_breath g_leapt l_told l_spring l_many l_back l_leap l_breath), [], 0) := by
  intro n
  induction n with
  | zero => intro _ _ h; exact h.elim
  | succ n ih =>
    intro v2 v3 h
    unfold wp_X0_whoCan_4 at h
    refine EV.seg (c' := (9, [some (.ref 0), some (.ref 5), some (.int v2), some (.int v3)], [.int l_many, .int v3], (w_gl g_turn g_order g_back g_breath g_leapt l_told l_spring l_many l_back l_leap l_breath), [], 0)) 3 rfl trivial ?_
    refine EV.br (c1 := (42, [some (.ref 0), some (.ref 5), some (.int v2), some (.int v3)], [], (w_gl g_turn g_order g_back g_breath g_leapt l_told l_spring l_many l_back l_leap l_breath), [], 0)) (c2 := (12, [some (.ref 0), some (.ref 5), some (.int v2), some (.int v3)], [], (w_gl g_turn g_order g_back g_breath g_leapt l_told l_spring l_many l_back l_leap l_breath), [], 0)) rfl (fun hc => ?_) (fun hc => ?_)
    · have h := h.1 hc
      refine EV.seg (c' := (43, [some (.ref 0), some (.ref 5), some (.int v2), some (.int v3)], [.int v2], (w_gl g_turn g_order g_back g_breath g_leapt l_told l_spring l_many l_back l_leap l_breath), [], 0)) 1 rfl trivial ?_
      exact EV.ret rfl trivial ⟨_, rfl, h⟩
    · have h := h.2 hc
      refine EV.seg (c' := (16, [some (.ref 0), some (.ref 5), some (.int v2), some (.int v3)], [.int v3, .ref 5, .ref 0, .int v2], (w_gl g_turn g_order g_back g_breath g_leapt l_told l_spring l_many l_back l_leap l_breath), [], 0)) 4 rfl trivial ?_
      refine EV.call (M' := m_X0_canFrom) rfl rfl (Nat.le_of_ble_eq_true rfl) (em_X0_canFrom (g_turn := g_turn) (g_order := g_order) (g_back := g_back) (g_breath := g_breath) (g_leapt := g_leapt) (l_told := l_told) (l_spring := l_spring) (l_many := l_many) (l_back := l_back) (l_leap := l_leap) (l_breath := l_breath)  h) (fun out ho => ?_)
      obtain ⟨r1, rfl, h⟩ := ho
      show EV _ _ _ (19, [some (.ref 0), some (.ref 5), some (.int v2), some (.int v3)], [.int r1, .int v2], (w_gl g_turn g_order g_back g_breath g_leapt l_told l_spring l_many l_back l_leap l_breath), [], 0)
      refine EV.br (c1 := (33, [some (.ref 0), some (.ref 5), some (.int v2), some (.int v3)], [.int v2], (w_gl g_turn g_order g_back g_breath g_leapt l_told l_spring l_many l_back l_leap l_breath), [], 0)) (c2 := (22, [some (.ref 0), some (.ref 5), some (.int v2), some (.int v3)], [.int v2], (w_gl g_turn g_order g_back g_breath g_leapt l_told l_spring l_many l_back l_leap l_breath), [], 0)) rfl (fun hc => ?_) (fun hc => ?_)
      · have h := h.1 hc
        refine EV.seg (c' := (34, [some (.ref 0), some (.ref 5), some (.int v2), some (.int v3)], [.int (0 : Int32), .int v2], (w_gl g_turn g_order g_back g_breath g_leapt l_told l_spring l_many l_back l_leap l_breath), [], 0)) 1 rfl trivial ?_
        refine EV.mask (ls' := [some (.ref 0), some (.ref 5), none, some (.int v3)]) rfl rfl ?_
        exact (ok_X0_whoCan_34 ih) _ _ _ h
      · have h := h.2 hc
        obtain ⟨g1, h⟩ := h
        refine EV.seg (c' := (34, [some (.ref 0), some (.ref 5), some (.int v2), some (.int v3)], [.int ((1 : Int32) <<< ((g_order v3.toNatClampNeg) &&& 31)), .int v2], (w_gl g_turn g_order g_back g_breath g_leapt l_told l_spring l_many l_back l_leap l_breath), [], 0)) 7 rfl (And.intro g1 trivial) ?_
        refine EV.mask (ls' := [some (.ref 0), some (.ref 5), none, some (.int v3)]) rfl rfl ?_
        exact (ok_X0_whoCan_34 ih) _ _ _ h
theorem em_X0_whoCan {X : Nat × (Nat → Int32)} {N : Nat} {g_turn : Int32} {g_order : Nat → Int32} {g_back : Nat → Int32} {g_breath : Nat → Int32} {g_leapt : Nat → Int32} {l_told : Int32} {l_spring : Int32} {l_many : Int32} {l_back : Nat → Int32} {l_leap : Nat → Int32} {l_breath : Nat → Int32}  {Q : Int32 → Prop} (h : wp_X0_whoCan N g_order g_back g_breath l_many l_leap Q ) : EM (ax_GG X) m_X0_whoCan [.ref 0, .ref 5] (w_gl g_turn g_order g_back g_breath g_leapt l_told l_spring l_many l_back l_leap l_breath) (po_X0_whoCan g_turn g_order g_back g_breath g_leapt l_told l_spring l_many l_back l_leap l_breath Q) := by
  unfold wp_X0_whoCan at h
  show EV _ _ _ (0, [some (.ref 0), some (.ref 5), none, none], [], (w_gl g_turn g_order g_back g_breath g_leapt l_told l_spring l_many l_back l_leap l_breath), [], 0)
  refine EV.seg (c' := (4, [some (.ref 0), some (.ref 5), some (.int (0 : Int32)), some (.int (0 : Int32))], [], (w_gl g_turn g_order g_back g_breath g_leapt l_told l_spring l_many l_back l_leap l_breath), [], 0)) 4 rfl trivial ?_
  exact (ok_X0_whoCan_4  N) _ _ h
abbrev po_X0_whoIsFirst (g_turn : Int32) (g_order : Nat → Int32) (g_back : Nat → Int32) (g_breath : Nat → Int32) (g_leapt : Nat → Int32) (l_told : Int32) (l_spring : Int32) (l_many : Int32) (l_back : Nat → Int32) (l_leap : Nat → Int32) (l_breath : Nat → Int32) (Q : Int32 → Prop) : ax_E → Prop := fun out => ∃ (r : Int32), out = (some (.int r), (w_gl g_turn g_order g_back g_breath g_leapt l_told l_spring l_many l_back l_leap l_breath), [], 0) ∧ Q r
theorem ok_X0_whoIsFirst_17 {X : Nat × (Nat → Int32)} {N : Nat} {g_turn : Int32} {g_order : Nat → Int32} {g_back : Nat → Int32} {g_breath : Nat → Int32} {g_leapt : Nat → Int32} {l_told : Int32} {l_spring : Int32} {l_many : Int32} {l_back : Nat → Int32} {l_leap : Nat → Int32} {l_breath : Nat → Int32}  {Q : Int32 → Prop}  : ∀ (s0 : Int32), wp_X0_whoIsFirst_17 N g_order l_many  Q  s0 → EV (ax_GG X) m_X0_whoIsFirst (po_X0_whoIsFirst g_turn g_order g_back g_breath g_leapt l_told l_spring l_many l_back l_leap l_breath Q) (17, [none, none], [.int s0], (w_gl g_turn g_order g_back g_breath g_leapt l_told l_spring l_many l_back l_leap l_breath), [], 0) := by
  intro s0 h
  unfold wp_X0_whoIsFirst_17 at h
  exact EV.ret rfl trivial ⟨_, rfl, h⟩
theorem em_X0_whoIsFirst {X : Nat × (Nat → Int32)} {N : Nat} {g_turn : Int32} {g_order : Nat → Int32} {g_back : Nat → Int32} {g_breath : Nat → Int32} {g_leapt : Nat → Int32} {l_told : Int32} {l_spring : Int32} {l_many : Int32} {l_back : Nat → Int32} {l_leap : Nat → Int32} {l_breath : Nat → Int32}  {Q : Int32 → Prop} (h : wp_X0_whoIsFirst N g_order l_many Q ) : EM (ax_GG X) m_X0_whoIsFirst [.ref 0, .ref 5] (w_gl g_turn g_order g_back g_breath g_leapt l_told l_spring l_many l_back l_leap l_breath) (po_X0_whoIsFirst g_turn g_order g_back g_breath g_leapt l_told l_spring l_many l_back l_leap l_breath Q) := by
  unfold wp_X0_whoIsFirst at h
  show EV _ _ _ (0, [some (.ref 0), some (.ref 5)], [], (w_gl g_turn g_order g_back g_breath g_leapt l_told l_spring l_many l_back l_leap l_breath), [], 0)
  refine EV.seg (c' := (4, [some (.ref 0), some (.ref 5)], [.int l_many], (w_gl g_turn g_order g_back g_breath g_leapt l_told l_spring l_many l_back l_leap l_breath), [], 0)) 2 rfl trivial ?_
  refine EV.br (c1 := (16, [some (.ref 0), some (.ref 5)], [], (w_gl g_turn g_order g_back g_breath g_leapt l_told l_spring l_many l_back l_leap l_breath), [], 0)) (c2 := (7, [some (.ref 0), some (.ref 5)], [], (w_gl g_turn g_order g_back g_breath g_leapt l_told l_spring l_many l_back l_leap l_breath), [], 0)) rfl (fun hc => ?_) (fun hc => ?_)
  · have h := h.1 hc
    refine EV.seg (c' := (17, [some (.ref 0), some (.ref 5)], [.int (-1 : Int32)], (w_gl g_turn g_order g_back g_breath g_leapt l_told l_spring l_many l_back l_leap l_breath), [], 0)) 1 rfl trivial ?_
    refine EV.mask (ls' := [none, none]) rfl rfl ?_
    exact (ok_X0_whoIsFirst_17 ) _ h
  · have h := h.2 hc
    obtain ⟨g1, h⟩ := h
    refine EV.seg (c' := (17, [some (.ref 0), some (.ref 5)], [.int (g_order (0 : Int32).toNatClampNeg)], (w_gl g_turn g_order g_back g_breath g_leapt l_told l_spring l_many l_back l_leap l_breath), [], 0)) 5 rfl (And.intro g1 trivial) ?_
    refine EV.mask (ls' := [none, none]) rfl rfl ?_
    exact (ok_X0_whoIsFirst_17 ) _ h
abbrev po_X0_allLeapt (g_turn : Int32) (g_order : Nat → Int32) (g_back : Nat → Int32) (g_breath : Nat → Int32) (g_leapt : Nat → Int32) (l_told : Int32) (l_spring : Int32) (l_many : Int32) (l_back : Nat → Int32) (l_leap : Nat → Int32) (l_breath : Nat → Int32) (Q : Int32 → Prop) : ax_E → Prop := fun out => ∃ (r : Int32), out = (some (.int r), (w_gl g_turn g_order g_back g_breath g_leapt l_told l_spring l_many l_back l_leap l_breath), [], 0) ∧ Q r
theorem ok_X0_allLeapt_4 {X : Nat × (Nat → Int32)} {N : Nat} {g_turn : Int32} {g_order : Nat → Int32} {g_back : Nat → Int32} {g_breath : Nat → Int32} {g_leapt : Nat → Int32} {l_told : Int32} {l_spring : Int32} {l_many : Int32} {l_back : Nat → Int32} {l_leap : Nat → Int32} {l_breath : Nat → Int32}  {Q : Int32 → Prop}  : ∀ (n : Nat) (v2 : Int32) (v3 : Int32), wp_X0_allLeapt_4 N g_leapt l_many  Q n v2 v3 → EV (ax_GG X) m_X0_allLeapt (po_X0_allLeapt g_turn g_order g_back g_breath g_leapt l_told l_spring l_many l_back l_leap l_breath Q) (4, [some (.ref 0), some (.ref 5), some (.int v2), some (.int v3)], [], (w_gl g_turn g_order g_back g_breath g_leapt l_told l_spring l_many l_back l_leap l_breath), [], 0) := by
  intro n
  induction n with
  | zero => intro _ _ h; exact h.elim
  | succ n ih =>
    intro v2 v3 h
    unfold wp_X0_allLeapt_4 at h
    refine EV.seg (c' := (9, [some (.ref 0), some (.ref 5), some (.int v2), some (.int v3)], [.int l_many, .int v3], (w_gl g_turn g_order g_back g_breath g_leapt l_told l_spring l_many l_back l_leap l_breath), [], 0)) 3 rfl trivial ?_
    refine EV.br (c1 := (27, [some (.ref 0), some (.ref 5), some (.int v2), some (.int v3)], [], (w_gl g_turn g_order g_back g_breath g_leapt l_told l_spring l_many l_back l_leap l_breath), [], 0)) (c2 := (12, [some (.ref 0), some (.ref 5), some (.int v2), some (.int v3)], [], (w_gl g_turn g_order g_back g_breath g_leapt l_told l_spring l_many l_back l_leap l_breath), [], 0)) rfl (fun hc => ?_) (fun hc => ?_)
    · have h := h.1 hc
      refine EV.seg (c' := (28, [some (.ref 0), some (.ref 5), some (.int v2), some (.int v3)], [.int v2], (w_gl g_turn g_order g_back g_breath g_leapt l_told l_spring l_many l_back l_leap l_breath), [], 0)) 1 rfl trivial ?_
      exact EV.ret rfl trivial ⟨_, rfl, h⟩
    · have h := h.2 hc
      obtain ⟨g1, h⟩ := h
      refine EV.seg (c' := (21, [some (.ref 0), some (.ref 5), some (.int (v2 + (g_leapt v3.toNatClampNeg))), some (.int v3)], [], (w_gl g_turn g_order g_back g_breath g_leapt l_told l_spring l_many l_back l_leap l_breath), [], 0)) 7 rfl (And.intro g1 trivial) ?_
      obtain ⟨x1, e_x1⟩ : ∃ z : Int32, z = v2 + (g_leapt v3.toNatClampNeg) := ⟨_, rfl⟩
      have h := h x1 e_x1
      rw [← e_x1]
      refine EV.seg (c' := (4, [some (.ref 0), some (.ref 5), some (.int x1), some (.int (v3 + 1))], [], (w_gl g_turn g_order g_back g_breath g_leapt l_told l_spring l_many l_back l_leap l_breath), [], 0)) 2 rfl trivial ?_
      exact ih _ _ h
theorem em_X0_allLeapt {X : Nat × (Nat → Int32)} {N : Nat} {g_turn : Int32} {g_order : Nat → Int32} {g_back : Nat → Int32} {g_breath : Nat → Int32} {g_leapt : Nat → Int32} {l_told : Int32} {l_spring : Int32} {l_many : Int32} {l_back : Nat → Int32} {l_leap : Nat → Int32} {l_breath : Nat → Int32}  {Q : Int32 → Prop} (h : wp_X0_allLeapt N g_leapt l_many Q ) : EM (ax_GG X) m_X0_allLeapt [.ref 0, .ref 5] (w_gl g_turn g_order g_back g_breath g_leapt l_told l_spring l_many l_back l_leap l_breath) (po_X0_allLeapt g_turn g_order g_back g_breath g_leapt l_told l_spring l_many l_back l_leap l_breath Q) := by
  unfold wp_X0_allLeapt at h
  show EV _ _ _ (0, [some (.ref 0), some (.ref 5), none, none], [], (w_gl g_turn g_order g_back g_breath g_leapt l_told l_spring l_many l_back l_leap l_breath), [], 0)
  refine EV.seg (c' := (4, [some (.ref 0), some (.ref 5), some (.int (0 : Int32)), some (.int (0 : Int32))], [], (w_gl g_turn g_order g_back g_breath g_leapt l_told l_spring l_many l_back l_leap l_breath), [], 0)) 4 rfl trivial ?_
  exact (ok_X0_allLeapt_4  N) _ _ h
abbrev po_X0_orderNumber (g_turn : Int32) (g_order : Nat → Int32) (g_back : Nat → Int32) (g_breath : Nat → Int32) (g_leapt : Nat → Int32) (l_told : Int32) (l_spring : Int32) (l_many : Int32) (l_back : Nat → Int32) (l_leap : Nat → Int32) (l_breath : Nat → Int32) (Q : Int32 → Prop) : ax_E → Prop := fun out => ∃ (r : Int32), out = (some (.int r), (w_gl g_turn g_order g_back g_breath g_leapt l_told l_spring l_many l_back l_leap l_breath), [], 0) ∧ Q r
theorem ok_X0_orderNumber_4 {X : Nat × (Nat → Int32)} {N : Nat} {g_turn : Int32} {g_order : Nat → Int32} {g_back : Nat → Int32} {g_breath : Nat → Int32} {g_leapt : Nat → Int32} {l_told : Int32} {l_spring : Int32} {l_many : Int32} {l_back : Nat → Int32} {l_leap : Nat → Int32} {l_breath : Nat → Int32}  {Q : Int32 → Prop}  : ∀ (n : Nat) (v2 : Int32) (v3 : Int32), wp_X0_orderNumber_4 N g_order l_many  Q n v2 v3 → EV (ax_GG X) m_X0_orderNumber (po_X0_orderNumber g_turn g_order g_back g_breath g_leapt l_told l_spring l_many l_back l_leap l_breath Q) (4, [some (.ref 0), some (.ref 5), some (.int v2), some (.int v3)], [], (w_gl g_turn g_order g_back g_breath g_leapt l_told l_spring l_many l_back l_leap l_breath), [], 0) := by
  intro n
  induction n with
  | zero => intro _ _ h; exact h.elim
  | succ n ih =>
    intro v2 v3 h
    unfold wp_X0_orderNumber_4 at h
    refine EV.seg (c' := (9, [some (.ref 0), some (.ref 5), some (.int v2), some (.int v3)], [.int l_many, .int v3], (w_gl g_turn g_order g_back g_breath g_leapt l_told l_spring l_many l_back l_leap l_breath), [], 0)) 3 rfl trivial ?_
    refine EV.br (c1 := (32, [some (.ref 0), some (.ref 5), some (.int v2), some (.int v3)], [], (w_gl g_turn g_order g_back g_breath g_leapt l_told l_spring l_many l_back l_leap l_breath), [], 0)) (c2 := (12, [some (.ref 0), some (.ref 5), some (.int v2), some (.int v3)], [], (w_gl g_turn g_order g_back g_breath g_leapt l_told l_spring l_many l_back l_leap l_breath), [], 0)) rfl (fun hc => ?_) (fun hc => ?_)
    · have h := h.1 hc
      refine EV.seg (c' := (33, [some (.ref 0), some (.ref 5), some (.int v2), some (.int v3)], [.int v2], (w_gl g_turn g_order g_back g_breath g_leapt l_told l_spring l_many l_back l_leap l_breath), [], 0)) 1 rfl trivial ?_
      exact EV.ret rfl trivial ⟨_, rfl, h⟩
    · have h := h.2 hc
      obtain ⟨g1, h⟩ := h
      refine EV.seg (c' := (26, [some (.ref 0), some (.ref 5), some (.int ((((10 : Int32) * v2) + (g_order v3.toNatClampNeg)) + (1 : Int32))), some (.int v3)], [], (w_gl g_turn g_order g_back g_breath g_leapt l_told l_spring l_many l_back l_leap l_breath), [], 0)) 11 rfl (And.intro g1 trivial) ?_
      obtain ⟨x1, e_x1⟩ : ∃ z : Int32, z = (((10 : Int32) * v2) + (g_order v3.toNatClampNeg)) + (1 : Int32) := ⟨_, rfl⟩
      have h := h x1 e_x1
      rw [← e_x1]
      refine EV.seg (c' := (4, [some (.ref 0), some (.ref 5), some (.int x1), some (.int (v3 + 1))], [], (w_gl g_turn g_order g_back g_breath g_leapt l_told l_spring l_many l_back l_leap l_breath), [], 0)) 2 rfl trivial ?_
      exact ih _ _ h
theorem em_X0_orderNumber {X : Nat × (Nat → Int32)} {N : Nat} {g_turn : Int32} {g_order : Nat → Int32} {g_back : Nat → Int32} {g_breath : Nat → Int32} {g_leapt : Nat → Int32} {l_told : Int32} {l_spring : Int32} {l_many : Int32} {l_back : Nat → Int32} {l_leap : Nat → Int32} {l_breath : Nat → Int32}  {Q : Int32 → Prop} (h : wp_X0_orderNumber N g_order l_many Q ) : EM (ax_GG X) m_X0_orderNumber [.ref 0, .ref 5] (w_gl g_turn g_order g_back g_breath g_leapt l_told l_spring l_many l_back l_leap l_breath) (po_X0_orderNumber g_turn g_order g_back g_breath g_leapt l_told l_spring l_many l_back l_leap l_breath Q) := by
  unfold wp_X0_orderNumber at h
  show EV _ _ _ (0, [some (.ref 0), some (.ref 5), none, none], [], (w_gl g_turn g_order g_back g_breath g_leapt l_told l_spring l_many l_back l_leap l_breath), [], 0)
  refine EV.seg (c' := (4, [some (.ref 0), some (.ref 5), some (.int (0 : Int32)), some (.int (0 : Int32))], [], (w_gl g_turn g_order g_back g_breath g_leapt l_told l_spring l_many l_back l_leap l_breath), [], 0)) 4 rfl trivial ?_
  exact (ok_X0_orderNumber_4  N) _ _ h
abbrev po_X0_mark (g_turn : Int32) (g_order : Nat → Int32) (g_back : Nat → Int32) (g_breath : Nat → Int32) (g_leapt : Nat → Int32) (l_told : Int32) (l_spring : Int32) (l_many : Int32) (l_back : Nat → Int32) (l_leap : Nat → Int32) (l_breath : Nat → Int32) (Q : Int64 → Prop) : ax_E → Prop := fun out => ∃ (r : Int64), out = (some (.long r), (w_gl g_turn g_order g_back g_breath g_leapt l_told l_spring l_many l_back l_leap l_breath), [], 0) ∧ Q r
theorem ok_X0_mark_5 {X : Nat × (Nat → Int32)} {N : Nat} {g_turn : Int32} {g_order : Nat → Int32} {g_back : Nat → Int32} {g_breath : Nat → Int32} {g_leapt : Nat → Int32} {l_told : Int32} {l_spring : Int32} {l_many : Int32} {l_back : Nat → Int32} {l_leap : Nat → Int32} {l_breath : Nat → Int32}  {Q : Int64 → Prop}  : ∀ (n : Nat) (v2 : Int64) (v4 : Int32), wp_X0_mark_5 N g_order g_breath l_many  Q n v2 v4 → EV (ax_GG X) m_X0_mark (po_X0_mark g_turn g_order g_back g_breath g_leapt l_told l_spring l_many l_back l_leap l_breath Q) (5, [some (.ref 0), some (.ref 5), some (.long v2), none, some (.int v4)], [], (w_gl g_turn g_order g_back g_breath g_leapt l_told l_spring l_many l_back l_leap l_breath), [], 0) := by
  intro n
  induction n with
  | zero => intro _ _ h; exact h.elim
  | succ n ih =>
    intro v2 v4 h
    unfold wp_X0_mark_5 at h
    refine EV.seg (c' := (11, [some (.ref 0), some (.ref 5), some (.long v2), none, some (.int v4)], [.int l_many, .int v4], (w_gl g_turn g_order g_back g_breath g_leapt l_told l_spring l_many l_back l_leap l_breath), [], 0)) 3 rfl trivial ?_
    refine EV.br (c1 := (46, [some (.ref 0), some (.ref 5), some (.long v2), none, some (.int v4)], [], (w_gl g_turn g_order g_back g_breath g_leapt l_told l_spring l_many l_back l_leap l_breath), [], 0)) (c2 := (14, [some (.ref 0), some (.ref 5), some (.long v2), none, some (.int v4)], [], (w_gl g_turn g_order g_back g_breath g_leapt l_told l_spring l_many l_back l_leap l_breath), [], 0)) rfl (fun hc => ?_) (fun hc => ?_)
    · have h := h.1 hc
      refine EV.seg (c' := (47, [some (.ref 0), some (.ref 5), some (.long v2), none, some (.int v4)], [.long v2], (w_gl g_turn g_order g_back g_breath g_leapt l_told l_spring l_many l_back l_leap l_breath), [], 0)) 1 rfl trivial ?_
      exact EV.ret rfl trivial ⟨_, rfl, h⟩
    · have h := h.2 hc
      obtain ⟨g1, g2, h⟩ := h
      refine EV.seg (c' := (40, [some (.ref 0), some (.ref 5), some (.long (((v2 <<< ((9 : Int32).toInt64 &&& 63)) ||| (((g_order v4.toNatClampNeg).toInt64) <<< ((6 : Int32).toInt64 &&& 63))) ||| ((g_breath v4.toNatClampNeg).toInt64))), none, some (.int v4)], [], (w_gl g_turn g_order g_back g_breath g_leapt l_told l_spring l_many l_back l_leap l_breath), [], 0)) 18 rfl (And.intro g1 (And.intro g2 trivial)) ?_
      obtain ⟨x1, e_x1⟩ : ∃ z : Int64, z = ((v2 <<< ((9 : Int32).toInt64 &&& 63)) ||| (((g_order v4.toNatClampNeg).toInt64) <<< ((6 : Int32).toInt64 &&& 63))) ||| ((g_breath v4.toNatClampNeg).toInt64) := ⟨_, rfl⟩
      have h := h x1 e_x1
      rw [← e_x1]
      refine EV.seg (c' := (5, [some (.ref 0), some (.ref 5), some (.long x1), none, some (.int (v4 + 1))], [], (w_gl g_turn g_order g_back g_breath g_leapt l_told l_spring l_many l_back l_leap l_breath), [], 0)) 2 rfl trivial ?_
      exact ih _ _ h
theorem em_X0_mark {X : Nat × (Nat → Int32)} {N : Nat} {g_turn : Int32} {g_order : Nat → Int32} {g_back : Nat → Int32} {g_breath : Nat → Int32} {g_leapt : Nat → Int32} {l_told : Int32} {l_spring : Int32} {l_many : Int32} {l_back : Nat → Int32} {l_leap : Nat → Int32} {l_breath : Nat → Int32}  {Q : Int64 → Prop} (h : wp_X0_mark N g_order g_breath l_many Q ) : EM (ax_GG X) m_X0_mark [.ref 0, .ref 5] (w_gl g_turn g_order g_back g_breath g_leapt l_told l_spring l_many l_back l_leap l_breath) (po_X0_mark g_turn g_order g_back g_breath g_leapt l_told l_spring l_many l_back l_leap l_breath Q) := by
  unfold wp_X0_mark at h
  show EV _ _ _ (0, [some (.ref 0), some (.ref 5), none, none, none], [], (w_gl g_turn g_order g_back g_breath g_leapt l_told l_spring l_many l_back l_leap l_breath), [], 0)
  refine EV.seg (c' := (5, [some (.ref 0), some (.ref 5), some (.long (0 : Int64)), none, some (.int (0 : Int32))], [], (w_gl g_turn g_order g_back g_breath g_leapt l_told l_spring l_many l_back l_leap l_breath), [], 0)) 4 rfl trivial ?_
  exact (ok_X0_mark_5  N) _ _ h
abbrev po_X0_moveAhead (g_turn : Int32) (g_back : Nat → Int32) (g_breath : Nat → Int32) (g_leapt : Nat → Int32) (Q : (Nat → Int32) → Prop) : ax_E → Prop := fun out => ∃ (g_order' : Nat → Int32), out = (none, (w_g g_turn g_order' g_back g_breath g_leapt), [], 0) ∧ Q g_order'
theorem ok_X0_moveAhead_10 {X : Nat × (Nat → Int32)} {N : Nat} {g_turn : Int32} {g_back : Nat → Int32} {g_breath : Nat → Int32} {g_leapt : Nat → Int32}  {Q : (Nat → Int32) → Prop}  : ∀ (n : Nat) (v1 : Int32) (v2 : Int32) (v3 : Int32) (v4 : Int32) (g_order : Nat → Int32), wp_X0_moveAhead_10 N   Q n v1 v2 v3 v4 g_order → EV (ax_GG X) m_X0_moveAhead (po_X0_moveAhead g_turn g_back g_breath g_leapt Q) (10, [some (.ref 0), some (.int v1), some (.int v2), some (.int v3), some (.int v4)], [], (w_g g_turn g_order g_back g_breath g_leapt), [], 0) := by
  intro n
  induction n with
  | zero => intro _ _ _ _ _ h; exact h.elim
  | succ n ih =>
    intro v1 v2 v3 v4 g_order h
    unfold wp_X0_moveAhead_10 at h
    refine EV.seg (c' := (13, [some (.ref 0), some (.int v1), some (.int v2), some (.int v3), some (.int v4)], [.int v2, .int v4], (w_g g_turn g_order g_back g_breath g_leapt), [], 0)) 2 rfl trivial ?_
    refine EV.br (c1 := (42, [some (.ref 0), some (.int v1), some (.int v2), some (.int v3), some (.int v4)], [], (w_g g_turn g_order g_back g_breath g_leapt), [], 0)) (c2 := (16, [some (.ref 0), some (.int v1), some (.int v2), some (.int v3), some (.int v4)], [], (w_g g_turn g_order g_back g_breath g_leapt), [], 0)) rfl (fun hc => ?_) (fun hc => ?_)
    · have h := h.1 hc
      obtain ⟨g1, h⟩ := h
      refine EV.seg (c' := (51, [some (.ref 0), some (.int v1), some (.int v2), some (.int v3), some (.int v4)], [], (w_g g_turn (upd g_order (v1 - v2).toNatClampNeg v3) g_back g_breath g_leapt), [], 0)) 7 rfl (And.intro g1 trivial) ?_
      obtain ⟨a2, e_a2⟩ : ∃ z : Nat → Int32, z = upd g_order (v1 - v2).toNatClampNeg v3 := ⟨_, rfl⟩
      have h := h a2 e_a2
      rw [← e_a2]
      exact EV.ret rfl trivial ⟨_, rfl, h⟩
    · have h := h.2 hc
      obtain ⟨g1, g2, h⟩ := h
      refine EV.seg (c' := (36, [some (.ref 0), some (.int v1), some (.int v2), some (.int v3), some (.int v4)], [], (w_g g_turn (upd g_order (v1 - v4).toNatClampNeg (g_order ((v1 - v4) - (1 : Int32)).toNatClampNeg)) g_back g_breath g_leapt), [], 0)) 14 rfl (And.intro g1 (And.intro g2 trivial)) ?_
      obtain ⟨a3, e_a3⟩ : ∃ z : Nat → Int32, z = upd g_order (v1 - v4).toNatClampNeg (g_order ((v1 - v4) - (1 : Int32)).toNatClampNeg) := ⟨_, rfl⟩
      have h := h a3 e_a3
      rw [← e_a3]
      refine EV.seg (c' := (10, [some (.ref 0), some (.int v1), some (.int v2), some (.int v3), some (.int (v4 + 1))], [], (w_g g_turn a3 g_back g_breath g_leapt), [], 0)) 2 rfl trivial ?_
      exact ih _ _ _ _ _ h
theorem em_X0_moveAhead {X : Nat × (Nat → Int32)} {N : Nat} {g_turn : Int32} {g_back : Nat → Int32} {g_breath : Nat → Int32} {g_leapt : Nat → Int32} {p0 : Int32} {p1 : Int32} {g_order : Nat → Int32} {Q : (Nat → Int32) → Prop} (h : wp_X0_moveAhead N  Q p0 p1 g_order) : EM (ax_GG X) m_X0_moveAhead [.ref 0, .int p0, .int p1] (w_g g_turn g_order g_back g_breath g_leapt) (po_X0_moveAhead g_turn g_back g_breath g_leapt Q) := by
  unfold wp_X0_moveAhead at h
  show EV _ _ _ (0, [some (.ref 0), some (.int p0), some (.int p1), none, none], [], (w_g g_turn g_order g_back g_breath g_leapt), [], 0)
  obtain ⟨g1, h⟩ := h
  refine EV.seg (c' := (7, [some (.ref 0), some (.int p0), some (.int p1), some (.int (g_order p0.toNatClampNeg)), none], [], (w_g g_turn g_order g_back g_breath g_leapt), [], 0)) 5 rfl (And.intro g1 trivial) ?_
  obtain ⟨x1, e_x1⟩ : ∃ z : Int32, z = g_order p0.toNatClampNeg := ⟨_, rfl⟩
  have h := h x1 e_x1
  rw [← e_x1]
  refine EV.seg (c' := (10, [some (.ref 0), some (.int p0), some (.int p1), some (.int x1), some (.int (0 : Int32))], [], (w_g g_turn g_order g_back g_breath g_leapt), [], 0)) 2 rfl trivial ?_
  exact (ok_X0_moveAhead_10  N) _ _ _ _ _ h
abbrev po_J9_min_7cf53 (w0 : ax_W) (Q : Int32 → Prop) : ax_E → Prop := fun out => ∃ (r : Int32), out = (some (.int r), w0, [], 0) ∧ Q r
theorem ok_J9_min_7cf53_10 {X : Nat × (Nat → Int32)} {N : Nat} {w0 : ax_W}  {Q : Int32 → Prop}  : ∀ (s0 : Int32), wp_J9_min_7cf53_10 N   Q  s0 → EV (ax_GG X) m_J9_min_7cf53 (po_J9_min_7cf53 w0 Q) (10, [none, none], [.int s0], w0, [], 0) := by
  intro s0 h
  unfold wp_J9_min_7cf53_10 at h
  exact EV.ret rfl trivial ⟨_, rfl, h⟩
theorem em_J9_min_7cf53 {X : Nat × (Nat → Int32)} {N : Nat} {w0 : ax_W} {p0 : Int32} {p1 : Int32} {Q : Int32 → Prop} (h : wp_J9_min_7cf53 N  Q p0 p1) : EM (ax_GG X) m_J9_min_7cf53 [.int p0, .int p1] w0 (po_J9_min_7cf53 w0 Q) := by
  unfold wp_J9_min_7cf53 at h
  show EV _ _ _ (0, [some (.int p0), some (.int p1)], [], w0, [], 0)
  refine EV.seg (c' := (2, [some (.int p0), some (.int p1)], [.int p1, .int p0], w0, [], 0)) 2 rfl trivial ?_
  refine EV.br (c1 := (9, [some (.int p0), some (.int p1)], [], w0, [], 0)) (c2 := (5, [some (.int p0), some (.int p1)], [], w0, [], 0)) rfl (fun hc => ?_) (fun hc => ?_)
  · have h := h.1 hc
    refine EV.seg (c' := (10, [some (.int p0), some (.int p1)], [.int p1], w0, [], 0)) 1 rfl trivial ?_
    refine EV.mask (ls' := [none, none]) rfl rfl ?_
    exact (ok_J9_min_7cf53_10 ) _ h
  · have h := h.2 hc
    refine EV.seg (c' := (10, [some (.int p0), some (.int p1)], [.int p0], w0, [], 0)) 2 rfl trivial ?_
    refine EV.mask (ls' := [none, none]) rfl rfl ?_
    exact (ok_J9_min_7cf53_10 ) _ h
abbrev po_X0_leapFrom (g_turn : Int32) (g_back : Nat → Int32) (Q : (Nat → Int32) → (Nat → Int32) → (Nat → Int32) → Prop) : ax_E → Prop := fun out => ∃ (g_order' : Nat → Int32) (g_breath' : Nat → Int32) (g_leapt' : Nat → Int32), out = (none, (w_g g_turn g_order' g_back g_breath' g_leapt'), [], 0) ∧ Q g_order' g_breath' g_leapt'
theorem em_X0_leapFrom {X : Nat × (Nat → Int32)} {N : Nat} {g_turn : Int32} {g_back : Nat → Int32} {p0 : Int32} {p1 : Int32} {g_order : Nat → Int32} {g_breath : Nat → Int32} {g_leapt : Nat → Int32} {Q : (Nat → Int32) → (Nat → Int32) → (Nat → Int32) → Prop} (h : wp_X0_leapFrom N  Q p0 p1 g_order g_breath g_leapt) : EM (ax_GG X) m_X0_leapFrom [.ref 0, .int p0, .int p1] (w_g g_turn g_order g_back g_breath g_leapt) (po_X0_leapFrom g_turn g_back Q) := by
  unfold wp_X0_leapFrom at h
  show EV _ _ _ (0, [some (.ref 0), some (.int p0), some (.int p1), none], [], (w_g g_turn g_order g_back g_breath g_leapt), [], 0)
  obtain ⟨g1, h⟩ := h
  refine EV.seg (c' := (7, [some (.ref 0), some (.int p0), some (.int p1), some (.int (g_order p0.toNatClampNeg))], [], (w_g g_turn g_order g_back g_breath g_leapt), [], 0)) 5 rfl (And.intro g1 trivial) ?_
  obtain ⟨x1, e_x1⟩ : ∃ z : Int32, z = g_order p0.toNatClampNeg := ⟨_, rfl⟩
  have h := h x1 e_x1
  rw [← e_x1]
  refine EV.seg (c' := (10, [some (.ref 0), some (.int p0), some (.int p1), some (.int x1)], [.int p1, .int p0, .ref 0], (w_g g_turn g_order g_back g_breath g_leapt), [], 0)) 3 rfl trivial ?_
  refine EV.call (M' := m_X0_moveAhead) rfl rfl (Nat.le_of_ble_eq_true rfl) (em_X0_moveAhead (g_turn := g_turn) (g_back := g_back) (g_breath := g_breath) (g_leapt := g_leapt) (g_order := g_order) h) (fun out ho => ?_)
  obtain ⟨m2, rfl, h⟩ := ho
  show EV _ _ _ (13, [some (.ref 0), some (.int p0), some (.int p1), some (.int x1)], [], (w_g g_turn m2 g_back g_breath g_leapt), [], 0)
  obtain ⟨g1, h⟩ := h
  refine EV.seg (c' := (29, [some (.ref 0), some (.int p0), some (.int p1), some (.int x1)], [.int ((g_leapt x1.toNatClampNeg) + p1), .int (999 : Int32), .int x1, .ref 4], (w_g g_turn m2 g_back g_breath g_leapt), [], 0)) 10 rfl (And.intro g1 trivial) ?_
  refine EV.call (M' := m_J9_min_7cf53) rfl rfl (Nat.le_of_ble_eq_true rfl) (em_J9_min_7cf53  h) (fun out ho => ?_)
  obtain ⟨r3, rfl, h⟩ := ho
  show EV _ _ _ (32, [some (.ref 0), some (.int p0), some (.int p1), some (.int x1)], [.int r3, .int x1, .ref 4], (w_g g_turn m2 g_back g_breath g_leapt), [], 0)
  obtain ⟨g1, h⟩ := h
  refine EV.seg (c' := (33, [some (.ref 0), some (.int p0), some (.int p1), some (.int x1)], [], (w_g g_turn m2 g_back g_breath (upd g_leapt x1.toNatClampNeg r3)), [], 0)) 1 rfl (And.intro g1 trivial) ?_
  obtain ⟨a4, e_a4⟩ : ∃ z : Nat → Int32, z = upd g_leapt x1.toNatClampNeg r3 := ⟨_, rfl⟩
  have h := h a4 e_a4
  rw [← e_a4]
  obtain ⟨g1, g2, h⟩ := h
  refine EV.seg (c' := (43, [some (.ref 0), some (.int p0), some (.int p1), some (.int x1)], [], (w_g g_turn m2 g_back (upd g_breath x1.toNatClampNeg ((g_breath x1.toNatClampNeg) - (1 : Int32))) a4), [], 0)) 8 rfl (And.intro g1 (And.intro g2 trivial)) ?_
  obtain ⟨a5, e_a5⟩ : ∃ z : Nat → Int32, z = upd g_breath x1.toNatClampNeg ((g_breath x1.toNatClampNeg) - (1 : Int32)) := ⟨_, rfl⟩
  have h := h a5 e_a5
  rw [← e_a5]
  exact EV.ret rfl trivial ⟨_, _, _, rfl, h⟩
abbrev po_X0_giveBreath (g_turn : Int32) (g_order : Nat → Int32) (g_back : Nat → Int32) (g_leapt : Nat → Int32) (Q : (Nat → Int32) → Prop) : ax_E → Prop := fun out => ∃ (g_breath' : Nat → Int32), out = (none, (w_g g_turn g_order g_back g_breath' g_leapt), [], 0) ∧ Q g_breath'
theorem em_X0_giveBreath {X : Nat × (Nat → Int32)} {N : Nat} {g_turn : Int32} {g_order : Nat → Int32} {g_back : Nat → Int32} {g_leapt : Nat → Int32} {p0 : Int32} {p1 : Int32} {g_breath : Nat → Int32} {Q : (Nat → Int32) → Prop} (h : wp_X0_giveBreath N  Q p0 p1 g_breath) : EM (ax_GG X) m_X0_giveBreath [.ref 0, .int p0, .int p1] (w_g g_turn g_order g_back g_breath g_leapt) (po_X0_giveBreath g_turn g_order g_back g_leapt Q) := by
  unfold wp_X0_giveBreath at h
  show EV _ _ _ (0, [some (.ref 0), some (.int p0), some (.int p1)], [], (w_g g_turn g_order g_back g_breath g_leapt), [], 0)
  obtain ⟨g1, h⟩ := h
  refine EV.seg (c' := (15, [some (.ref 0), some (.int p0), some (.int p1)], [.int ((g_breath p0.toNatClampNeg) + p1), .int (60 : Int32), .int p0, .ref 3], (w_g g_turn g_order g_back g_breath g_leapt), [], 0)) 10 rfl (And.intro g1 trivial) ?_
  refine EV.call (M' := m_J9_min_7cf53) rfl rfl (Nat.le_of_ble_eq_true rfl) (em_J9_min_7cf53  h) (fun out ho => ?_)
  obtain ⟨r1, rfl, h⟩ := ho
  show EV _ _ _ (18, [some (.ref 0), some (.int p0), some (.int p1)], [.int r1, .int p0, .ref 3], (w_g g_turn g_order g_back g_breath g_leapt), [], 0)
  obtain ⟨g1, h⟩ := h
  refine EV.seg (c' := (19, [some (.ref 0), some (.int p0), some (.int p1)], [], (w_g g_turn g_order g_back (upd g_breath p0.toNatClampNeg r1) g_leapt), [], 0)) 1 rfl (And.intro g1 trivial) ?_
  obtain ⟨a2, e_a2⟩ : ∃ z : Nat → Int32, z = upd g_breath p0.toNatClampNeg r1 := ⟨_, rfl⟩
  have h := h a2 e_a2
  rw [← e_a2]
  exact EV.ret rfl trivial ⟨_, rfl, h⟩
abbrev po_X0_restAllBut (g_turn : Int32) (g_order : Nat → Int32) (g_back : Nat → Int32) (g_leapt : Nat → Int32) (l_told : Int32) (l_spring : Int32) (l_many : Int32) (l_back : Nat → Int32) (l_leap : Nat → Int32) (l_breath : Nat → Int32) (Q : (Nat → Int32) → Prop) : ax_E → Prop := fun out => ∃ (g_breath' : Nat → Int32), out = (none, (w_gl g_turn g_order g_back g_breath' g_leapt l_told l_spring l_many l_back l_leap l_breath), [], 0) ∧ Q g_breath'
theorem ok_X0_restAllBut_40 {X : Nat × (Nat → Int32)} {N : Nat} {g_turn : Int32} {g_order : Nat → Int32} {g_back : Nat → Int32} {g_leapt : Nat → Int32} {l_told : Int32} {l_spring : Int32} {l_many : Int32} {l_back : Nat → Int32} {l_leap : Nat → Int32} {l_breath : Nat → Int32} {K2 : (Int32) → (Int32) → (Nat → Int32) → Prop} {Q : (Nat → Int32) → Prop} (hK2 : ∀ (v2 : Int32) (v3 : Int32) (g_breath : Nat → Int32), K2 v2 v3 g_breath → EV (ax_GG X) m_X0_restAllBut (po_X0_restAllBut g_turn g_order g_back g_leapt l_told l_spring l_many l_back l_leap l_breath Q) (2, [some (.ref 0), some (.ref 5), some (.int v2), some (.int v3)], [], (w_gl g_turn g_order g_back g_breath g_leapt l_told l_spring l_many l_back l_leap l_breath), [], 0)) : ∀ (v2 : Int32) (v3 : Int32) (g_breath : Nat → Int32), wp_X0_restAllBut_40 N l_many l_breath K2 Q  v2 v3 g_breath → EV (ax_GG X) m_X0_restAllBut (po_X0_restAllBut g_turn g_order g_back g_leapt l_told l_spring l_many l_back l_leap l_breath Q) (40, [some (.ref 0), some (.ref 5), some (.int v2), some (.int v3)], [], (w_gl g_turn g_order g_back g_breath g_leapt l_told l_spring l_many l_back l_leap l_breath), [], 0) := by
  intro v2 v3 g_breath h
  unfold wp_X0_restAllBut_40 at h
  refine EV.seg (c' := (2, [some (.ref 0), some (.ref 5), some (.int v2), some (.int (v3 + 1))], [], (w_gl g_turn g_order g_back g_breath g_leapt l_told l_spring l_many l_back l_leap l_breath), [], 0)) 2 rfl trivial ?_
  exact hK2 _ _ _ h
theorem ok_X0_restAllBut_2 {X : Nat × (Nat → Int32)} {N : Nat} {g_turn : Int32} {g_order : Nat → Int32} {g_back : Nat → Int32} {g_leapt : Nat → Int32} {l_told : Int32} {l_spring : Int32} {l_many : Int32} {l_back : Nat → Int32} {l_leap : Nat → Int32} {l_breath : Nat → Int32}  {Q : (Nat → Int32) → Prop}  : ∀ (n : Nat) (v2 : Int32) (v3 : Int32) (g_breath : Nat → Int32), wp_X0_restAllBut_2 N l_many l_breath  Q n v2 v3 g_breath → EV (ax_GG X) m_X0_restAllBut (po_X0_restAllBut g_turn g_order g_back g_leapt l_told l_spring l_many l_back l_leap l_breath Q) (2, [some (.ref 0), some (.ref 5), some (.int v2), some (.int v3)], [], (w_gl g_turn g_order g_back g_breath g_leapt l_told l_spring l_many l_back l_leap l_breath), [], 0) := by
  intro n
  induction n with
  | zero => intro _ _ _ h; exact h.elim
  | succ n ih =>
    intro v2 v3 g_breath h
    unfold wp_X0_restAllBut_2 at h
    refine EV.seg (c' := (7, [some (.ref 0), some (.ref 5), some (.int v2), some (.int v3)], [.int l_many, .int v3], (w_gl g_turn g_order g_back g_breath g_leapt l_told l_spring l_many l_back l_leap l_breath), [], 0)) 3 rfl trivial ?_
    refine EV.br (c1 := (46, [some (.ref 0), some (.ref 5), some (.int v2), some (.int v3)], [], (w_gl g_turn g_order g_back g_breath g_leapt l_told l_spring l_many l_back l_leap l_breath), [], 0)) (c2 := (10, [some (.ref 0), some (.ref 5), some (.int v2), some (.int v3)], [], (w_gl g_turn g_order g_back g_breath g_leapt l_told l_spring l_many l_back l_leap l_breath), [], 0)) rfl (fun hc => ?_) (fun hc => ?_)
    · have h := h.1 hc
      exact EV.ret rfl trivial ⟨_, rfl, h⟩
    · have h := h.2 hc
      refine EV.seg (c' := (12, [some (.ref 0), some (.ref 5), some (.int v2), some (.int v3)], [.int v2, .int v3], (w_gl g_turn g_order g_back g_breath g_leapt l_told l_spring l_many l_back l_leap l_breath), [], 0)) 2 rfl trivial ?_
      refine EV.br (c1 := (40, [some (.ref 0), some (.ref 5), some (.int v2), some (.int v3)], [], (w_gl g_turn g_order g_back g_breath g_leapt l_told l_spring l_many l_back l_leap l_breath), [], 0)) (c2 := (15, [some (.ref 0), some (.ref 5), some (.int v2), some (.int v3)], [], (w_gl g_turn g_order g_back g_breath g_leapt l_told l_spring l_many l_back l_leap l_breath), [], 0)) rfl (fun hc => ?_) (fun hc => ?_)
      · have h := h.1 hc
        exact (ok_X0_restAllBut_40 ih) _ _ _ h
      · have h := h.2 hc
        obtain ⟨g1, g2, h⟩ := h
        refine EV.seg (c' := (27, [some (.ref 0), some (.ref 5), some (.int v2), some (.int v3)], [.int (l_breath v3.toNatClampNeg), .int (g_breath v3.toNatClampNeg)], (w_gl g_turn g_order g_back g_breath g_leapt l_told l_spring l_many l_back l_leap l_breath), [], 0)) 8 rfl (And.intro g1 (And.intro g2 trivial)) ?_
        refine EV.br (c1 := (40, [some (.ref 0), some (.ref 5), some (.int v2), some (.int v3)], [], (w_gl g_turn g_order g_back g_breath g_leapt l_told l_spring l_many l_back l_leap l_breath), [], 0)) (c2 := (30, [some (.ref 0), some (.ref 5), some (.int v2), some (.int v3)], [], (w_gl g_turn g_order g_back g_breath g_leapt l_told l_spring l_many l_back l_leap l_breath), [], 0)) rfl (fun hc => ?_) (fun hc => ?_)
        · have h := h.1 hc
          exact (ok_X0_restAllBut_40 ih) _ _ _ h
        · have h := h.2 hc
          obtain ⟨g1, g2, h⟩ := h
          refine EV.seg (c' := (40, [some (.ref 0), some (.ref 5), some (.int v2), some (.int v3)], [], (w_gl g_turn g_order g_back (upd g_breath v3.toNatClampNeg ((g_breath v3.toNatClampNeg) + (1 : Int32))) g_leapt l_told l_spring l_many l_back l_leap l_breath), [], 0)) 8 rfl (And.intro g1 (And.intro g2 trivial)) ?_
          obtain ⟨a1, e_a1⟩ : ∃ z : Nat → Int32, z = upd g_breath v3.toNatClampNeg ((g_breath v3.toNatClampNeg) + (1 : Int32)) := ⟨_, rfl⟩
          have h := h a1 e_a1
          rw [← e_a1]
          exact (ok_X0_restAllBut_40 ih) _ _ _ h
theorem em_X0_restAllBut {X : Nat × (Nat → Int32)} {N : Nat} {g_turn : Int32} {g_order : Nat → Int32} {g_back : Nat → Int32} {g_leapt : Nat → Int32} {l_told : Int32} {l_spring : Int32} {l_many : Int32} {l_back : Nat → Int32} {l_leap : Nat → Int32} {l_breath : Nat → Int32} {p0 : Int32} {g_breath : Nat → Int32} {Q : (Nat → Int32) → Prop} (h : wp_X0_restAllBut N l_many l_breath Q p0 g_breath) : EM (ax_GG X) m_X0_restAllBut [.ref 0, .ref 5, .int p0] (w_gl g_turn g_order g_back g_breath g_leapt l_told l_spring l_many l_back l_leap l_breath) (po_X0_restAllBut g_turn g_order g_back g_leapt l_told l_spring l_many l_back l_leap l_breath Q) := by
  unfold wp_X0_restAllBut at h
  show EV _ _ _ (0, [some (.ref 0), some (.ref 5), some (.int p0), none], [], (w_gl g_turn g_order g_back g_breath g_leapt l_told l_spring l_many l_back l_leap l_breath), [], 0)
  refine EV.seg (c' := (2, [some (.ref 0), some (.ref 5), some (.int p0), some (.int (0 : Int32))], [], (w_gl g_turn g_order g_back g_breath g_leapt l_told l_spring l_many l_back l_leap l_breath), [], 0)) 2 rfl trivial ?_
  exact (ok_X0_restAllBut_2  N) _ _ _ h
abbrev po_X1_takeFrom (k_told : Int32) (k_spring : Int32) (k_many : Int32) (k_back : Nat → Int32) (k_leap : Nat → Int32) (k_breath : Nat → Int32) (Q : (Int32) → (Int32) → (Int32) → (Nat → Int32) → (Nat → Int32) → (Nat → Int32) → Prop) : ax_E → Prop := fun out => ∃ (l_told' : Int32) (l_spring' : Int32) (l_many' : Int32) (l_back' : Nat → Int32) (l_leap' : Nat → Int32) (l_breath' : Nat → Int32), out = (none, (w_lk l_told' l_spring' l_many' l_back' l_leap' l_breath' k_told k_spring k_many k_back k_leap k_breath), [], 0) ∧ Q l_told' l_spring' l_many' l_back' l_leap' l_breath'
theorem em_X1_takeFrom {X : Nat × (Nat → Int32)} {N : Nat} {k_told : Int32} {k_spring : Int32} {k_many : Int32} {k_back : Nat → Int32} {k_leap : Nat → Int32} {k_breath : Nat → Int32} {l_told : Int32} {l_spring : Int32} {l_many : Int32} {l_back : Nat → Int32} {l_leap : Nat → Int32} {l_breath : Nat → Int32} {Q : (Int32) → (Int32) → (Int32) → (Nat → Int32) → (Nat → Int32) → (Nat → Int32) → Prop} (h : wp_X1_takeFrom N k_told k_spring k_many k_back k_leap k_breath Q l_told l_spring l_many l_back l_leap l_breath) : EM (ax_GG X) m_X1_takeFrom [.ref 0, .ref 4] (w_lk l_told l_spring l_many l_back l_leap l_breath k_told k_spring k_many k_back k_leap k_breath) (po_X1_takeFrom k_told k_spring k_many k_back k_leap k_breath Q) := by
  unfold wp_X1_takeFrom at h
  show EV _ _ _ (0, [some (.ref 0), some (.ref 4)], [], (w_lk l_told l_spring l_many l_back l_leap l_breath k_told k_spring k_many k_back k_leap k_breath), [], 0)
  obtain ⟨g1, g2, h⟩ := h
  refine EV.seg (c' := (39, [some (.ref 0), some (.ref 4)], [], (w_lk k_told k_spring k_many (va_cpy k_back l_back ((0 : Int32).toNatClampNeg) ((0 : Int32).toNatClampNeg) ((7 : Int32).toNatClampNeg)) l_leap l_breath k_told k_spring k_many k_back k_leap k_breath), [], 0)) 20 rfl (And.intro g1 (And.intro g2 trivial)) ?_
  obtain ⟨a1, e_a1⟩ : ∃ z : Nat → Int32, z = va_cpy k_back l_back ((0 : Int32).toNatClampNeg) ((0 : Int32).toNatClampNeg) ((7 : Int32).toNatClampNeg) := ⟨_, rfl⟩
  have h := h a1 e_a1
  rw [← e_a1]
  obtain ⟨g1, h⟩ := h
  refine EV.seg (c' := (54, [some (.ref 0), some (.ref 4)], [], (w_lk k_told k_spring k_many a1 (va_cpy k_leap l_leap ((0 : Int32).toNatClampNeg) ((0 : Int32).toNatClampNeg) ((7 : Int32).toNatClampNeg)) l_breath k_told k_spring k_many k_back k_leap k_breath), [], 0)) 8 rfl (And.intro g1 trivial) ?_
  obtain ⟨a2, e_a2⟩ : ∃ z : Nat → Int32, z = va_cpy k_leap l_leap ((0 : Int32).toNatClampNeg) ((0 : Int32).toNatClampNeg) ((7 : Int32).toNatClampNeg) := ⟨_, rfl⟩
  have h := h a2 e_a2
  rw [← e_a2]
  obtain ⟨g1, h⟩ := h
  refine EV.seg (c' := (69, [some (.ref 0), some (.ref 4)], [], (w_lk k_told k_spring k_many a1 a2 (va_cpy k_breath l_breath ((0 : Int32).toNatClampNeg) ((0 : Int32).toNatClampNeg) ((7 : Int32).toNatClampNeg)) k_told k_spring k_many k_back k_leap k_breath), [], 0)) 8 rfl (And.intro g1 trivial) ?_
  obtain ⟨a3, e_a3⟩ : ∃ z : Nat → Int32, z = va_cpy k_breath l_breath ((0 : Int32).toNatClampNeg) ((0 : Int32).toNatClampNeg) ((7 : Int32).toNatClampNeg) := ⟨_, rfl⟩
  have h := h a3 e_a3
  rw [← e_a3]
  exact EV.ret rfl trivial ⟨_, _, _, _, _, _, rfl, h⟩
abbrev po_X9_rewind (p_bytes : Nat → Int32) (p_length : Int32) (p_sign : Int32) (p_place : Int32) (p_number : Int32) (Q : (Int32) → (Int32) → Prop) : ax_E → Prop := fun out => ∃ (p_at' : Int32) (p_fault' : Int32), out = (none, (w_p p_bytes p_length p_at' p_sign p_place p_number p_fault'), [], 0) ∧ Q p_at' p_fault'
theorem em_X9_rewind {X : Nat × (Nat → Int32)} {N : Nat} {p_bytes : Nat → Int32} {p_length : Int32} {p_sign : Int32} {p_place : Int32} {p_number : Int32} {p_at : Int32} {p_fault : Int32} {Q : (Int32) → (Int32) → Prop} (h : wp_X9_rewind N  Q p_at p_fault) : EM (ax_GG X) m_X9_rewind [.ref 0] (w_p p_bytes p_length p_at p_sign p_place p_number p_fault) (po_X9_rewind p_bytes p_length p_sign p_place p_number Q) := by
  unfold wp_X9_rewind at h
  show EV _ _ _ (0, [some (.ref 0)], [], (w_p p_bytes p_length p_at p_sign p_place p_number p_fault), [], 0)
  refine EV.seg (c' := (10, [some (.ref 0)], [], (w_p p_bytes p_length (0 : Int32) p_sign p_place p_number (0 : Int32)), [], 0)) 6 rfl trivial ?_
  exact EV.ret rfl trivial ⟨_, _, rfl, h⟩
abbrev po_X9_isLetter (w0 : ax_W) (Q : Int32 → Prop) : ax_E → Prop := fun out => ∃ (r : Int32), out = (some (.int r), w0, [], 0) ∧ Q r
theorem ok_X9_isLetter_17 {X : Nat × (Nat → Int32)} {N : Nat} {w0 : ax_W}  {Q : Int32 → Prop}  : ∀ (s0 : Int32), wp_X9_isLetter_17 N   Q  s0 → EV (ax_GG X) m_X9_isLetter (po_X9_isLetter w0 Q) (17, [none], [.int s0], w0, [], 0) := by
  intro s0 h
  unfold wp_X9_isLetter_17 at h
  exact EV.ret rfl h.1 ⟨_, rfl, h.2⟩
theorem ok_X9_isLetter_16 {X : Nat × (Nat → Int32)} {N : Nat} {w0 : ax_W} {K17 : (Int32) → Prop} {Q : Int32 → Prop} (hK17 : ∀ (s0 : Int32), K17 s0 → EV (ax_GG X) m_X9_isLetter (po_X9_isLetter w0 Q) (17, [none], [.int s0], w0, [], 0)) : wp_X9_isLetter_16 N  K17 Q   → EV (ax_GG X) m_X9_isLetter (po_X9_isLetter w0 Q) (16, [none], [], w0, [], 0) := by
  intro  h
  unfold wp_X9_isLetter_16 at h
  refine EV.seg (c' := (17, [none], [.int (0 : Int32)], w0, [], 0)) 1 rfl trivial ?_
  exact hK17 _ h
theorem em_X9_isLetter {X : Nat × (Nat → Int32)} {N : Nat} {w0 : ax_W} {p0 : Int32} {Q : Int32 → Prop} (h : wp_X9_isLetter N  Q p0) : EM (ax_GG X) m_X9_isLetter [.int p0] w0 (po_X9_isLetter w0 Q) := by
  unfold wp_X9_isLetter at h
  show EV _ _ _ (0, [some (.int p0)], [], w0, [], 0)
  refine EV.seg (c' := (3, [some (.int p0)], [.int (97 : Int32), .int p0], w0, [], 0)) 2 rfl trivial ?_
  refine EV.br (c1 := (16, [some (.int p0)], [], w0, [], 0)) (c2 := (6, [some (.int p0)], [], w0, [], 0)) rfl (fun hc => ?_) (fun hc => ?_)
  · have h := h.1 hc
    refine EV.mask (ls' := [none]) rfl rfl ?_
    exact (ok_X9_isLetter_16 (ok_X9_isLetter_17 ))  h
  · have h := h.2 hc
    refine EV.seg (c' := (9, [some (.int p0)], [.int (122 : Int32), .int p0], w0, [], 0)) 2 rfl trivial ?_
    refine EV.br (c1 := (16, [some (.int p0)], [], w0, [], 0)) (c2 := (12, [some (.int p0)], [], w0, [], 0)) rfl (fun hc => ?_) (fun hc => ?_)
    · have h := h.1 hc
      refine EV.mask (ls' := [none]) rfl rfl ?_
      exact (ok_X9_isLetter_16 (ok_X9_isLetter_17 ))  h
    · have h := h.2 hc
      refine EV.seg (c' := (17, [some (.int p0)], [.int (1 : Int32)], w0, [], 0)) 2 rfl trivial ?_
      refine EV.mask (ls' := [none]) rfl rfl ?_
      exact (ok_X9_isLetter_17 ) _ h
abbrev po_X9_isDigit (w0 : ax_W) (Q : Int32 → Prop) : ax_E → Prop := fun out => ∃ (r : Int32), out = (some (.int r), w0, [], 0) ∧ Q r
theorem ok_X9_isDigit_17 {X : Nat × (Nat → Int32)} {N : Nat} {w0 : ax_W}  {Q : Int32 → Prop}  : ∀ (s0 : Int32), wp_X9_isDigit_17 N   Q  s0 → EV (ax_GG X) m_X9_isDigit (po_X9_isDigit w0 Q) (17, [none], [.int s0], w0, [], 0) := by
  intro s0 h
  unfold wp_X9_isDigit_17 at h
  exact EV.ret rfl h.1 ⟨_, rfl, h.2⟩
theorem ok_X9_isDigit_16 {X : Nat × (Nat → Int32)} {N : Nat} {w0 : ax_W} {K17 : (Int32) → Prop} {Q : Int32 → Prop} (hK17 : ∀ (s0 : Int32), K17 s0 → EV (ax_GG X) m_X9_isDigit (po_X9_isDigit w0 Q) (17, [none], [.int s0], w0, [], 0)) : wp_X9_isDigit_16 N  K17 Q   → EV (ax_GG X) m_X9_isDigit (po_X9_isDigit w0 Q) (16, [none], [], w0, [], 0) := by
  intro  h
  unfold wp_X9_isDigit_16 at h
  refine EV.seg (c' := (17, [none], [.int (0 : Int32)], w0, [], 0)) 1 rfl trivial ?_
  exact hK17 _ h
theorem em_X9_isDigit {X : Nat × (Nat → Int32)} {N : Nat} {w0 : ax_W} {p0 : Int32} {Q : Int32 → Prop} (h : wp_X9_isDigit N  Q p0) : EM (ax_GG X) m_X9_isDigit [.int p0] w0 (po_X9_isDigit w0 Q) := by
  unfold wp_X9_isDigit at h
  show EV _ _ _ (0, [some (.int p0)], [], w0, [], 0)
  refine EV.seg (c' := (3, [some (.int p0)], [.int (48 : Int32), .int p0], w0, [], 0)) 2 rfl trivial ?_
  refine EV.br (c1 := (16, [some (.int p0)], [], w0, [], 0)) (c2 := (6, [some (.int p0)], [], w0, [], 0)) rfl (fun hc => ?_) (fun hc => ?_)
  · have h := h.1 hc
    refine EV.mask (ls' := [none]) rfl rfl ?_
    exact (ok_X9_isDigit_16 (ok_X9_isDigit_17 ))  h
  · have h := h.2 hc
    refine EV.seg (c' := (9, [some (.int p0)], [.int (57 : Int32), .int p0], w0, [], 0)) 2 rfl trivial ?_
    refine EV.br (c1 := (16, [some (.int p0)], [], w0, [], 0)) (c2 := (12, [some (.int p0)], [], w0, [], 0)) rfl (fun hc => ?_) (fun hc => ?_)
    · have h := h.1 hc
      refine EV.mask (ls' := [none]) rfl rfl ?_
      exact (ok_X9_isDigit_16 (ok_X9_isDigit_17 ))  h
    · have h := h.2 hc
      refine EV.seg (c' := (17, [some (.int p0)], [.int (1 : Int32)], w0, [], 0)) 2 rfl trivial ?_
      refine EV.mask (ls' := [none]) rfl rfl ?_
      exact (ok_X9_isDigit_17 ) _ h
abbrev po_X9_readMark (p_bytes : Nat → Int32) (p_length : Int32) (p_place : Int32) (p_number : Int32) (p_fault : Int32) (Q : (Int32) → (Int32) → Prop) : ax_E → Prop := fun out => ∃ (p_at' : Int32) (p_sign' : Int32), out = (none, (w_p p_bytes p_length p_at' p_sign' p_place p_number p_fault), [], 0) ∧ Q p_at' p_sign'
theorem ok_X9_readMark_102 {X : Nat × (Nat → Int32)} {N : Nat} {p_bytes : Nat → Int32} {p_length : Int32} {p_place : Int32} {p_number : Int32} {p_fault : Int32}  {Q : (Int32) → (Int32) → Prop}  : ∀ (p_at : Int32) (p_sign : Int32), wp_X9_readMark_102 N p_bytes p_length  Q  p_at p_sign → EV (ax_GG X) m_X9_readMark (po_X9_readMark p_bytes p_length p_place p_number p_fault Q) (102, [none], [], (w_p p_bytes p_length p_at p_sign p_place p_number p_fault), [], 0) := by
  intro p_at p_sign h
  unfold wp_X9_readMark_102 at h
  exact EV.ret rfl trivial ⟨_, _, rfl, h⟩
theorem ok_X9_readMark_89 {X : Nat × (Nat → Int32)} {N : Nat} {p_bytes : Nat → Int32} {p_length : Int32} {p_place : Int32} {p_number : Int32} {p_fault : Int32} {K102 : (Int32) → (Int32) → Prop} {Q : (Int32) → (Int32) → Prop} (hK102 : ∀ (p_at : Int32) (p_sign : Int32), K102 p_at p_sign → EV (ax_GG X) m_X9_readMark (po_X9_readMark p_bytes p_length p_place p_number p_fault Q) (102, [none], [], (w_p p_bytes p_length p_at p_sign p_place p_number p_fault), [], 0)) : ∀ (s0 : Int32) (p_at : Int32) (p_sign : Int32), wp_X9_readMark_89 N p_bytes p_length K102 Q  s0 p_at p_sign → EV (ax_GG X) m_X9_readMark (po_X9_readMark p_bytes p_length p_place p_number p_fault Q) (89, [some (.ref 0)], [.int s0, .ref 0], (w_p p_bytes p_length p_at p_sign p_place p_number p_fault), [], 0) := by
  intro s0 p_at p_sign h
  unfold wp_X9_readMark_89 at h
  refine EV.seg (c' := (102, [some (.ref 0)], [], (w_p p_bytes p_length (p_at + (1 : Int32)) s0 p_place p_number p_fault), [], 0)) 7 rfl trivial ?_
  refine EV.mask (ls' := [none]) rfl rfl ?_
  exact hK102 _ _ h
theorem ok_X9_readMark_45 {X : Nat × (Nat → Int32)} {N : Nat} {p_bytes : Nat → Int32} {p_length : Int32} {p_place : Int32} {p_number : Int32} {p_fault : Int32} {K102 : (Int32) → (Int32) → Prop} {Q : (Int32) → (Int32) → Prop} (hK102 : ∀ (p_at : Int32) (p_sign : Int32), K102 p_at p_sign → EV (ax_GG X) m_X9_readMark (po_X9_readMark p_bytes p_length p_place p_number p_fault Q) (102, [none], [], (w_p p_bytes p_length p_at p_sign p_place p_number p_fault), [], 0)) : ∀ (p_at : Int32) (p_sign : Int32), wp_X9_readMark_45 N p_bytes p_length K102 Q  p_at p_sign → EV (ax_GG X) m_X9_readMark (po_X9_readMark p_bytes p_length p_place p_number p_fault Q) (45, [some (.ref 0)], [], (w_p p_bytes p_length p_at p_sign p_place p_number p_fault), [], 0) := by
  intro p_at p_sign h
  unfold wp_X9_readMark_45 at h
  refine EV.seg (c' := (53, [some (.ref 0)], [.int p_length, .int p_at], (w_p p_bytes p_length p_at p_sign p_place p_number p_fault), [], 0)) 4 rfl trivial ?_
  refine EV.br (c1 := (102, [some (.ref 0)], [], (w_p p_bytes p_length p_at p_sign p_place p_number p_fault), [], 0)) (c2 := (56, [some (.ref 0)], [], (w_p p_bytes p_length p_at p_sign p_place p_number p_fault), [], 0)) rfl (fun hc => ?_) (fun hc => ?_)
  · have h := h.1 hc
    refine EV.mask (ls' := [none]) rfl rfl ?_
    exact hK102 _ _ h
  · have h := h.2 hc
    obtain ⟨g1, h⟩ := h
    refine EV.seg (c' := (67, [some (.ref 0)], [.int (61 : Int32), .int (p_bytes p_at.toNatClampNeg)], (w_p p_bytes p_length p_at p_sign p_place p_number p_fault), [], 0)) 6 rfl (And.intro g1 trivial) ?_
    refine EV.br (c1 := (70, [some (.ref 0)], [], (w_p p_bytes p_length p_at p_sign p_place p_number p_fault), [], 0)) (c2 := (102, [some (.ref 0)], [], (w_p p_bytes p_length p_at p_sign p_place p_number p_fault), [], 0)) rfl (fun hc => ?_) (fun hc => ?_)
    · have h := h.1 hc
      refine EV.seg (c' := (77, [some (.ref 0)], [.int (60 : Int32), .int p_sign, .ref 0], (w_p p_bytes p_length p_at p_sign p_place p_number p_fault), [], 0)) 4 rfl trivial ?_
      refine EV.br (c1 := (80, [some (.ref 0)], [.ref 0], (w_p p_bytes p_length p_at p_sign p_place p_number p_fault), [], 0)) (c2 := (86, [some (.ref 0)], [.ref 0], (w_p p_bytes p_length p_at p_sign p_place p_number p_fault), [], 0)) rfl (fun hc => ?_) (fun hc => ?_)
      · have h := h.1 hc
        refine EV.seg (c' := (89, [some (.ref 0)], [.int (258 : Int32), .ref 0], (w_p p_bytes p_length p_at p_sign p_place p_number p_fault), [], 0)) 2 rfl trivial ?_
        exact (ok_X9_readMark_89 hK102) _ _ _ h
      · have h := h.2 hc
        refine EV.seg (c' := (89, [some (.ref 0)], [.int (259 : Int32), .ref 0], (w_p p_bytes p_length p_at p_sign p_place p_number p_fault), [], 0)) 1 rfl trivial ?_
        exact (ok_X9_readMark_89 hK102) _ _ _ h
    · have h := h.2 hc
      refine EV.mask (ls' := [none]) rfl rfl ?_
      exact hK102 _ _ h
theorem em_X9_readMark {X : Nat × (Nat → Int32)} {N : Nat} {p_bytes : Nat → Int32} {p_length : Int32} {p_place : Int32} {p_number : Int32} {p_fault : Int32} {p_at : Int32} {p_sign : Int32} {Q : (Int32) → (Int32) → Prop} (h : wp_X9_readMark N p_bytes p_length Q p_at p_sign) : EM (ax_GG X) m_X9_readMark [.ref 0] (w_p p_bytes p_length p_at p_sign p_place p_number p_fault) (po_X9_readMark p_bytes p_length p_place p_number p_fault Q) := by
  unfold wp_X9_readMark at h
  show EV _ _ _ (0, [some (.ref 0)], [], (w_p p_bytes p_length p_at p_sign p_place p_number p_fault), [], 0)
  obtain ⟨g1, h⟩ := h
  refine EV.seg (c' := (33, [some (.ref 0)], [.int (60 : Int32), .int ((p_bytes p_at.toNatClampNeg) &&& (255 : Int32))], (w_p p_bytes p_length (p_at + (1 : Int32)) ((p_bytes p_at.toNatClampNeg) &&& (255 : Int32)) p_place p_number p_fault), [], 0)) 18 rfl (And.intro g1 trivial) ?_
  refine EV.br (c1 := (45, [some (.ref 0)], [], (w_p p_bytes p_length (p_at + (1 : Int32)) ((p_bytes p_at.toNatClampNeg) &&& (255 : Int32)) p_place p_number p_fault), [], 0)) (c2 := (36, [some (.ref 0)], [], (w_p p_bytes p_length (p_at + (1 : Int32)) ((p_bytes p_at.toNatClampNeg) &&& (255 : Int32)) p_place p_number p_fault), [], 0)) rfl (fun hc => ?_) (fun hc => ?_)
  · have h := h.1 hc
    exact (ok_X9_readMark_45 (ok_X9_readMark_102 )) _ _ h
  · have h := h.2 hc
    refine EV.seg (c' := (42, [some (.ref 0)], [.int (62 : Int32), .int ((p_bytes p_at.toNatClampNeg) &&& (255 : Int32))], (w_p p_bytes p_length (p_at + (1 : Int32)) ((p_bytes p_at.toNatClampNeg) &&& (255 : Int32)) p_place p_number p_fault), [], 0)) 3 rfl trivial ?_
    refine EV.br (c1 := (45, [some (.ref 0)], [], (w_p p_bytes p_length (p_at + (1 : Int32)) ((p_bytes p_at.toNatClampNeg) &&& (255 : Int32)) p_place p_number p_fault), [], 0)) (c2 := (102, [some (.ref 0)], [], (w_p p_bytes p_length (p_at + (1 : Int32)) ((p_bytes p_at.toNatClampNeg) &&& (255 : Int32)) p_place p_number p_fault), [], 0)) rfl (fun hc => ?_) (fun hc => ?_)
    · have h := h.1 hc
      exact (ok_X9_readMark_45 (ok_X9_readMark_102 )) _ _ h
    · have h := h.2 hc
      refine EV.mask (ls' := [none]) rfl rfl ?_
      exact (ok_X9_readMark_102 ) _ _ h
abbrev po_X9_readNumber (p_bytes : Nat → Int32) (p_length : Int32) (p_place : Int32) (p_fault : Int32) (Q : (Int32) → (Int32) → (Int32) → Prop) : ax_E → Prop := fun out => ∃ (p_at' : Int32) (p_sign' : Int32) (p_number' : Int32), out = (none, (w_p p_bytes p_length p_at' p_sign' p_place p_number' p_fault), [], 0) ∧ Q p_at' p_sign' p_number'
theorem ok_X9_readNumber_106 {X : Nat × (Nat → Int32)} {N : Nat} {p_bytes : Nat → Int32} {p_length : Int32} {p_place : Int32} {p_fault : Int32}  {Q : (Int32) → (Int32) → (Int32) → Prop}  : ∀ (p_at : Int32) (p_sign : Int32) (p_number : Int32), wp_X9_readNumber_106 N p_bytes p_length p_place  Q  p_at p_sign p_number → EV (ax_GG X) m_X9_readNumber (po_X9_readNumber p_bytes p_length p_place p_fault Q) (106, [none], [], (w_p p_bytes p_length p_at p_sign p_place p_number p_fault), [], 0) := by
  intro p_at p_sign p_number h
  unfold wp_X9_readNumber_106 at h
  exact EV.ret rfl trivial ⟨_, _, _, rfl, h⟩
theorem ok_X9_readNumber_88 {X : Nat × (Nat → Int32)} {N : Nat} {p_bytes : Nat → Int32} {p_length : Int32} {p_place : Int32} {p_fault : Int32}  {Q : (Int32) → (Int32) → (Int32) → Prop}  : ∀ (p_at : Int32) (p_sign : Int32) (p_number : Int32), wp_X9_readNumber_88 N p_bytes p_length p_place  Q  p_at p_sign p_number → EV (ax_GG X) m_X9_readNumber (po_X9_readNumber p_bytes p_length p_place p_fault Q) (88, [some (.ref 0)], [], (w_p p_bytes p_length p_at p_sign p_place p_number p_fault), [], 0) := by
  intro p_at p_sign p_number h
  unfold wp_X9_readNumber_88 at h
  refine EV.seg (c' := (98, [some (.ref 0)], [.int (5 : Int32), .int (p_at - p_place)], (w_p p_bytes p_length p_at p_sign p_place p_number p_fault), [], 0)) 6 rfl trivial ?_
  refine EV.br (c1 := (106, [some (.ref 0)], [], (w_p p_bytes p_length p_at p_sign p_place p_number p_fault), [], 0)) (c2 := (101, [some (.ref 0)], [], (w_p p_bytes p_length p_at p_sign p_place p_number p_fault), [], 0)) rfl (fun hc => ?_) (fun hc => ?_)
  · have h := h.1 hc
    refine EV.mask (ls' := [none]) rfl rfl ?_
    exact (ok_X9_readNumber_106 ) _ _ _ h
  · have h := h.2 hc
    refine EV.seg (c' := (106, [some (.ref 0)], [], (w_p p_bytes p_length p_at p_sign p_place (-1 : Int32) p_fault), [], 0)) 3 rfl trivial ?_
    refine EV.mask (ls' := [none]) rfl rfl ?_
    exact (ok_X9_readNumber_106 ) _ _ _ h
theorem ok_X9_readNumber_75 {X : Nat × (Nat → Int32)} {N : Nat} {p_bytes : Nat → Int32} {p_length : Int32} {p_place : Int32} {p_fault : Int32} {K12 : (Int32) → (Int32) → (Int32) → Prop} {Q : (Int32) → (Int32) → (Int32) → Prop} (hK12 : ∀ (p_at : Int32) (p_sign : Int32) (p_number : Int32), K12 p_at p_sign p_number → EV (ax_GG X) m_X9_readNumber (po_X9_readNumber p_bytes p_length p_place p_fault Q) (12, [some (.ref 0)], [], (w_p p_bytes p_length p_at p_sign p_place p_number p_fault), [], 0)) : ∀ (p_at : Int32) (p_sign : Int32) (p_number : Int32), wp_X9_readNumber_75 N p_bytes p_length p_place K12 Q  p_at p_sign p_number → EV (ax_GG X) m_X9_readNumber (po_X9_readNumber p_bytes p_length p_place p_fault Q) (75, [some (.ref 0)], [], (w_p p_bytes p_length p_at p_sign p_place p_number p_fault), [], 0) := by
  intro p_at p_sign p_number h
  unfold wp_X9_readNumber_75 at h
  refine EV.seg (c' := (12, [some (.ref 0)], [], (w_p p_bytes p_length (p_at + (1 : Int32)) p_sign p_place p_number p_fault), [], 0)) 7 rfl trivial ?_
  exact hK12 _ _ _ h
theorem ok_X9_readNumber_12 {X : Nat × (Nat → Int32)} {N : Nat} {p_bytes : Nat → Int32} {p_length : Int32} {p_place : Int32} {p_fault : Int32}  {Q : (Int32) → (Int32) → (Int32) → Prop}  : ∀ (n : Nat) (p_at : Int32) (p_sign : Int32) (p_number : Int32), wp_X9_readNumber_12 N p_bytes p_length p_place  Q n p_at p_sign p_number → EV (ax_GG X) m_X9_readNumber (po_X9_readNumber p_bytes p_length p_place p_fault Q) (12, [some (.ref 0)], [], (w_p p_bytes p_length p_at p_sign p_place p_number p_fault), [], 0) := by
  intro n
  induction n with
  | zero => intro _ _ _ h; exact h.elim
  | succ n ih =>
    intro p_at p_sign p_number h
    unfold wp_X9_readNumber_12 at h
    refine EV.seg (c' := (20, [some (.ref 0)], [.int p_length, .int p_at], (w_p p_bytes p_length p_at p_sign p_place p_number p_fault), [], 0)) 4 rfl trivial ?_
    refine EV.br (c1 := (88, [some (.ref 0)], [], (w_p p_bytes p_length p_at p_sign p_place p_number p_fault), [], 0)) (c2 := (23, [some (.ref 0)], [], (w_p p_bytes p_length p_at p_sign p_place p_number p_fault), [], 0)) rfl (fun hc => ?_) (fun hc => ?_)
    · have h := h.1 hc
      exact (ok_X9_readNumber_88 ) _ _ _ h
    · have h := h.2 hc
      obtain ⟨g1, h⟩ := h
      refine EV.seg (c' := (32, [some (.ref 0)], [.int (p_bytes p_at.toNatClampNeg)], (w_p p_bytes p_length p_at p_sign p_place p_number p_fault), [], 0)) 5 rfl (And.intro g1 trivial) ?_
      refine EV.call (M' := m_X9_isDigit) rfl rfl (Nat.le_of_ble_eq_true rfl) (em_X9_isDigit  h) (fun out ho => ?_)
      obtain ⟨r1, rfl, h⟩ := ho
      show EV _ _ _ (35, [some (.ref 0)], [.int r1], (w_p p_bytes p_length p_at p_sign p_place p_number p_fault), [], 0)
      refine EV.br (c1 := (88, [some (.ref 0)], [], (w_p p_bytes p_length p_at p_sign p_place p_number p_fault), [], 0)) (c2 := (38, [some (.ref 0)], [], (w_p p_bytes p_length p_at p_sign p_place p_number p_fault), [], 0)) rfl (fun hc => ?_) (fun hc => ?_)
      · have h := h.1 hc
        exact (ok_X9_readNumber_88 ) _ _ _ h
      · have h := h.2 hc
        refine EV.seg (c' := (48, [some (.ref 0)], [.int (5 : Int32), .int (p_at - p_place)], (w_p p_bytes p_length p_at p_sign p_place p_number p_fault), [], 0)) 6 rfl trivial ?_
        refine EV.br (c1 := (75, [some (.ref 0)], [], (w_p p_bytes p_length p_at p_sign p_place p_number p_fault), [], 0)) (c2 := (51, [some (.ref 0)], [], (w_p p_bytes p_length p_at p_sign p_place p_number p_fault), [], 0)) rfl (fun hc => ?_) (fun hc => ?_)
        · have h := h.1 hc
          exact (ok_X9_readNumber_75 ih) _ _ _ h
        · have h := h.2 hc
          obtain ⟨g1, h⟩ := h
          refine EV.seg (c' := (75, [some (.ref 0)], [], (w_p p_bytes p_length p_at p_sign p_place ((((10 : Int32) * p_number) + (p_bytes p_at.toNatClampNeg)) - (48 : Int32)) p_fault), [], 0)) 14 rfl (And.intro g1 trivial) ?_
          exact (ok_X9_readNumber_75 ih) _ _ _ h
theorem em_X9_readNumber {X : Nat × (Nat → Int32)} {N : Nat} {p_bytes : Nat → Int32} {p_length : Int32} {p_place : Int32} {p_fault : Int32} {p_at : Int32} {p_sign : Int32} {p_number : Int32} {Q : (Int32) → (Int32) → (Int32) → Prop} (h : wp_X9_readNumber N p_bytes p_length p_place Q p_at p_sign p_number) : EM (ax_GG X) m_X9_readNumber [.ref 0] (w_p p_bytes p_length p_at p_sign p_place p_number p_fault) (po_X9_readNumber p_bytes p_length p_place p_fault Q) := by
  unfold wp_X9_readNumber at h
  show EV _ _ _ (0, [some (.ref 0)], [], (w_p p_bytes p_length p_at p_sign p_place p_number p_fault), [], 0)
  refine EV.seg (c' := (12, [some (.ref 0)], [], (w_p p_bytes p_length p_at (257 : Int32) p_place (0 : Int32) p_fault), [], 0)) 6 rfl trivial ?_
  exact (ok_X9_readNumber_12  N) _ _ _ h
abbrev po_X9_readWord (p_bytes : Nat → Int32) (p_length : Int32) (p_place : Int32) (p_number : Int32) (p_fault : Int32) (Q : (Int32) → (Int32) → Prop) : ax_E → Prop := fun out => ∃ (p_at' : Int32) (p_sign' : Int32), out = (none, (w_p p_bytes p_length p_at' p_sign' p_place p_number p_fault), [], 0) ∧ Q p_at' p_sign'
theorem ok_X9_readWord_160 {X : Nat × (Nat → Int32)} {N : Nat} {p_bytes : Nat → Int32} {p_length : Int32} {p_place : Int32} {p_number : Int32} {p_fault : Int32}  {Q : (Int32) → (Int32) → Prop}  : ∀ (p_at : Int32) (p_sign : Int32), wp_X9_readWord_160 N p_bytes p_length p_place  Q  p_at p_sign → EV (ax_GG X) m_X9_readWord (po_X9_readWord p_bytes p_length p_place p_number p_fault Q) (160, [none, none, none, none, none], [], (w_p p_bytes p_length p_at p_sign p_place p_number p_fault), [], 0) := by
  intro p_at p_sign h
  unfold wp_X9_readWord_160 at h
  exact EV.ret rfl trivial ⟨_, _, rfl, h⟩
theorem ok_X9_readWord_154 {X : Nat × (Nat → Int32)} {N : Nat} {p_bytes : Nat → Int32} {p_length : Int32} {p_place : Int32} {p_number : Int32} {p_fault : Int32} {K48 : (Int32) → (Int32) → (Int32) → Prop} {Q : (Int32) → (Int32) → Prop} (hK48 : ∀ (v1 : Int32) (p_at : Int32) (p_sign : Int32), K48 v1 p_at p_sign → EV (ax_GG X) m_X9_readWord (po_X9_readWord p_bytes p_length p_place p_number p_fault Q) (48, [some (.ref 0), some (.int v1), none, none, none], [], (w_p p_bytes p_length p_at p_sign p_place p_number p_fault), [], 0)) : ∀ (v1 : Int32) (p_at : Int32) (p_sign : Int32), wp_X9_readWord_154 N p_bytes p_length p_place K48 Q  v1 p_at p_sign → EV (ax_GG X) m_X9_readWord (po_X9_readWord p_bytes p_length p_place p_number p_fault Q) (154, [some (.ref 0), some (.int v1), none, none, none], [], (w_p p_bytes p_length p_at p_sign p_place p_number p_fault), [], 0) := by
  intro v1 p_at p_sign h
  unfold wp_X9_readWord_154 at h
  refine EV.seg (c' := (48, [some (.ref 0), some (.int (v1 + 1)), none, none, none], [], (w_p p_bytes p_length p_at p_sign p_place p_number p_fault), [], 0)) 2 rfl trivial ?_
  exact hK48 _ _ _ h
theorem ok_X9_readWord_131 {X : Nat × (Nat → Int32)} {N : Nat} {p_bytes : Nat → Int32} {p_length : Int32} {p_place : Int32} {p_number : Int32} {p_fault : Int32} {K72 : (Int32) → (Int32) → (Int32) → (Int32) → (Int32) → Prop} {Q : (Int32) → (Int32) → Prop} (hK72 : ∀ (v1 : Int32) (v2 : Int32) (v3 : Int32) (p_at : Int32) (p_sign : Int32), K72 v1 v2 v3 p_at p_sign → EV (ax_GG X) m_X9_readWord (po_X9_readWord p_bytes p_length p_place p_number p_fault Q) (72, [some (.ref 0), some (.int v1), some (.int v2), some (.int v3), none], [], (w_p p_bytes p_length p_at p_sign p_place p_number p_fault), [], 0)) : ∀ (v1 : Int32) (v3 : Int32) (s0 : Int32) (s1 : Int32) (p_at : Int32) (p_sign : Int32), wp_X9_readWord_131 N p_bytes p_length p_place K72 Q  v1 v3 s0 s1 p_at p_sign → EV (ax_GG X) m_X9_readWord (po_X9_readWord p_bytes p_length p_place p_number p_fault Q) (131, [some (.ref 0), some (.int v1), none, some (.int v3), none], [.int s0, .int s1], (w_p p_bytes p_length p_at p_sign p_place p_number p_fault), [], 0) := by
  intro v1 v3 s0 s1 p_at p_sign h
  unfold wp_X9_readWord_131 at h
  refine EV.seg (c' := (133, [some (.ref 0), some (.int v1), some (.int (s1 + s0)), some (.int v3), none], [], (w_p p_bytes p_length p_at p_sign p_place p_number p_fault), [], 0)) 2 rfl trivial ?_
  obtain ⟨x2, e_x2⟩ : ∃ z : Int32, z = s1 + s0 := ⟨_, rfl⟩
  have h := h x2 e_x2
  rw [← e_x2]
  refine EV.seg (c' := (72, [some (.ref 0), some (.int v1), some (.int x2), some (.int (v3 + 1)), none], [], (w_p p_bytes p_length p_at p_sign p_place p_number p_fault), [], 0)) 2 rfl trivial ?_
  exact hK72 _ _ _ _ _ h
theorem ok_X9_readWord_107 {X : Nat × (Nat → Int32)} {N : Nat} {p_bytes : Nat → Int32} {p_length : Int32} {p_place : Int32} {p_number : Int32} {p_fault : Int32} {K72 : (Int32) → (Int32) → (Int32) → (Int32) → (Int32) → Prop} {Q : (Int32) → (Int32) → Prop} (hK72 : ∀ (v1 : Int32) (v2 : Int32) (v3 : Int32) (p_at : Int32) (p_sign : Int32), K72 v1 v2 v3 p_at p_sign → EV (ax_GG X) m_X9_readWord (po_X9_readWord p_bytes p_length p_place p_number p_fault Q) (72, [some (.ref 0), some (.int v1), some (.int v2), some (.int v3), none], [], (w_p p_bytes p_length p_at p_sign p_place p_number p_fault), [], 0)) : ∀ (v1 : Int32) (v2 : Int32) (v3 : Int32) (s0 : Int32) (p_at : Int32) (p_sign : Int32), wp_X9_readWord_107 N p_bytes p_length p_place K72 Q  v1 v2 v3 s0 p_at p_sign → EV (ax_GG X) m_X9_readWord (po_X9_readWord p_bytes p_length p_place p_number p_fault Q) (107, [some (.ref 0), some (.int v1), some (.int v2), some (.int v3), none], [.int s0], (w_p p_bytes p_length p_at p_sign p_place p_number p_fault), [], 0) := by
  intro v1 v2 v3 s0 p_at p_sign h
  unfold wp_X9_readWord_107 at h
  obtain ⟨g1, h⟩ := h
  refine EV.seg (c' := (123, [some (.ref 0), some (.int v1), some (.int v2), some (.int v3), some (.int s0)], [.int s0, .int (ax_wd ax_txb ((v1 * (6 : Int32)) + v3).toNatClampNeg), .int v2], (w_p p_bytes p_length p_at p_sign p_place p_number p_fault), [], 0)) 10 rfl (And.intro g1 trivial) ?_
  refine EV.br (c1 := (126, [some (.ref 0), some (.int v1), some (.int v2), some (.int v3), some (.int s0)], [.int v2], (w_p p_bytes p_length p_at p_sign p_place p_number p_fault), [], 0)) (c2 := (130, [some (.ref 0), some (.int v1), some (.int v2), some (.int v3), some (.int s0)], [.int v2], (w_p p_bytes p_length p_at p_sign p_place p_number p_fault), [], 0)) rfl (fun hc => ?_) (fun hc => ?_)
  · have h := h.1 hc
    refine EV.seg (c' := (131, [some (.ref 0), some (.int v1), some (.int v2), some (.int v3), some (.int s0)], [.int (1 : Int32), .int v2], (w_p p_bytes p_length p_at p_sign p_place p_number p_fault), [], 0)) 2 rfl trivial ?_
    refine EV.mask (ls' := [some (.ref 0), some (.int v1), none, some (.int v3), none]) rfl rfl ?_
    exact (ok_X9_readWord_131 hK72) _ _ _ _ _ _ h
  · have h := h.2 hc
    refine EV.seg (c' := (131, [some (.ref 0), some (.int v1), some (.int v2), some (.int v3), some (.int s0)], [.int (0 : Int32), .int v2], (w_p p_bytes p_length p_at p_sign p_place p_number p_fault), [], 0)) 1 rfl trivial ?_
    refine EV.mask (ls' := [some (.ref 0), some (.int v1), none, some (.int v3), none]) rfl rfl ?_
    exact (ok_X9_readWord_131 hK72) _ _ _ _ _ _ h
theorem ok_X9_readWord_72 {X : Nat × (Nat → Int32)} {N : Nat} {p_bytes : Nat → Int32} {p_length : Int32} {p_place : Int32} {p_number : Int32} {p_fault : Int32} {K48 : (Int32) → (Int32) → (Int32) → Prop} {Q : (Int32) → (Int32) → Prop} (hK48 : ∀ (v1 : Int32) (p_at : Int32) (p_sign : Int32), K48 v1 p_at p_sign → EV (ax_GG X) m_X9_readWord (po_X9_readWord p_bytes p_length p_place p_number p_fault Q) (48, [some (.ref 0), some (.int v1), none, none, none], [], (w_p p_bytes p_length p_at p_sign p_place p_number p_fault), [], 0)) : ∀ (n : Nat) (v1 : Int32) (v2 : Int32) (v3 : Int32) (p_at : Int32) (p_sign : Int32), wp_X9_readWord_72 N p_bytes p_length p_place K48 Q n v1 v2 v3 p_at p_sign → EV (ax_GG X) m_X9_readWord (po_X9_readWord p_bytes p_length p_place p_number p_fault Q) (72, [some (.ref 0), some (.int v1), some (.int v2), some (.int v3), none], [], (w_p p_bytes p_length p_at p_sign p_place p_number p_fault), [], 0) := by
  intro n
  induction n with
  | zero => intro _ _ _ _ _ h; exact h.elim
  | succ n ih =>
    intro v1 v2 v3 p_at p_sign h
    unfold wp_X9_readWord_72 at h
    refine EV.seg (c' := (75, [some (.ref 0), some (.int v1), some (.int v2), some (.int v3), none], [.int (6 : Int32), .int v3], (w_p p_bytes p_length p_at p_sign p_place p_number p_fault), [], 0)) 2 rfl trivial ?_
    refine EV.br (c1 := (139, [some (.ref 0), some (.int v1), some (.int v2), some (.int v3), none], [], (w_p p_bytes p_length p_at p_sign p_place p_number p_fault), [], 0)) (c2 := (78, [some (.ref 0), some (.int v1), some (.int v2), some (.int v3), none], [], (w_p p_bytes p_length p_at p_sign p_place p_number p_fault), [], 0)) rfl (fun hc => ?_) (fun hc => ?_)
    · have h := h.1 hc
      refine EV.seg (c' := (142, [some (.ref 0), some (.int v1), some (.int v2), some (.int v3), none], [.int (6 : Int32), .int v2], (w_p p_bytes p_length p_at p_sign p_place p_number p_fault), [], 0)) 2 rfl trivial ?_
      refine EV.br (c1 := (145, [some (.ref 0), some (.int v1), some (.int v2), some (.int v3), none], [], (w_p p_bytes p_length p_at p_sign p_place p_number p_fault), [], 0)) (c2 := (154, [some (.ref 0), some (.int v1), some (.int v2), some (.int v3), none], [], (w_p p_bytes p_length p_at p_sign p_place p_number p_fault), [], 0)) rfl (fun hc => ?_) (fun hc => ?_)
      · have h := h.1 hc
        refine EV.seg (c' := (154, [some (.ref 0), some (.int v1), some (.int v2), some (.int v3), none], [], (w_p p_bytes p_length p_at ((300 : Int32) + v1) p_place p_number p_fault), [], 0)) 5 rfl trivial ?_
        refine EV.mask (ls' := [some (.ref 0), some (.int v1), none, none, none]) rfl rfl ?_
        exact (ok_X9_readWord_154 hK48) _ _ _ h
      · have h := h.2 hc
        refine EV.mask (ls' := [some (.ref 0), some (.int v1), none, none, none]) rfl rfl ?_
        exact (ok_X9_readWord_154 hK48) _ _ _ h
    · have h := h.2 hc
      refine EV.seg (c' := (88, [some (.ref 0), some (.int v1), some (.int v2), some (.int v3), none], [.int p_at, .int (p_place + v3)], (w_p p_bytes p_length p_at p_sign p_place p_number p_fault), [], 0)) 6 rfl trivial ?_
      refine EV.br (c1 := (105, [some (.ref 0), some (.int v1), some (.int v2), some (.int v3), none], [], (w_p p_bytes p_length p_at p_sign p_place p_number p_fault), [], 0)) (c2 := (91, [some (.ref 0), some (.int v1), some (.int v2), some (.int v3), none], [], (w_p p_bytes p_length p_at p_sign p_place p_number p_fault), [], 0)) rfl (fun hc => ?_) (fun hc => ?_)
      · have h := h.1 hc
        refine EV.seg (c' := (107, [some (.ref 0), some (.int v1), some (.int v2), some (.int v3), none], [.int (32 : Int32)], (w_p p_bytes p_length p_at p_sign p_place p_number p_fault), [], 0)) 1 rfl trivial ?_
        exact (ok_X9_readWord_107 ih) _ _ _ _ _ _ h
      · have h := h.2 hc
        obtain ⟨g1, h⟩ := h
        refine EV.seg (c' := (107, [some (.ref 0), some (.int v1), some (.int v2), some (.int v3), none], [.int (p_bytes (p_place + v3).toNatClampNeg)], (w_p p_bytes p_length p_at p_sign p_place p_number p_fault), [], 0)) 8 rfl (And.intro g1 trivial) ?_
        exact (ok_X9_readWord_107 ih) _ _ _ _ _ _ h
theorem ok_X9_readWord_48 {X : Nat × (Nat → Int32)} {N : Nat} {p_bytes : Nat → Int32} {p_length : Int32} {p_place : Int32} {p_number : Int32} {p_fault : Int32}  {Q : (Int32) → (Int32) → Prop}  : ∀ (n : Nat) (v1 : Int32) (p_at : Int32) (p_sign : Int32), wp_X9_readWord_48 N p_bytes p_length p_place  Q n v1 p_at p_sign → EV (ax_GG X) m_X9_readWord (po_X9_readWord p_bytes p_length p_place p_number p_fault Q) (48, [some (.ref 0), some (.int v1), none, none, none], [], (w_p p_bytes p_length p_at p_sign p_place p_number p_fault), [], 0) := by
  intro n
  induction n with
  | zero => intro _ _ _ h; exact h.elim
  | succ n ih =>
    intro v1 p_at p_sign h
    unfold wp_X9_readWord_48 at h
    refine EV.seg (c' := (51, [some (.ref 0), some (.int v1), none, none, none], [.int (15 : Int32), .int v1], (w_p p_bytes p_length p_at p_sign p_place p_number p_fault), [], 0)) 2 rfl trivial ?_
    refine EV.br (c1 := (160, [some (.ref 0), some (.int v1), none, none, none], [], (w_p p_bytes p_length p_at p_sign p_place p_number p_fault), [], 0)) (c2 := (54, [some (.ref 0), some (.int v1), none, none, none], [], (w_p p_bytes p_length p_at p_sign p_place p_number p_fault), [], 0)) rfl (fun hc => ?_) (fun hc => ?_)
    · have h := h.1 hc
      refine EV.mask (ls' := [none, none, none, none, none]) rfl rfl ?_
      exact (ok_X9_readWord_160 ) _ _ h
    · have h := h.2 hc
      refine EV.seg (c' := (65, [some (.ref 0), some (.int v1), none, none, none], [.int (6 : Int32), .int (p_at - p_place)], (w_p p_bytes p_length p_at p_sign p_place p_number p_fault), [], 0)) 6 rfl trivial ?_
      refine EV.br (c1 := (160, [some (.ref 0), some (.int v1), none, none, none], [], (w_p p_bytes p_length p_at p_sign p_place p_number p_fault), [], 0)) (c2 := (68, [some (.ref 0), some (.int v1), none, none, none], [], (w_p p_bytes p_length p_at p_sign p_place p_number p_fault), [], 0)) rfl (fun hc => ?_) (fun hc => ?_)
      · have h := h.1 hc
        refine EV.mask (ls' := [none, none, none, none, none]) rfl rfl ?_
        exact (ok_X9_readWord_160 ) _ _ h
      · have h := h.2 hc
        refine EV.seg (c' := (72, [some (.ref 0), some (.int v1), some (.int (0 : Int32)), some (.int (0 : Int32)), none], [], (w_p p_bytes p_length p_at p_sign p_place p_number p_fault), [], 0)) 4 rfl trivial ?_
        exact (ok_X9_readWord_72 ih N) _ _ _ _ _ h
theorem ok_X9_readWord_39 {X : Nat × (Nat → Int32)} {N : Nat} {p_bytes : Nat → Int32} {p_length : Int32} {p_place : Int32} {p_number : Int32} {p_fault : Int32}  {Q : (Int32) → (Int32) → Prop}  : ∀ (p_at : Int32) (p_sign : Int32), wp_X9_readWord_39 N p_bytes p_length p_place  Q  p_at p_sign → EV (ax_GG X) m_X9_readWord (po_X9_readWord p_bytes p_length p_place p_number p_fault Q) (39, [some (.ref 0), none, none, none, none], [], (w_p p_bytes p_length p_at p_sign p_place p_number p_fault), [], 0) := by
  intro p_at p_sign h
  unfold wp_X9_readWord_39 at h
  refine EV.seg (c' := (48, [some (.ref 0), some (.int (0 : Int32)), none, none, none], [], (w_p p_bytes p_length p_at (260 : Int32) p_place p_number p_fault), [], 0)) 5 rfl trivial ?_
  exact (ok_X9_readWord_48  N) _ _ _ h
theorem ok_X9_readWord_0 {X : Nat × (Nat → Int32)} {N : Nat} {p_bytes : Nat → Int32} {p_length : Int32} {p_place : Int32} {p_number : Int32} {p_fault : Int32}  {Q : (Int32) → (Int32) → Prop}  : ∀ (n : Nat) (p_at : Int32) (p_sign : Int32), wp_X9_readWord_0 N p_bytes p_length p_place  Q n p_at p_sign → EV (ax_GG X) m_X9_readWord (po_X9_readWord p_bytes p_length p_place p_number p_fault Q) (0, [some (.ref 0), none, none, none, none], [], (w_p p_bytes p_length p_at p_sign p_place p_number p_fault), [], 0) := by
  intro n
  induction n with
  | zero => intro _ _ h; exact h.elim
  | succ n ih =>
    intro p_at p_sign h
    unfold wp_X9_readWord_0 at h
    refine EV.seg (c' := (8, [some (.ref 0), none, none, none, none], [.int p_length, .int p_at], (w_p p_bytes p_length p_at p_sign p_place p_number p_fault), [], 0)) 4 rfl trivial ?_
    refine EV.br (c1 := (39, [some (.ref 0), none, none, none, none], [], (w_p p_bytes p_length p_at p_sign p_place p_number p_fault), [], 0)) (c2 := (11, [some (.ref 0), none, none, none, none], [], (w_p p_bytes p_length p_at p_sign p_place p_number p_fault), [], 0)) rfl (fun hc => ?_) (fun hc => ?_)
    · have h := h.1 hc
      exact (ok_X9_readWord_39 ) _ _ h
    · have h := h.2 hc
      obtain ⟨g1, h⟩ := h
      refine EV.seg (c' := (20, [some (.ref 0), none, none, none, none], [.int (p_bytes p_at.toNatClampNeg)], (w_p p_bytes p_length p_at p_sign p_place p_number p_fault), [], 0)) 5 rfl (And.intro g1 trivial) ?_
      refine EV.call (M' := m_X9_isLetter) rfl rfl (Nat.le_of_ble_eq_true rfl) (em_X9_isLetter  h) (fun out ho => ?_)
      obtain ⟨r1, rfl, h⟩ := ho
      show EV _ _ _ (23, [some (.ref 0), none, none, none, none], [.int r1], (w_p p_bytes p_length p_at p_sign p_place p_number p_fault), [], 0)
      refine EV.br (c1 := (39, [some (.ref 0), none, none, none, none], [], (w_p p_bytes p_length p_at p_sign p_place p_number p_fault), [], 0)) (c2 := (26, [some (.ref 0), none, none, none, none], [], (w_p p_bytes p_length p_at p_sign p_place p_number p_fault), [], 0)) rfl (fun hc => ?_) (fun hc => ?_)
      · have h := h.1 hc
        exact (ok_X9_readWord_39 ) _ _ h
      · have h := h.2 hc
        refine EV.seg (c' := (0, [some (.ref 0), none, none, none, none], [], (w_p p_bytes p_length (p_at + (1 : Int32)) p_sign p_place p_number p_fault), [], 0)) 7 rfl trivial ?_
        exact ih _ _ h
theorem em_X9_readWord {X : Nat × (Nat → Int32)} {N : Nat} {p_bytes : Nat → Int32} {p_length : Int32} {p_place : Int32} {p_number : Int32} {p_fault : Int32} {p_at : Int32} {p_sign : Int32} {Q : (Int32) → (Int32) → Prop} (h : wp_X9_readWord N p_bytes p_length p_place Q p_at p_sign) : EM (ax_GG X) m_X9_readWord [.ref 0] (w_p p_bytes p_length p_at p_sign p_place p_number p_fault) (po_X9_readWord p_bytes p_length p_place p_number p_fault Q) := by
  unfold wp_X9_readWord at h
  show EV _ _ _ (0, [some (.ref 0), none, none, none, none], [], (w_p p_bytes p_length p_at p_sign p_place p_number p_fault), [], 0)
  exact (ok_X9_readWord_0  N) _ _ h
abbrev po_X9_readSign (p_bytes : Nat → Int32) (p_length : Int32) (p_fault : Int32) (Q : (Int32) → (Int32) → (Int32) → (Int32) → Prop) : ax_E → Prop := fun out => ∃ (p_at' : Int32) (p_sign' : Int32) (p_place' : Int32) (p_number' : Int32), out = (none, (w_p p_bytes p_length p_at' p_sign' p_place' p_number' p_fault), [], 0) ∧ Q p_at' p_sign' p_place' p_number'
theorem ok_X9_readSign_115 {X : Nat × (Nat → Int32)} {N : Nat} {p_bytes : Nat → Int32} {p_length : Int32} {p_fault : Int32}  {Q : (Int32) → (Int32) → (Int32) → (Int32) → Prop}  : ∀ (p_at : Int32) (p_sign : Int32) (p_place : Int32) (p_number : Int32), wp_X9_readSign_115 N p_bytes p_length  Q  p_at p_sign p_place p_number → EV (ax_GG X) m_X9_readSign (po_X9_readSign p_bytes p_length p_fault Q) (115, [none], [], (w_p p_bytes p_length p_at p_sign p_place p_number p_fault), [], 0) := by
  intro p_at p_sign p_place p_number h
  unfold wp_X9_readSign_115 at h
  exact EV.ret rfl trivial ⟨_, _, _, _, rfl, h⟩
theorem ok_X9_readSign_38 {X : Nat × (Nat → Int32)} {N : Nat} {p_bytes : Nat → Int32} {p_length : Int32} {p_fault : Int32}  {Q : (Int32) → (Int32) → (Int32) → (Int32) → Prop}  : ∀ (p_at : Int32) (p_sign : Int32) (p_place : Int32) (p_number : Int32), wp_X9_readSign_38 N p_bytes p_length  Q  p_at p_sign p_place p_number → EV (ax_GG X) m_X9_readSign (po_X9_readSign p_bytes p_length p_fault Q) (38, [some (.ref 0)], [], (w_p p_bytes p_length p_at p_sign p_place p_number p_fault), [], 0) := by
  intro p_at p_sign p_place p_number h
  unfold wp_X9_readSign_38 at h
  refine EV.seg (c' := (54, [some (.ref 0)], [.int p_length, .int p_at], (w_p p_bytes p_length p_at p_sign p_at p_number p_fault), [], 0)) 8 rfl trivial ?_
  refine EV.br (c1 := (67, [some (.ref 0)], [], (w_p p_bytes p_length p_at p_sign p_at p_number p_fault), [], 0)) (c2 := (57, [some (.ref 0)], [], (w_p p_bytes p_length p_at p_sign p_at p_number p_fault), [], 0)) rfl (fun hc => ?_) (fun hc => ?_)
  · have h := h.1 hc
    obtain ⟨g1, h⟩ := h
    refine EV.seg (c' := (76, [some (.ref 0)], [.int (p_bytes p_at.toNatClampNeg)], (w_p p_bytes p_length p_at p_sign p_at p_number p_fault), [], 0)) 5 rfl (And.intro g1 trivial) ?_
    refine EV.call (M' := m_X9_isLetter) rfl rfl (Nat.le_of_ble_eq_true rfl) (em_X9_isLetter  h) (fun out ho => ?_)
    obtain ⟨r1, rfl, h⟩ := ho
    show EV _ _ _ (79, [some (.ref 0)], [.int r1], (w_p p_bytes p_length p_at p_sign p_at p_number p_fault), [], 0)
    refine EV.br (c1 := (89, [some (.ref 0)], [], (w_p p_bytes p_length p_at p_sign p_at p_number p_fault), [], 0)) (c2 := (82, [some (.ref 0)], [], (w_p p_bytes p_length p_at p_sign p_at p_number p_fault), [], 0)) rfl (fun hc => ?_) (fun hc => ?_)
    · have h := h.1 hc
      obtain ⟨g1, h⟩ := h
      refine EV.seg (c' := (98, [some (.ref 0)], [.int (p_bytes p_at.toNatClampNeg)], (w_p p_bytes p_length p_at p_sign p_at p_number p_fault), [], 0)) 5 rfl (And.intro g1 trivial) ?_
      refine EV.call (M' := m_X9_isDigit) rfl rfl (Nat.le_of_ble_eq_true rfl) (em_X9_isDigit  h) (fun out ho => ?_)
      obtain ⟨r2, rfl, h⟩ := ho
      show EV _ _ _ (101, [some (.ref 0)], [.int r2], (w_p p_bytes p_length p_at p_sign p_at p_number p_fault), [], 0)
      refine EV.br (c1 := (111, [some (.ref 0)], [], (w_p p_bytes p_length p_at p_sign p_at p_number p_fault), [], 0)) (c2 := (104, [some (.ref 0)], [], (w_p p_bytes p_length p_at p_sign p_at p_number p_fault), [], 0)) rfl (fun hc => ?_) (fun hc => ?_)
      · have h := h.1 hc
        refine EV.seg (c' := (112, [some (.ref 0)], [.ref 0], (w_p p_bytes p_length p_at p_sign p_at p_number p_fault), [], 0)) 1 rfl trivial ?_
        refine EV.call (M' := m_X9_readMark) rfl rfl (Nat.le_of_ble_eq_true rfl) (em_X9_readMark (p_bytes := p_bytes) (p_length := p_length) (p_place := p_at) (p_number := p_number) (p_fault := p_fault) (p_at := p_at) (p_sign := p_sign) h) (fun out ho => ?_)
        obtain ⟨m3, m4, rfl, h⟩ := ho
        show EV _ _ _ (115, [some (.ref 0)], [], (w_p p_bytes p_length m3 m4 p_at p_number p_fault), [], 0)
        refine EV.mask (ls' := [none]) rfl rfl ?_
        exact (ok_X9_readSign_115 ) _ _ _ _ h
      · have h := h.2 hc
        refine EV.seg (c' := (105, [some (.ref 0)], [.ref 0], (w_p p_bytes p_length p_at p_sign p_at p_number p_fault), [], 0)) 1 rfl trivial ?_
        refine EV.call (M' := m_X9_readNumber) rfl rfl (Nat.le_of_ble_eq_true rfl) (em_X9_readNumber (p_bytes := p_bytes) (p_length := p_length) (p_place := p_at) (p_fault := p_fault) (p_at := p_at) (p_sign := p_sign) (p_number := p_number) h) (fun out ho => ?_)
        obtain ⟨m5, m6, m7, rfl, h⟩ := ho
        show EV _ _ _ (108, [some (.ref 0)], [], (w_p p_bytes p_length m5 m6 p_at m7 p_fault), [], 0)
        refine EV.seg (c' := (115, [some (.ref 0)], [], (w_p p_bytes p_length m5 m6 p_at m7 p_fault), [], 0)) 1 rfl trivial ?_
        refine EV.mask (ls' := [none]) rfl rfl ?_
        exact (ok_X9_readSign_115 ) _ _ _ _ h
    · have h := h.2 hc
      refine EV.seg (c' := (83, [some (.ref 0)], [.ref 0], (w_p p_bytes p_length p_at p_sign p_at p_number p_fault), [], 0)) 1 rfl trivial ?_
      refine EV.call (M' := m_X9_readWord) rfl rfl (Nat.le_of_ble_eq_true rfl) (em_X9_readWord (p_bytes := p_bytes) (p_length := p_length) (p_place := p_at) (p_number := p_number) (p_fault := p_fault) (p_at := p_at) (p_sign := p_sign) h) (fun out ho => ?_)
      obtain ⟨m8, m9, rfl, h⟩ := ho
      show EV _ _ _ (86, [some (.ref 0)], [], (w_p p_bytes p_length m8 m9 p_at p_number p_fault), [], 0)
      refine EV.seg (c' := (115, [some (.ref 0)], [], (w_p p_bytes p_length m8 m9 p_at p_number p_fault), [], 0)) 1 rfl trivial ?_
      refine EV.mask (ls' := [none]) rfl rfl ?_
      exact (ok_X9_readSign_115 ) _ _ _ _ h
  · have h := h.2 hc
    refine EV.seg (c' := (115, [some (.ref 0)], [], (w_p p_bytes p_length p_at (256 : Int32) p_at p_number p_fault), [], 0)) 4 rfl trivial ?_
    refine EV.mask (ls' := [none]) rfl rfl ?_
    exact (ok_X9_readSign_115 ) _ _ _ _ h
theorem ok_X9_readSign_0 {X : Nat × (Nat → Int32)} {N : Nat} {p_bytes : Nat → Int32} {p_length : Int32} {p_fault : Int32}  {Q : (Int32) → (Int32) → (Int32) → (Int32) → Prop}  : ∀ (n : Nat) (p_at : Int32) (p_sign : Int32) (p_place : Int32) (p_number : Int32), wp_X9_readSign_0 N p_bytes p_length  Q n p_at p_sign p_place p_number → EV (ax_GG X) m_X9_readSign (po_X9_readSign p_bytes p_length p_fault Q) (0, [some (.ref 0)], [], (w_p p_bytes p_length p_at p_sign p_place p_number p_fault), [], 0) := by
  intro n
  induction n with
  | zero => intro _ _ _ _ h; exact h.elim
  | succ n ih =>
    intro p_at p_sign p_place p_number h
    unfold wp_X9_readSign_0 at h
    refine EV.seg (c' := (8, [some (.ref 0)], [.int p_length, .int p_at], (w_p p_bytes p_length p_at p_sign p_place p_number p_fault), [], 0)) 4 rfl trivial ?_
    refine EV.br (c1 := (38, [some (.ref 0)], [], (w_p p_bytes p_length p_at p_sign p_place p_number p_fault), [], 0)) (c2 := (11, [some (.ref 0)], [], (w_p p_bytes p_length p_at p_sign p_place p_number p_fault), [], 0)) rfl (fun hc => ?_) (fun hc => ?_)
    · have h := h.1 hc
      exact (ok_X9_readSign_38 ) _ _ _ _ h
    · have h := h.2 hc
      obtain ⟨g1, h⟩ := h
      refine EV.seg (c' := (22, [some (.ref 0)], [.int (32 : Int32), .int (p_bytes p_at.toNatClampNeg)], (w_p p_bytes p_length p_at p_sign p_place p_number p_fault), [], 0)) 6 rfl (And.intro g1 trivial) ?_
      refine EV.br (c1 := (25, [some (.ref 0)], [], (w_p p_bytes p_length p_at p_sign p_place p_number p_fault), [], 0)) (c2 := (38, [some (.ref 0)], [], (w_p p_bytes p_length p_at p_sign p_place p_number p_fault), [], 0)) rfl (fun hc => ?_) (fun hc => ?_)
      · have h := h.1 hc
        refine EV.seg (c' := (0, [some (.ref 0)], [], (w_p p_bytes p_length (p_at + (1 : Int32)) p_sign p_place p_number p_fault), [], 0)) 7 rfl trivial ?_
        exact ih _ _ _ _ h
      · have h := h.2 hc
        exact (ok_X9_readSign_38 ) _ _ _ _ h
theorem em_X9_readSign {X : Nat × (Nat → Int32)} {N : Nat} {p_bytes : Nat → Int32} {p_length : Int32} {p_fault : Int32} {p_at : Int32} {p_sign : Int32} {p_place : Int32} {p_number : Int32} {Q : (Int32) → (Int32) → (Int32) → (Int32) → Prop} (h : wp_X9_readSign N p_bytes p_length Q p_at p_sign p_place p_number) : EM (ax_GG X) m_X9_readSign [.ref 0] (w_p p_bytes p_length p_at p_sign p_place p_number p_fault) (po_X9_readSign p_bytes p_length p_fault Q) := by
  unfold wp_X9_readSign at h
  show EV _ _ _ (0, [some (.ref 0)], [], (w_p p_bytes p_length p_at p_sign p_place p_number p_fault), [], 0)
  exact (ok_X9_readSign_0  N) _ _ _ _ h
abbrev po_X9_fail (p_bytes : Nat → Int32) (p_length : Int32) (p_at : Int32) (p_sign : Int32) (p_place : Int32) (p_number : Int32) (Q : (Int32) → Prop) : ax_E → Prop := fun out => ∃ (p_fault' : Int32), out = (none, (w_p p_bytes p_length p_at p_sign p_place p_number p_fault'), [], 0) ∧ Q p_fault'
theorem em_X9_fail {X : Nat × (Nat → Int32)} {N : Nat} {p_bytes : Nat → Int32} {p_length : Int32} {p_at : Int32} {p_sign : Int32} {p_place : Int32} {p_number : Int32} {p0 : Int32} {p_fault : Int32} {Q : (Int32) → Prop} (h : wp_X9_fail N p_place Q p0 p_fault) : EM (ax_GG X) m_X9_fail [.ref 0, .int p0] (w_p p_bytes p_length p_at p_sign p_place p_number p_fault) (po_X9_fail p_bytes p_length p_at p_sign p_place p_number Q) := by
  unfold wp_X9_fail at h
  show EV _ _ _ (0, [some (.ref 0), some (.int p0)], [], (w_p p_bytes p_length p_at p_sign p_place p_number p_fault), [], 0)
  refine EV.seg (c' := (15, [some (.ref 0), some (.int p0)], [], (w_p p_bytes p_length p_at p_sign p_place p_number (((1 : Int32) + ((8 : Int32) * p_place)) + p0)), [], 0)) 10 rfl trivial ?_
  exact EV.ret rfl trivial ⟨_, rfl, h⟩
abbrev po_X2_readNumber (p_bytes : Nat → Int32) (p_length : Int32) (l_told : Int32) (l_spring : Int32) (l_many : Int32) (l_back : Nat → Int32) (l_leap : Nat → Int32) (l_breath : Nat → Int32) (Q : Int32 → (Int32) → (Int32) → (Int32) → (Int32) → (Int32) → Prop) : ax_E → Prop := fun out => ∃ (r : Int32) (p_at' : Int32) (p_sign' : Int32) (p_place' : Int32) (p_number' : Int32) (p_fault' : Int32), out = (some (.int r), (w_zpl (.ref 1) (.ref 3) p_bytes p_length p_at' p_sign' p_place' p_number' p_fault' l_told l_spring l_many l_back l_leap l_breath), [], 0) ∧ Q r p_at' p_sign' p_place' p_number' p_fault'
theorem ok_X2_readNumber_64 {X : Nat × (Nat → Int32)} {N : Nat} {p_bytes : Nat → Int32} {p_length : Int32} {l_told : Int32} {l_spring : Int32} {l_many : Int32} {l_back : Nat → Int32} {l_leap : Nat → Int32} {l_breath : Nat → Int32}  {Q : Int32 → (Int32) → (Int32) → (Int32) → (Int32) → (Int32) → Prop}  : ∀ (v1 : Int32) (p_at : Int32) (p_sign : Int32) (p_place : Int32) (p_number : Int32) (p_fault : Int32), wp_X2_readNumber_64 N p_bytes p_length  Q  v1 p_at p_sign p_place p_number p_fault → EV (ax_GG X) m_X2_readNumber (po_X2_readNumber p_bytes p_length l_told l_spring l_many l_back l_leap l_breath Q) (64, [some (.ref 0), some (.int v1), none], [], (w_zpl (.ref 1) (.ref 3) p_bytes p_length p_at p_sign p_place p_number p_fault l_told l_spring l_many l_back l_leap l_breath), [], 0) := by
  intro v1 p_at p_sign p_place p_number p_fault h
  unfold wp_X2_readNumber_64 at h
  refine EV.seg (c' := (69, [some (.ref 0), some (.int v1), none], [.int (1 : Int32), .ref 1], (w_zpl (.ref 1) (.ref 3) p_bytes p_length p_at p_sign p_place p_number p_fault l_told l_spring l_many l_back l_leap l_breath), [], 0)) 3 rfl trivial ?_
  refine EV.callL (M' := m_X9_fail) (L := [1, 2]) rfl rfl ⟨rfl, Nat.le_of_ble_eq_true rfl⟩ rfl rfl (em_X9_fail (p_bytes := p_bytes) (p_length := p_length) (p_at := p_at) (p_sign := p_sign) (p_place := p_place) (p_number := p_number) (p_fault := p_fault) h) (fun out ho => ?_)
  obtain ⟨m6, rfl, h⟩ := ho
  show EV _ _ _ (72, [some (.ref 0), some (.int v1), none], [], (w_zpl (.ref 1) (.ref 3) p_bytes p_length p_at p_sign p_place p_number m6 l_told l_spring l_many l_back l_leap l_breath), [], 0)
  refine EV.seg (c' := (73, [some (.ref 0), some (.int v1), none], [.int v1], (w_zpl (.ref 1) (.ref 3) p_bytes p_length p_at p_sign p_place p_number m6 l_told l_spring l_many l_back l_leap l_breath), [], 0)) 1 rfl trivial ?_
  exact EV.ret rfl trivial ⟨_, _, _, _, _, _, rfl, h⟩
theorem em_X2_readNumber {X : Nat × (Nat → Int32)} {N : Nat} {p_bytes : Nat → Int32} {p_length : Int32} {l_told : Int32} {l_spring : Int32} {l_many : Int32} {l_back : Nat → Int32} {l_leap : Nat → Int32} {l_breath : Nat → Int32} {p0 : Int32} {p1 : Int32} {p_at : Int32} {p_sign : Int32} {p_place : Int32} {p_number : Int32} {p_fault : Int32} {Q : Int32 → (Int32) → (Int32) → (Int32) → (Int32) → (Int32) → Prop} (h : wp_X2_readNumber N p_bytes p_length Q p0 p1 p_at p_sign p_place p_number p_fault) : EM (ax_GG X) m_X2_readNumber [.ref 0, .int p0, .int p1] (w_zpl (.ref 1) (.ref 3) p_bytes p_length p_at p_sign p_place p_number p_fault l_told l_spring l_many l_back l_leap l_breath) (po_X2_readNumber p_bytes p_length l_told l_spring l_many l_back l_leap l_breath Q) := by
  unfold wp_X2_readNumber at h
  show EV _ _ _ (0, [some (.ref 0), some (.int p0), some (.int p1)], [], (w_zpl (.ref 1) (.ref 3) p_bytes p_length p_at p_sign p_place p_number p_fault l_told l_spring l_many l_back l_leap l_breath), [], 0)
  refine EV.seg (c' := (7, [some (.ref 0), some (.int p0), some (.int p1)], [.int p_fault], (w_zpl (.ref 1) (.ref 3) p_bytes p_length p_at p_sign p_place p_number p_fault l_told l_spring l_many l_back l_leap l_breath), [], 0)) 3 rfl trivial ?_
  refine EV.br (c1 := (12, [some (.ref 0), some (.int p0), some (.int p1)], [], (w_zpl (.ref 1) (.ref 3) p_bytes p_length p_at p_sign p_place p_number p_fault l_told l_spring l_many l_back l_leap l_breath), [], 0)) (c2 := (10, [some (.ref 0), some (.int p0), some (.int p1)], [], (w_zpl (.ref 1) (.ref 3) p_bytes p_length p_at p_sign p_place p_number p_fault l_told l_spring l_many l_back l_leap l_breath), [], 0)) rfl (fun hc => ?_) (fun hc => ?_)
  · have h := h.1 hc
    refine EV.seg (c' := (16, [some (.ref 0), some (.int p0), some (.int p1)], [.ref 1], (w_zpl (.ref 1) (.ref 3) p_bytes p_length p_at p_sign p_place p_number p_fault l_told l_spring l_many l_back l_leap l_breath), [], 0)) 2 rfl trivial ?_
    refine EV.callL (M' := m_X9_readSign) (L := [1, 2]) rfl rfl ⟨rfl, Nat.le_of_ble_eq_true rfl⟩ rfl rfl (em_X9_readSign (p_bytes := p_bytes) (p_length := p_length) (p_fault := p_fault) (p_at := p_at) (p_sign := p_sign) (p_place := p_place) (p_number := p_number) h) (fun out ho => ?_)
    obtain ⟨m1, m2, m3, m4, rfl, h⟩ := ho
    show EV _ _ _ (19, [some (.ref 0), some (.int p0), some (.int p1)], [], (w_zpl (.ref 1) (.ref 3) p_bytes p_length m1 m2 m3 m4 p_fault l_told l_spring l_many l_back l_leap l_breath), [], 0)
    refine EV.seg (c' := (29, [some (.ref 0), some (.int p0), some (.int p1)], [.int (257 : Int32), .int m2], (w_zpl (.ref 1) (.ref 3) p_bytes p_length m1 m2 m3 m4 p_fault l_told l_spring l_many l_back l_leap l_breath), [], 0)) 4 rfl trivial ?_
    refine EV.br (c1 := (42, [some (.ref 0), some (.int p0), some (.int p1)], [], (w_zpl (.ref 1) (.ref 3) p_bytes p_length m1 m2 m3 m4 p_fault l_told l_spring l_many l_back l_leap l_breath), [], 0)) (c2 := (32, [some (.ref 0), some (.int p0), some (.int p1)], [], (w_zpl (.ref 1) (.ref 3) p_bytes p_length m1 m2 m3 m4 p_fault l_told l_spring l_many l_back l_leap l_breath), [], 0)) rfl (fun hc => ?_) (fun hc => ?_)
    · have h := h.1 hc
      refine EV.seg (c' := (50, [some (.ref 0), some (.int p0), some (.int p1)], [.int p0, .int m4], (w_zpl (.ref 1) (.ref 3) p_bytes p_length m1 m2 m3 m4 p_fault l_told l_spring l_many l_back l_leap l_breath), [], 0)) 4 rfl trivial ?_
      refine EV.br (c1 := (64, [some (.ref 0), some (.int p0), some (.int p1)], [], (w_zpl (.ref 1) (.ref 3) p_bytes p_length m1 m2 m3 m4 p_fault l_told l_spring l_many l_back l_leap l_breath), [], 0)) (c2 := (53, [some (.ref 0), some (.int p0), some (.int p1)], [], (w_zpl (.ref 1) (.ref 3) p_bytes p_length m1 m2 m3 m4 p_fault l_told l_spring l_many l_back l_leap l_breath), [], 0)) rfl (fun hc => ?_) (fun hc => ?_)
      · have h := h.1 hc
        refine EV.mask (ls' := [some (.ref 0), some (.int p0), none]) rfl rfl ?_
        exact (ok_X2_readNumber_64 ) _ _ _ _ _ _ h
      · have h := h.2 hc
        refine EV.seg (c' := (61, [some (.ref 0), some (.int p0), some (.int p1)], [.int p1, .int m4], (w_zpl (.ref 1) (.ref 3) p_bytes p_length m1 m2 m3 m4 p_fault l_told l_spring l_many l_back l_leap l_breath), [], 0)) 4 rfl trivial ?_
        refine EV.br (c1 := (74, [some (.ref 0), some (.int p0), some (.int p1)], [], (w_zpl (.ref 1) (.ref 3) p_bytes p_length m1 m2 m3 m4 p_fault l_told l_spring l_many l_back l_leap l_breath), [], 0)) (c2 := (64, [some (.ref 0), some (.int p0), some (.int p1)], [], (w_zpl (.ref 1) (.ref 3) p_bytes p_length m1 m2 m3 m4 p_fault l_told l_spring l_many l_back l_leap l_breath), [], 0)) rfl (fun hc => ?_) (fun hc => ?_)
        · have h := h.1 hc
          refine EV.seg (c' := (81, [some (.ref 0), some (.int p0), some (.int p1)], [.int m4], (w_zpl (.ref 1) (.ref 3) p_bytes p_length m1 m2 m3 m4 p_fault l_told l_spring l_many l_back l_leap l_breath), [], 0)) 3 rfl trivial ?_
          exact EV.ret rfl trivial ⟨_, _, _, _, _, _, rfl, h⟩
        · have h := h.2 hc
          refine EV.mask (ls' := [some (.ref 0), some (.int p0), none]) rfl rfl ?_
          exact (ok_X2_readNumber_64 ) _ _ _ _ _ _ h
    · have h := h.2 hc
      refine EV.seg (c' := (37, [some (.ref 0), some (.int p0), some (.int p1)], [.int (0 : Int32), .ref 1], (w_zpl (.ref 1) (.ref 3) p_bytes p_length m1 m2 m3 m4 p_fault l_told l_spring l_many l_back l_leap l_breath), [], 0)) 3 rfl trivial ?_
      refine EV.callL (M' := m_X9_fail) (L := [1, 2]) rfl rfl ⟨rfl, Nat.le_of_ble_eq_true rfl⟩ rfl rfl (em_X9_fail (p_bytes := p_bytes) (p_length := p_length) (p_at := m1) (p_sign := m2) (p_place := m3) (p_number := m4) (p_fault := p_fault) h) (fun out ho => ?_)
      obtain ⟨m5, rfl, h⟩ := ho
      show EV _ _ _ (40, [some (.ref 0), some (.int p0), some (.int p1)], [], (w_zpl (.ref 1) (.ref 3) p_bytes p_length m1 m2 m3 m4 m5 l_told l_spring l_many l_back l_leap l_breath), [], 0)
      refine EV.seg (c' := (41, [some (.ref 0), some (.int p0), some (.int p1)], [.int p0], (w_zpl (.ref 1) (.ref 3) p_bytes p_length m1 m2 m3 m4 m5 l_told l_spring l_many l_back l_leap l_breath), [], 0)) 1 rfl trivial ?_
      exact EV.ret rfl trivial ⟨_, _, _, _, _, _, rfl, h⟩
  · have h := h.2 hc
    refine EV.seg (c' := (11, [some (.ref 0), some (.int p0), some (.int p1)], [.int p0], (w_zpl (.ref 1) (.ref 3) p_bytes p_length p_at p_sign p_place p_number p_fault l_told l_spring l_many l_back l_leap l_breath), [], 0)) 1 rfl trivial ?_
    exact EV.ret rfl trivial ⟨_, _, _, _, _, _, rfl, h⟩
abbrev po_X2_readClause (p_bytes : Nat → Int32) (p_length : Int32) (l_told : Int32) (Q : (Int32) → (Int32) → (Int32) → (Int32) → (Int32) → (Int32) → (Int32) → (Nat → Int32) → (Nat → Int32) → (Nat → Int32) → Prop) : ax_E → Prop := fun out => ∃ (p_at' : Int32) (p_sign' : Int32) (p_place' : Int32) (p_number' : Int32) (p_fault' : Int32) (l_spring' : Int32) (l_many' : Int32) (l_back' : Nat → Int32) (l_leap' : Nat → Int32) (l_breath' : Nat → Int32), out = (none, (w_zpl (.ref 1) (.ref 3) p_bytes p_length p_at' p_sign' p_place' p_number' p_fault' l_told l_spring' l_many' l_back' l_leap' l_breath'), [], 0) ∧ Q p_at' p_sign' p_place' p_number' p_fault' l_spring' l_many' l_back' l_leap' l_breath'
theorem ok_X2_readClause_196 {X : Nat × (Nat → Int32)} {N : Nat} {p_bytes : Nat → Int32} {p_length : Int32} {l_told : Int32}  {Q : (Int32) → (Int32) → (Int32) → (Int32) → (Int32) → (Int32) → (Int32) → (Nat → Int32) → (Nat → Int32) → (Nat → Int32) → Prop}  : ∀ (p_at : Int32) (p_sign : Int32) (p_place : Int32) (p_number : Int32) (p_fault : Int32) (l_spring : Int32) (l_many : Int32) (l_back : Nat → Int32) (l_leap : Nat → Int32) (l_breath : Nat → Int32), wp_X2_readClause_196 N p_bytes p_length  Q  p_at p_sign p_place p_number p_fault l_spring l_many l_back l_leap l_breath → EV (ax_GG X) m_X2_readClause (po_X2_readClause p_bytes p_length l_told Q) (196, [none, none, none], [], (w_zpl (.ref 1) (.ref 3) p_bytes p_length p_at p_sign p_place p_number p_fault l_told l_spring l_many l_back l_leap l_breath), [], 0) := by
  intro p_at p_sign p_place p_number p_fault l_spring l_many l_back l_leap l_breath h
  unfold wp_X2_readClause_196 at h
  exact EV.ret rfl trivial ⟨_, _, _, _, _, _, _, _, _, _, rfl, h⟩
theorem ok_X2_readClause_85 {X : Nat × (Nat → Int32)} {N : Nat} {p_bytes : Nat → Int32} {p_length : Int32} {l_told : Int32} {K196 : (Int32) → (Int32) → (Int32) → (Int32) → (Int32) → (Int32) → (Int32) → (Nat → Int32) → (Nat → Int32) → (Nat → Int32) → Prop} {Q : (Int32) → (Int32) → (Int32) → (Int32) → (Int32) → (Int32) → (Int32) → (Nat → Int32) → (Nat → Int32) → (Nat → Int32) → Prop} (hK196 : ∀ (p_at : Int32) (p_sign : Int32) (p_place : Int32) (p_number : Int32) (p_fault : Int32) (l_spring : Int32) (l_many : Int32) (l_back : Nat → Int32) (l_leap : Nat → Int32) (l_breath : Nat → Int32), K196 p_at p_sign p_place p_number p_fault l_spring l_many l_back l_leap l_breath → EV (ax_GG X) m_X2_readClause (po_X2_readClause p_bytes p_length l_told Q) (196, [none, none, none], [], (w_zpl (.ref 1) (.ref 3) p_bytes p_length p_at p_sign p_place p_number p_fault l_told l_spring l_many l_back l_leap l_breath), [], 0)) : ∀ (p_at : Int32) (p_sign : Int32) (p_place : Int32) (p_number : Int32) (p_fault : Int32) (l_spring : Int32) (l_many : Int32) (l_back : Nat → Int32) (l_leap : Nat → Int32) (l_breath : Nat → Int32), wp_X2_readClause_85 N p_bytes p_length K196 Q  p_at p_sign p_place p_number p_fault l_spring l_many l_back l_leap l_breath → EV (ax_GG X) m_X2_readClause (po_X2_readClause p_bytes p_length l_told Q) (85, [some (.ref 0), none, none], [], (w_zpl (.ref 1) (.ref 3) p_bytes p_length p_at p_sign p_place p_number p_fault l_told l_spring l_many l_back l_leap l_breath), [], 0) := by
  intro p_at p_sign p_place p_number p_fault l_spring l_many l_back l_leap l_breath h
  unfold wp_X2_readClause_85 at h
  refine EV.seg (c' := (90, [some (.ref 0), none, none], [.int (4 : Int32), .ref 1], (w_zpl (.ref 1) (.ref 3) p_bytes p_length p_at p_sign p_place p_number p_fault l_told l_spring l_many l_back l_leap l_breath), [], 0)) 3 rfl trivial ?_
  refine EV.callL (M' := m_X9_fail) (L := [1, 2]) rfl rfl ⟨rfl, Nat.le_of_ble_eq_true rfl⟩ rfl rfl (em_X9_fail (p_bytes := p_bytes) (p_length := p_length) (p_at := p_at) (p_sign := p_sign) (p_place := p_place) (p_number := p_number) (p_fault := p_fault) h) (fun out ho => ?_)
  obtain ⟨m6, rfl, h⟩ := ho
  show EV _ _ _ (93, [some (.ref 0), none, none], [], (w_zpl (.ref 1) (.ref 3) p_bytes p_length p_at p_sign p_place p_number m6 l_told l_spring l_many l_back l_leap l_breath), [], 0)
  refine EV.seg (c' := (196, [some (.ref 0), none, none], [], (w_zpl (.ref 1) (.ref 3) p_bytes p_length p_at p_sign p_place p_number m6 l_told l_spring l_many l_back l_leap l_breath), [], 0)) 1 rfl trivial ?_
  refine EV.mask (ls' := [none, none, none]) rfl rfl ?_
  exact hK196 _ _ _ _ _ _ _ _ _ _ h
theorem ok_X2_readClause_70 {X : Nat × (Nat → Int32)} {N : Nat} {p_bytes : Nat → Int32} {p_length : Int32} {l_told : Int32} {K85 : (Int32) → (Int32) → (Int32) → (Int32) → (Int32) → (Int32) → (Int32) → (Nat → Int32) → (Nat → Int32) → (Nat → Int32) → Prop} {K196 : (Int32) → (Int32) → (Int32) → (Int32) → (Int32) → (Int32) → (Int32) → (Nat → Int32) → (Nat → Int32) → (Nat → Int32) → Prop} {Q : (Int32) → (Int32) → (Int32) → (Int32) → (Int32) → (Int32) → (Int32) → (Nat → Int32) → (Nat → Int32) → (Nat → Int32) → Prop} (hK85 : ∀ (p_at : Int32) (p_sign : Int32) (p_place : Int32) (p_number : Int32) (p_fault : Int32) (l_spring : Int32) (l_many : Int32) (l_back : Nat → Int32) (l_leap : Nat → Int32) (l_breath : Nat → Int32), K85 p_at p_sign p_place p_number p_fault l_spring l_many l_back l_leap l_breath → EV (ax_GG X) m_X2_readClause (po_X2_readClause p_bytes p_length l_told Q) (85, [some (.ref 0), none, none], [], (w_zpl (.ref 1) (.ref 3) p_bytes p_length p_at p_sign p_place p_number p_fault l_told l_spring l_many l_back l_leap l_breath), [], 0)) (hK196 : ∀ (p_at : Int32) (p_sign : Int32) (p_place : Int32) (p_number : Int32) (p_fault : Int32) (l_spring : Int32) (l_many : Int32) (l_back : Nat → Int32) (l_leap : Nat → Int32) (l_breath : Nat → Int32), K196 p_at p_sign p_place p_number p_fault l_spring l_many l_back l_leap l_breath → EV (ax_GG X) m_X2_readClause (po_X2_readClause p_bytes p_length l_told Q) (196, [none, none, none], [], (w_zpl (.ref 1) (.ref 3) p_bytes p_length p_at p_sign p_place p_number p_fault l_told l_spring l_many l_back l_leap l_breath), [], 0)) : ∀ (v2 : Int32) (s0 : Int32) (s1 : Int32) (p_at : Int32) (p_sign : Int32) (p_place : Int32) (p_number : Int32) (p_fault : Int32) (l_spring : Int32) (l_many : Int32) (l_back : Nat → Int32) (l_leap : Nat → Int32) (l_breath : Nat → Int32), wp_X2_readClause_70 N p_bytes p_length K85 K196 Q  v2 s0 s1 p_at p_sign p_place p_number p_fault l_spring l_many l_back l_leap l_breath → EV (ax_GG X) m_X2_readClause (po_X2_readClause p_bytes p_length l_told Q) (70, [some (.ref 0), none, some (.int v2)], [.int s0, .int s1], (w_zpl (.ref 1) (.ref 3) p_bytes p_length p_at p_sign p_place p_number p_fault l_told l_spring l_many l_back l_leap l_breath), [], 0) := by
  intro v2 s0 s1 p_at p_sign p_place p_number p_fault l_spring l_many l_back l_leap l_breath h
  unfold wp_X2_readClause_70 at h
  refine EV.br (c1 := (73, [some (.ref 0), none, some (.int v2)], [], (w_zpl (.ref 1) (.ref 3) p_bytes p_length p_at p_sign p_place p_number p_fault l_told l_spring l_many l_back l_leap l_breath), [], 0)) (c2 := (85, [some (.ref 0), none, some (.int v2)], [], (w_zpl (.ref 1) (.ref 3) p_bytes p_length p_at p_sign p_place p_number p_fault l_told l_spring l_many l_back l_leap l_breath), [], 0)) rfl (fun hc => ?_) (fun hc => ?_)
  · have h := h.1 hc
    refine EV.seg (c' := (82, [some (.ref 0), none, some (.int v2)], [.int (7 : Int32), .int l_many], (w_zpl (.ref 1) (.ref 3) p_bytes p_length p_at p_sign p_place p_number p_fault l_told l_spring l_many l_back l_leap l_breath), [], 0)) 4 rfl trivial ?_
    refine EV.br (c1 := (96, [some (.ref 0), none, some (.int v2)], [], (w_zpl (.ref 1) (.ref 3) p_bytes p_length p_at p_sign p_place p_number p_fault l_told l_spring l_many l_back l_leap l_breath), [], 0)) (c2 := (85, [some (.ref 0), none, some (.int v2)], [], (w_zpl (.ref 1) (.ref 3) p_bytes p_length p_at p_sign p_place p_number p_fault l_told l_spring l_many l_back l_leap l_breath), [], 0)) rfl (fun hc => ?_) (fun hc => ?_)
    · have h := h.1 hc
      refine EV.seg (c' := (97, [some (.ref 0), none, some (.int v2)], [.int v2], (w_zpl (.ref 1) (.ref 3) p_bytes p_length p_at p_sign p_place p_number p_fault l_told l_spring l_many l_back l_leap l_breath), [], 0)) 1 rfl trivial ?_
      refine EV.br (c1 := (117, [some (.ref 0), none, some (.int v2)], [], (w_zpl (.ref 1) (.ref 3) p_bytes p_length p_at p_sign p_place p_number p_fault l_told l_spring l_many l_back l_leap l_breath), [], 0)) (c2 := (100, [some (.ref 0), none, some (.int v2)], [], (w_zpl (.ref 1) (.ref 3) p_bytes p_length p_at p_sign p_place p_number p_fault l_told l_spring l_many l_back l_leap l_breath), [], 0)) rfl (fun hc => ?_) (fun hc => ?_)
      · have h := h.1 hc
        refine EV.seg (c' := (135, [some (.ref 0), none, some (.int v2)], [.int (20 : Int32), .int (1 : Int32), .ref 0, .int l_many, .ref 4], (w_zpl (.ref 1) (.ref 3) p_bytes p_length p_at p_sign p_place p_number p_fault l_told l_spring l_many l_back l_leap l_breath), [], 0)) 9 rfl trivial ?_
        refine EV.call (M' := m_X2_readNumber) rfl rfl (Nat.le_of_ble_eq_true rfl) (em_X2_readNumber (p_bytes := p_bytes) (p_length := p_length) (l_told := l_told) (l_spring := l_spring) (l_many := l_many) (l_back := l_back) (l_leap := l_leap) (l_breath := l_breath) (p_at := p_at) (p_sign := p_sign) (p_place := p_place) (p_number := p_number) (p_fault := p_fault) h) (fun out ho => ?_)
        obtain ⟨r7, m8, m9, m10, m11, m12, rfl, h⟩ := ho
        show EV _ _ _ (138, [some (.ref 0), none, some (.int v2)], [.int r7, .int l_many, .ref 4], (w_zpl (.ref 1) (.ref 3) p_bytes p_length m8 m9 m10 m11 m12 l_told l_spring l_many l_back l_leap l_breath), [], 0)
        obtain ⟨g1, h⟩ := h
        refine EV.seg (c' := (139, [some (.ref 0), none, some (.int v2)], [], (w_zpl (.ref 1) (.ref 3) p_bytes p_length m8 m9 m10 m11 m12 l_told l_spring l_many (upd l_back l_many.toNatClampNeg r7) l_leap l_breath), [], 0)) 1 rfl (And.intro g1 trivial) ?_
        obtain ⟨a13, e_a13⟩ : ∃ z : Nat → Int32, z = upd l_back l_many.toNatClampNeg r7 := ⟨_, rfl⟩
        have h := h a13 e_a13
        rw [← e_a13]
        refine EV.seg (c' := (157, [some (.ref 0), none, some (.int v2)], [.int (20 : Int32), .int (1 : Int32), .ref 0, .int l_many, .ref 5], (w_zpl (.ref 1) (.ref 3) p_bytes p_length m8 m9 m10 m11 m12 l_told l_spring l_many a13 l_leap l_breath), [], 0)) 9 rfl trivial ?_
        refine EV.call (M' := m_X2_readNumber) rfl rfl (Nat.le_of_ble_eq_true rfl) (em_X2_readNumber (p_bytes := p_bytes) (p_length := p_length) (l_told := l_told) (l_spring := l_spring) (l_many := l_many) (l_back := a13) (l_leap := l_leap) (l_breath := l_breath) (p_at := m8) (p_sign := m9) (p_place := m10) (p_number := m11) (p_fault := m12) h) (fun out ho => ?_)
        obtain ⟨r14, m15, m16, m17, m18, m19, rfl, h⟩ := ho
        show EV _ _ _ (160, [some (.ref 0), none, some (.int v2)], [.int r14, .int l_many, .ref 5], (w_zpl (.ref 1) (.ref 3) p_bytes p_length m15 m16 m17 m18 m19 l_told l_spring l_many a13 l_leap l_breath), [], 0)
        obtain ⟨g1, h⟩ := h
        refine EV.seg (c' := (161, [some (.ref 0), none, some (.int v2)], [], (w_zpl (.ref 1) (.ref 3) p_bytes p_length m15 m16 m17 m18 m19 l_told l_spring l_many a13 (upd l_leap l_many.toNatClampNeg r14) l_breath), [], 0)) 1 rfl (And.intro g1 trivial) ?_
        obtain ⟨a20, e_a20⟩ : ∃ z : Nat → Int32, z = upd l_leap l_many.toNatClampNeg r14 := ⟨_, rfl⟩
        have h := h a20 e_a20
        rw [← e_a20]
        refine EV.seg (c' := (179, [some (.ref 0), none, some (.int v2)], [.int (30 : Int32), .int (0 : Int32), .ref 0, .int l_many, .ref 6], (w_zpl (.ref 1) (.ref 3) p_bytes p_length m15 m16 m17 m18 m19 l_told l_spring l_many a13 a20 l_breath), [], 0)) 9 rfl trivial ?_
        refine EV.call (M' := m_X2_readNumber) rfl rfl (Nat.le_of_ble_eq_true rfl) (em_X2_readNumber (p_bytes := p_bytes) (p_length := p_length) (l_told := l_told) (l_spring := l_spring) (l_many := l_many) (l_back := a13) (l_leap := a20) (l_breath := l_breath) (p_at := m15) (p_sign := m16) (p_place := m17) (p_number := m18) (p_fault := m19) h) (fun out ho => ?_)
        obtain ⟨r21, m22, m23, m24, m25, m26, rfl, h⟩ := ho
        show EV _ _ _ (182, [some (.ref 0), none, some (.int v2)], [.int r21, .int l_many, .ref 6], (w_zpl (.ref 1) (.ref 3) p_bytes p_length m22 m23 m24 m25 m26 l_told l_spring l_many a13 a20 l_breath), [], 0)
        obtain ⟨g1, h⟩ := h
        refine EV.seg (c' := (183, [some (.ref 0), none, some (.int v2)], [], (w_zpl (.ref 1) (.ref 3) p_bytes p_length m22 m23 m24 m25 m26 l_told l_spring l_many a13 a20 (upd l_breath l_many.toNatClampNeg r21)), [], 0)) 1 rfl (And.intro g1 trivial) ?_
        obtain ⟨a27, e_a27⟩ : ∃ z : Nat → Int32, z = upd l_breath l_many.toNatClampNeg r21 := ⟨_, rfl⟩
        have h := h a27 e_a27
        rw [← e_a27]
        refine EV.seg (c' := (196, [some (.ref 0), none, some (.int v2)], [], (w_zpl (.ref 1) (.ref 3) p_bytes p_length m22 m23 m24 m25 m26 l_told l_spring (l_many + (1 : Int32)) a13 a20 a27), [], 0)) 7 rfl trivial ?_
        refine EV.mask (ls' := [none, none, none]) rfl rfl ?_
        exact hK196 _ _ _ _ _ _ _ _ _ _ h
      · have h := h.2 hc
        refine EV.seg (c' := (108, [some (.ref 0), none, some (.int v2)], [.int (6 : Int32), .int (1 : Int32), .ref 0, .ref 3], (w_zpl (.ref 1) (.ref 3) p_bytes p_length p_at p_sign p_place p_number p_fault l_told l_spring l_many l_back l_leap l_breath), [], 0)) 5 rfl trivial ?_
        refine EV.call (M' := m_X2_readNumber) rfl rfl (Nat.le_of_ble_eq_true rfl) (em_X2_readNumber (p_bytes := p_bytes) (p_length := p_length) (l_told := l_told) (l_spring := l_spring) (l_many := l_many) (l_back := l_back) (l_leap := l_leap) (l_breath := l_breath) (p_at := p_at) (p_sign := p_sign) (p_place := p_place) (p_number := p_number) (p_fault := p_fault) h) (fun out ho => ?_)
        obtain ⟨r28, m29, m30, m31, m32, m33, rfl, h⟩ := ho
        show EV _ _ _ (111, [some (.ref 0), none, some (.int v2)], [.int r28, .ref 3], (w_zpl (.ref 1) (.ref 3) p_bytes p_length m29 m30 m31 m32 m33 l_told l_spring l_many l_back l_leap l_breath), [], 0)
        refine EV.seg (c' := (196, [some (.ref 0), none, some (.int v2)], [], (w_zpl (.ref 1) (.ref 3) p_bytes p_length m29 m30 m31 m32 m33 l_told r28 l_many l_back l_leap l_breath), [], 0)) 2 rfl trivial ?_
        refine EV.mask (ls' := [none, none, none]) rfl rfl ?_
        exact hK196 _ _ _ _ _ _ _ _ _ _ h
    · have h := h.2 hc
      refine EV.mask (ls' := [some (.ref 0), none, none]) rfl rfl ?_
      exact hK85 _ _ _ _ _ _ _ _ _ _ h
  · have h := h.2 hc
    refine EV.mask (ls' := [some (.ref 0), none, none]) rfl rfl ?_
    exact hK85 _ _ _ _ _ _ _ _ _ _ h
theorem ok_X2_readClause_54 {X : Nat × (Nat → Int32)} {N : Nat} {p_bytes : Nat → Int32} {p_length : Int32} {l_told : Int32} {K196 : (Int32) → (Int32) → (Int32) → (Int32) → (Int32) → (Int32) → (Int32) → (Nat → Int32) → (Nat → Int32) → (Nat → Int32) → Prop} {Q : (Int32) → (Int32) → (Int32) → (Int32) → (Int32) → (Int32) → (Int32) → (Nat → Int32) → (Nat → Int32) → (Nat → Int32) → Prop} (hK196 : ∀ (p_at : Int32) (p_sign : Int32) (p_place : Int32) (p_number : Int32) (p_fault : Int32) (l_spring : Int32) (l_many : Int32) (l_back : Nat → Int32) (l_leap : Nat → Int32) (l_breath : Nat → Int32), K196 p_at p_sign p_place p_number p_fault l_spring l_many l_back l_leap l_breath → EV (ax_GG X) m_X2_readClause (po_X2_readClause p_bytes p_length l_told Q) (196, [none, none, none], [], (w_zpl (.ref 1) (.ref 3) p_bytes p_length p_at p_sign p_place p_number p_fault l_told l_spring l_many l_back l_leap l_breath), [], 0)) : ∀ (v1 : Int32) (v2 : Int32) (p_at : Int32) (p_sign : Int32) (p_place : Int32) (p_number : Int32) (p_fault : Int32) (l_spring : Int32) (l_many : Int32) (l_back : Nat → Int32) (l_leap : Nat → Int32) (l_breath : Nat → Int32), wp_X2_readClause_54 N p_bytes p_length K196 Q  v1 v2 p_at p_sign p_place p_number p_fault l_spring l_many l_back l_leap l_breath → EV (ax_GG X) m_X2_readClause (po_X2_readClause p_bytes p_length l_told Q) (54, [some (.ref 0), some (.int v1), some (.int v2)], [], (w_zpl (.ref 1) (.ref 3) p_bytes p_length p_at p_sign p_place p_number p_fault l_told l_spring l_many l_back l_leap l_breath), [], 0) := by
  intro v1 v2 p_at p_sign p_place p_number p_fault l_spring l_many l_back l_leap l_breath h
  unfold wp_X2_readClause_54 at h
  refine EV.seg (c' := (57, [some (.ref 0), some (.int v1), some (.int v2)], [.int (40 : Int32), .int v1], (w_zpl (.ref 1) (.ref 3) p_bytes p_length p_at p_sign p_place p_number p_fault l_told l_spring l_many l_back l_leap l_breath), [], 0)) 2 rfl trivial ?_
  refine EV.br (c1 := (85, [some (.ref 0), some (.int v1), some (.int v2)], [], (w_zpl (.ref 1) (.ref 3) p_bytes p_length p_at p_sign p_place p_number p_fault l_told l_spring l_many l_back l_leap l_breath), [], 0)) (c2 := (60, [some (.ref 0), some (.int v1), some (.int v2)], [], (w_zpl (.ref 1) (.ref 3) p_bytes p_length p_at p_sign p_place p_number p_fault l_told l_spring l_many l_back l_leap l_breath), [], 0)) rfl (fun hc => ?_) (fun hc => ?_)
  · have h := h.1 hc
    refine EV.mask (ls' := [some (.ref 0), none, none]) rfl rfl ?_
    exact (ok_X2_readClause_85 hK196) _ _ _ _ _ _ _ _ _ _ h
  · have h := h.2 hc
    refine EV.seg (c' := (62, [some (.ref 0), some (.int v1), some (.int v2)], [.int v1, .int v2], (w_zpl (.ref 1) (.ref 3) p_bytes p_length p_at p_sign p_place p_number p_fault l_told l_spring l_many l_back l_leap l_breath), [], 0)) 2 rfl trivial ?_
    refine EV.br (c1 := (65, [some (.ref 0), some (.int v1), some (.int v2)], [.int v2], (w_zpl (.ref 1) (.ref 3) p_bytes p_length p_at p_sign p_place p_number p_fault l_told l_spring l_many l_back l_leap l_breath), [], 0)) (c2 := (69, [some (.ref 0), some (.int v1), some (.int v2)], [.int v2], (w_zpl (.ref 1) (.ref 3) p_bytes p_length p_at p_sign p_place p_number p_fault l_told l_spring l_many l_back l_leap l_breath), [], 0)) rfl (fun hc => ?_) (fun hc => ?_)
    · have h := h.1 hc
      refine EV.seg (c' := (70, [some (.ref 0), some (.int v1), some (.int v2)], [.int (1 : Int32), .int v2], (w_zpl (.ref 1) (.ref 3) p_bytes p_length p_at p_sign p_place p_number p_fault l_told l_spring l_many l_back l_leap l_breath), [], 0)) 2 rfl trivial ?_
      refine EV.mask (ls' := [some (.ref 0), none, some (.int v2)]) rfl rfl ?_
      exact (ok_X2_readClause_70 (ok_X2_readClause_85 hK196) hK196) _ _ _ _ _ _ _ _ _ _ _ _ _ h
    · have h := h.2 hc
      refine EV.seg (c' := (70, [some (.ref 0), some (.int v1), some (.int v2)], [.int (0 : Int32), .int v2], (w_zpl (.ref 1) (.ref 3) p_bytes p_length p_at p_sign p_place p_number p_fault l_told l_spring l_many l_back l_leap l_breath), [], 0)) 1 rfl trivial ?_
      refine EV.mask (ls' := [some (.ref 0), none, some (.int v2)]) rfl rfl ?_
      exact (ok_X2_readClause_70 (ok_X2_readClause_85 hK196) hK196) _ _ _ _ _ _ _ _ _ _ _ _ _ h
theorem ok_X2_readClause_25 {X : Nat × (Nat → Int32)} {N : Nat} {p_bytes : Nat → Int32} {p_length : Int32} {l_told : Int32}  {Q : (Int32) → (Int32) → (Int32) → (Int32) → (Int32) → (Int32) → (Int32) → (Nat → Int32) → (Nat → Int32) → (Nat → Int32) → Prop}  : ∀ (v1 : Int32) (s0 : Int32) (p_at : Int32) (p_sign : Int32) (p_place : Int32) (p_number : Int32) (p_fault : Int32) (l_spring : Int32) (l_many : Int32) (l_back : Nat → Int32) (l_leap : Nat → Int32) (l_breath : Nat → Int32), wp_X2_readClause_25 N p_bytes p_length  Q  v1 s0 p_at p_sign p_place p_number p_fault l_spring l_many l_back l_leap l_breath → EV (ax_GG X) m_X2_readClause (po_X2_readClause p_bytes p_length l_told Q) (25, [some (.ref 0), some (.int v1), none], [.int s0], (w_zpl (.ref 1) (.ref 3) p_bytes p_length p_at p_sign p_place p_number p_fault l_told l_spring l_many l_back l_leap l_breath), [], 0) := by
  intro v1 s0 p_at p_sign p_place p_number p_fault l_spring l_many l_back l_leap l_breath h
  unfold wp_X2_readClause_25 at h
  refine EV.seg (c' := (27, [some (.ref 0), some (.int v1), some (.int s0)], [.int s0], (w_zpl (.ref 1) (.ref 3) p_bytes p_length p_at p_sign p_place p_number p_fault l_told l_spring l_many l_back l_leap l_breath), [], 0)) 2 rfl trivial ?_
  refine EV.br (c1 := (30, [some (.ref 0), some (.int v1), some (.int s0)], [], (w_zpl (.ref 1) (.ref 3) p_bytes p_length p_at p_sign p_place p_number p_fault l_told l_spring l_many l_back l_leap l_breath), [], 0)) (c2 := (54, [some (.ref 0), some (.int v1), some (.int s0)], [], (w_zpl (.ref 1) (.ref 3) p_bytes p_length p_at p_sign p_place p_number p_fault l_told l_spring l_many l_back l_leap l_breath), [], 0)) rfl (fun hc => ?_) (fun hc => ?_)
  · have h := h.1 hc
    refine EV.seg (c' := (40, [some (.ref 0), some (.int v1), some (.int s0)], [.int (300 : Int32), .int p_sign], (w_zpl (.ref 1) (.ref 3) p_bytes p_length p_at p_sign p_place p_number p_fault l_told l_spring l_many l_back l_leap l_breath), [], 0)) 4 rfl trivial ?_
    refine EV.br (c1 := (54, [some (.ref 0), some (.int v1), some (.int s0)], [], (w_zpl (.ref 1) (.ref 3) p_bytes p_length p_at p_sign p_place p_number p_fault l_told l_spring l_many l_back l_leap l_breath), [], 0)) (c2 := (43, [some (.ref 0), some (.int v1), some (.int s0)], [], (w_zpl (.ref 1) (.ref 3) p_bytes p_length p_at p_sign p_place p_number p_fault l_told l_spring l_many l_back l_leap l_breath), [], 0)) rfl (fun hc => ?_) (fun hc => ?_)
    · have h := h.1 hc
      exact (ok_X2_readClause_54 (ok_X2_readClause_196 )) _ _ _ _ _ _ _ _ _ _ _ _ h
    · have h := h.2 hc
      refine EV.seg (c' := (48, [some (.ref 0), some (.int v1), some (.int s0)], [.int (0 : Int32), .ref 1], (w_zpl (.ref 1) (.ref 3) p_bytes p_length p_at p_sign p_place p_number p_fault l_told l_spring l_many l_back l_leap l_breath), [], 0)) 3 rfl trivial ?_
      refine EV.callL (M' := m_X9_fail) (L := [1, 2]) rfl rfl ⟨rfl, Nat.le_of_ble_eq_true rfl⟩ rfl rfl (em_X9_fail (p_bytes := p_bytes) (p_length := p_length) (p_at := p_at) (p_sign := p_sign) (p_place := p_place) (p_number := p_number) (p_fault := p_fault) h) (fun out ho => ?_)
      obtain ⟨m5, rfl, h⟩ := ho
      show EV _ _ _ (51, [some (.ref 0), some (.int v1), some (.int s0)], [], (w_zpl (.ref 1) (.ref 3) p_bytes p_length p_at p_sign p_place p_number m5 l_told l_spring l_many l_back l_leap l_breath), [], 0)
      refine EV.seg (c' := (196, [some (.ref 0), some (.int v1), some (.int s0)], [], (w_zpl (.ref 1) (.ref 3) p_bytes p_length p_at p_sign p_place p_number m5 l_told l_spring l_many l_back l_leap l_breath), [], 0)) 1 rfl trivial ?_
      refine EV.mask (ls' := [none, none, none]) rfl rfl ?_
      exact (ok_X2_readClause_196 ) _ _ _ _ _ _ _ _ _ _ h
  · have h := h.2 hc
    exact (ok_X2_readClause_54 (ok_X2_readClause_196 )) _ _ _ _ _ _ _ _ _ _ _ _ h
theorem em_X2_readClause {X : Nat × (Nat → Int32)} {N : Nat} {p_bytes : Nat → Int32} {p_length : Int32} {l_told : Int32} {p0 : Int32} {p_at : Int32} {p_sign : Int32} {p_place : Int32} {p_number : Int32} {p_fault : Int32} {l_spring : Int32} {l_many : Int32} {l_back : Nat → Int32} {l_leap : Nat → Int32} {l_breath : Nat → Int32} {Q : (Int32) → (Int32) → (Int32) → (Int32) → (Int32) → (Int32) → (Int32) → (Nat → Int32) → (Nat → Int32) → (Nat → Int32) → Prop} (h : wp_X2_readClause N p_bytes p_length Q p0 p_at p_sign p_place p_number p_fault l_spring l_many l_back l_leap l_breath) : EM (ax_GG X) m_X2_readClause [.ref 0, .int p0] (w_zpl (.ref 1) (.ref 3) p_bytes p_length p_at p_sign p_place p_number p_fault l_told l_spring l_many l_back l_leap l_breath) (po_X2_readClause p_bytes p_length l_told Q) := by
  unfold wp_X2_readClause at h
  show EV _ _ _ (0, [some (.ref 0), some (.int p0), none], [], (w_zpl (.ref 1) (.ref 3) p_bytes p_length p_at p_sign p_place p_number p_fault l_told l_spring l_many l_back l_leap l_breath), [], 0)
  refine EV.seg (c' := (4, [some (.ref 0), some (.int p0), none], [.ref 1], (w_zpl (.ref 1) (.ref 3) p_bytes p_length p_at p_sign p_place p_number p_fault l_told l_spring l_many l_back l_leap l_breath), [], 0)) 2 rfl trivial ?_
  refine EV.callL (M' := m_X9_readSign) (L := [1, 2]) rfl rfl ⟨rfl, Nat.le_of_ble_eq_true rfl⟩ rfl rfl (em_X9_readSign (p_bytes := p_bytes) (p_length := p_length) (p_fault := p_fault) (p_at := p_at) (p_sign := p_sign) (p_place := p_place) (p_number := p_number) h) (fun out ho => ?_)
  obtain ⟨m1, m2, m3, m4, rfl, h⟩ := ho
  show EV _ _ _ (7, [some (.ref 0), some (.int p0), none], [], (w_zpl (.ref 1) (.ref 3) p_bytes p_length m1 m2 m3 m4 p_fault l_told l_spring l_many l_back l_leap l_breath), [], 0)
  refine EV.seg (c' := (17, [some (.ref 0), some (.int p0), none], [.int (314 : Int32), .int m2], (w_zpl (.ref 1) (.ref 3) p_bytes p_length m1 m2 m3 m4 p_fault l_told l_spring l_many l_back l_leap l_breath), [], 0)) 4 rfl trivial ?_
  refine EV.br (c1 := (20, [some (.ref 0), some (.int p0), none], [], (w_zpl (.ref 1) (.ref 3) p_bytes p_length m1 m2 m3 m4 p_fault l_told l_spring l_many l_back l_leap l_breath), [], 0)) (c2 := (24, [some (.ref 0), some (.int p0), none], [], (w_zpl (.ref 1) (.ref 3) p_bytes p_length m1 m2 m3 m4 p_fault l_told l_spring l_many l_back l_leap l_breath), [], 0)) rfl (fun hc => ?_) (fun hc => ?_)
  · have h := h.1 hc
    refine EV.seg (c' := (25, [some (.ref 0), some (.int p0), none], [.int (1 : Int32)], (w_zpl (.ref 1) (.ref 3) p_bytes p_length m1 m2 m3 m4 p_fault l_told l_spring l_many l_back l_leap l_breath), [], 0)) 2 rfl trivial ?_
    exact (ok_X2_readClause_25 ) _ _ _ _ _ _ _ _ _ _ _ _ h
  · have h := h.2 hc
    refine EV.seg (c' := (25, [some (.ref 0), some (.int p0), none], [.int (0 : Int32)], (w_zpl (.ref 1) (.ref 3) p_bytes p_length m1 m2 m3 m4 p_fault l_told l_spring l_many l_back l_leap l_breath), [], 0)) 1 rfl trivial ?_
    exact (ok_X2_readClause_25 ) _ _ _ _ _ _ _ _ _ _ _ _ h
abbrev po_X2_readWhetherMore (p_bytes : Nat → Int32) (p_length : Int32) (l_told : Int32) (l_spring : Int32) (l_many : Int32) (l_back : Nat → Int32) (l_leap : Nat → Int32) (l_breath : Nat → Int32) (Q : Int32 → (Int32) → (Int32) → (Int32) → (Int32) → (Int32) → Prop) : ax_E → Prop := fun out => ∃ (r : Int32) (p_at' : Int32) (p_sign' : Int32) (p_place' : Int32) (p_number' : Int32) (p_fault' : Int32), out = (some (.int r), (w_zpl (.ref 1) (.ref 3) p_bytes p_length p_at' p_sign' p_place' p_number' p_fault' l_told l_spring l_many l_back l_leap l_breath), [], 0) ∧ Q r p_at' p_sign' p_place' p_number' p_fault'
theorem ok_X2_readWhetherMore_57 {X : Nat × (Nat → Int32)} {N : Nat} {p_bytes : Nat → Int32} {p_length : Int32} {l_told : Int32} {l_spring : Int32} {l_many : Int32} {l_back : Nat → Int32} {l_leap : Nat → Int32} {l_breath : Nat → Int32}  {Q : Int32 → (Int32) → (Int32) → (Int32) → (Int32) → (Int32) → Prop}  : ∀ (s0 : Int32) (p_at : Int32) (p_sign : Int32) (p_place : Int32) (p_number : Int32) (p_fault : Int32), wp_X2_readWhetherMore_57 N p_bytes p_length  Q  s0 p_at p_sign p_place p_number p_fault → EV (ax_GG X) m_X2_readWhetherMore (po_X2_readWhetherMore p_bytes p_length l_told l_spring l_many l_back l_leap l_breath Q) (57, [none], [.int s0], (w_zpl (.ref 1) (.ref 3) p_bytes p_length p_at p_sign p_place p_number p_fault l_told l_spring l_many l_back l_leap l_breath), [], 0) := by
  intro s0 p_at p_sign p_place p_number p_fault h
  unfold wp_X2_readWhetherMore_57 at h
  exact EV.ret rfl h.1 ⟨_, _, _, _, _, _, rfl, h.2⟩
theorem ok_X2_readWhetherMore_40 {X : Nat × (Nat → Int32)} {N : Nat} {p_bytes : Nat → Int32} {p_length : Int32} {l_told : Int32} {l_spring : Int32} {l_many : Int32} {l_back : Nat → Int32} {l_leap : Nat → Int32} {l_breath : Nat → Int32}  {Q : Int32 → (Int32) → (Int32) → (Int32) → (Int32) → (Int32) → Prop}  : ∀ (p_at : Int32) (p_sign : Int32) (p_place : Int32) (p_number : Int32) (p_fault : Int32), wp_X2_readWhetherMore_40 N p_bytes p_length  Q  p_at p_sign p_place p_number p_fault → EV (ax_GG X) m_X2_readWhetherMore (po_X2_readWhetherMore p_bytes p_length l_told l_spring l_many l_back l_leap l_breath Q) (40, [some (.ref 0)], [], (w_zpl (.ref 1) (.ref 3) p_bytes p_length p_at p_sign p_place p_number p_fault l_told l_spring l_many l_back l_leap l_breath), [], 0) := by
  intro p_at p_sign p_place p_number p_fault h
  unfold wp_X2_readWhetherMore_40 at h
  refine EV.seg (c' := (49, [some (.ref 0)], [.int (59 : Int32), .int p_sign], (w_zpl (.ref 1) (.ref 3) p_bytes p_length p_at p_sign p_place p_number p_fault l_told l_spring l_many l_back l_leap l_breath), [], 0)) 4 rfl trivial ?_
  refine EV.br (c1 := (52, [some (.ref 0)], [], (w_zpl (.ref 1) (.ref 3) p_bytes p_length p_at p_sign p_place p_number p_fault l_told l_spring l_many l_back l_leap l_breath), [], 0)) (c2 := (56, [some (.ref 0)], [], (w_zpl (.ref 1) (.ref 3) p_bytes p_length p_at p_sign p_place p_number p_fault l_told l_spring l_many l_back l_leap l_breath), [], 0)) rfl (fun hc => ?_) (fun hc => ?_)
  · have h := h.1 hc
    refine EV.seg (c' := (57, [some (.ref 0)], [.int (1 : Int32)], (w_zpl (.ref 1) (.ref 3) p_bytes p_length p_at p_sign p_place p_number p_fault l_told l_spring l_many l_back l_leap l_breath), [], 0)) 2 rfl trivial ?_
    refine EV.mask (ls' := [none]) rfl rfl ?_
    exact (ok_X2_readWhetherMore_57 ) _ _ _ _ _ _ h
  · have h := h.2 hc
    refine EV.seg (c' := (57, [some (.ref 0)], [.int (0 : Int32)], (w_zpl (.ref 1) (.ref 3) p_bytes p_length p_at p_sign p_place p_number p_fault l_told l_spring l_many l_back l_leap l_breath), [], 0)) 1 rfl trivial ?_
    refine EV.mask (ls' := [none]) rfl rfl ?_
    exact (ok_X2_readWhetherMore_57 ) _ _ _ _ _ _ h
theorem em_X2_readWhetherMore {X : Nat × (Nat → Int32)} {N : Nat} {p_bytes : Nat → Int32} {p_length : Int32} {l_told : Int32} {l_spring : Int32} {l_many : Int32} {l_back : Nat → Int32} {l_leap : Nat → Int32} {l_breath : Nat → Int32} {p_at : Int32} {p_sign : Int32} {p_place : Int32} {p_number : Int32} {p_fault : Int32} {Q : Int32 → (Int32) → (Int32) → (Int32) → (Int32) → (Int32) → Prop} (h : wp_X2_readWhetherMore N p_bytes p_length Q p_at p_sign p_place p_number p_fault) : EM (ax_GG X) m_X2_readWhetherMore [.ref 0] (w_zpl (.ref 1) (.ref 3) p_bytes p_length p_at p_sign p_place p_number p_fault l_told l_spring l_many l_back l_leap l_breath) (po_X2_readWhetherMore p_bytes p_length l_told l_spring l_many l_back l_leap l_breath Q) := by
  unfold wp_X2_readWhetherMore at h
  show EV _ _ _ (0, [some (.ref 0)], [], (w_zpl (.ref 1) (.ref 3) p_bytes p_length p_at p_sign p_place p_number p_fault l_told l_spring l_many l_back l_leap l_breath), [], 0)
  refine EV.seg (c' := (4, [some (.ref 0)], [.ref 1], (w_zpl (.ref 1) (.ref 3) p_bytes p_length p_at p_sign p_place p_number p_fault l_told l_spring l_many l_back l_leap l_breath), [], 0)) 2 rfl trivial ?_
  refine EV.callL (M' := m_X9_readSign) (L := [1, 2]) rfl rfl ⟨rfl, Nat.le_of_ble_eq_true rfl⟩ rfl rfl (em_X9_readSign (p_bytes := p_bytes) (p_length := p_length) (p_fault := p_fault) (p_at := p_at) (p_sign := p_sign) (p_place := p_place) (p_number := p_number) h) (fun out ho => ?_)
  obtain ⟨m1, m2, m3, m4, rfl, h⟩ := ho
  show EV _ _ _ (7, [some (.ref 0)], [], (w_zpl (.ref 1) (.ref 3) p_bytes p_length m1 m2 m3 m4 p_fault l_told l_spring l_many l_back l_leap l_breath), [], 0)
  refine EV.seg (c' := (16, [some (.ref 0)], [.int (59 : Int32), .int m2], (w_zpl (.ref 1) (.ref 3) p_bytes p_length m1 m2 m3 m4 p_fault l_told l_spring l_many l_back l_leap l_breath), [], 0)) 4 rfl trivial ?_
  refine EV.br (c1 := (40, [some (.ref 0)], [], (w_zpl (.ref 1) (.ref 3) p_bytes p_length m1 m2 m3 m4 p_fault l_told l_spring l_many l_back l_leap l_breath), [], 0)) (c2 := (19, [some (.ref 0)], [], (w_zpl (.ref 1) (.ref 3) p_bytes p_length m1 m2 m3 m4 p_fault l_told l_spring l_many l_back l_leap l_breath), [], 0)) rfl (fun hc => ?_) (fun hc => ?_)
  · have h := h.1 hc
    exact (ok_X2_readWhetherMore_40 ) _ _ _ _ _ h
  · have h := h.2 hc
    refine EV.seg (c' := (29, [some (.ref 0)], [.int (256 : Int32), .int m2], (w_zpl (.ref 1) (.ref 3) p_bytes p_length m1 m2 m3 m4 p_fault l_told l_spring l_many l_back l_leap l_breath), [], 0)) 4 rfl trivial ?_
    refine EV.br (c1 := (40, [some (.ref 0)], [], (w_zpl (.ref 1) (.ref 3) p_bytes p_length m1 m2 m3 m4 p_fault l_told l_spring l_many l_back l_leap l_breath), [], 0)) (c2 := (32, [some (.ref 0)], [], (w_zpl (.ref 1) (.ref 3) p_bytes p_length m1 m2 m3 m4 p_fault l_told l_spring l_many l_back l_leap l_breath), [], 0)) rfl (fun hc => ?_) (fun hc => ?_)
    · have h := h.1 hc
      exact (ok_X2_readWhetherMore_40 ) _ _ _ _ _ h
    · have h := h.2 hc
      refine EV.seg (c' := (37, [some (.ref 0)], [.int (0 : Int32), .ref 1], (w_zpl (.ref 1) (.ref 3) p_bytes p_length m1 m2 m3 m4 p_fault l_told l_spring l_many l_back l_leap l_breath), [], 0)) 3 rfl trivial ?_
      refine EV.callL (M' := m_X9_fail) (L := [1, 2]) rfl rfl ⟨rfl, Nat.le_of_ble_eq_true rfl⟩ rfl rfl (em_X9_fail (p_bytes := p_bytes) (p_length := p_length) (p_at := m1) (p_sign := m2) (p_place := m3) (p_number := m4) (p_fault := p_fault) h) (fun out ho => ?_)
      obtain ⟨m5, rfl, h⟩ := ho
      show EV _ _ _ (40, [some (.ref 0)], [], (w_zpl (.ref 1) (.ref 3) p_bytes p_length m1 m2 m3 m4 m5 l_told l_spring l_many l_back l_leap l_breath), [], 0)
      exact (ok_X2_readWhetherMore_40 ) _ _ _ _ _ h
abbrev po_X2_read (p_bytes : Nat → Int32) (p_length : Int32) (Q : Int32 → (Int32) → (Int32) → (Int32) → (Int32) → (Int32) → (Int32) → (Int32) → (Int32) → (Nat → Int32) → (Nat → Int32) → (Nat → Int32) → Prop) : ax_E → Prop := fun out => ∃ (r : Int32) (p_at' : Int32) (p_sign' : Int32) (p_place' : Int32) (p_number' : Int32) (p_fault' : Int32) (l_told' : Int32) (l_spring' : Int32) (l_many' : Int32) (l_back' : Nat → Int32) (l_leap' : Nat → Int32) (l_breath' : Nat → Int32), out = (some (.int r), (w_zpl (.ref 1) (.ref 3) p_bytes p_length p_at' p_sign' p_place' p_number' p_fault' l_told' l_spring' l_many' l_back' l_leap' l_breath'), [], 0) ∧ Q r p_at' p_sign' p_place' p_number' p_fault' l_told' l_spring' l_many' l_back' l_leap' l_breath'
theorem ok_X2_read_84 {X : Nat × (Nat → Int32)} {N : Nat} {p_bytes : Nat → Int32} {p_length : Int32}  {Q : Int32 → (Int32) → (Int32) → (Int32) → (Int32) → (Int32) → (Int32) → (Int32) → (Int32) → (Nat → Int32) → (Nat → Int32) → (Nat → Int32) → Prop}  : ∀ (p_at : Int32) (p_sign : Int32) (p_place : Int32) (p_number : Int32) (p_fault : Int32) (l_told : Int32) (l_spring : Int32) (l_many : Int32) (l_back : Nat → Int32) (l_leap : Nat → Int32) (l_breath : Nat → Int32), wp_X2_read_84 N p_bytes p_length  Q  p_at p_sign p_place p_number p_fault l_told l_spring l_many l_back l_leap l_breath → EV (ax_GG X) m_X2_read (po_X2_read p_bytes p_length Q) (84, [some (.ref 0), none, none, none, none], [], (w_zpl (.ref 1) (.ref 3) p_bytes p_length p_at p_sign p_place p_number p_fault l_told l_spring l_many l_back l_leap l_breath), [], 0) := by
  intro p_at p_sign p_place p_number p_fault l_told l_spring l_many l_back l_leap l_breath h
  unfold wp_X2_read_84 at h
  refine EV.seg (c' := (91, [some (.ref 0), none, none, none, none], [.int p_fault], (w_zpl (.ref 1) (.ref 3) p_bytes p_length p_at p_sign p_place p_number p_fault l_told l_spring l_many l_back l_leap l_breath), [], 0)) 3 rfl trivial ?_
  exact EV.ret rfl trivial ⟨_, _, _, _, _, _, _, _, _, _, _, _, rfl, h⟩
theorem ok_X2_read_77 {X : Nat × (Nat → Int32)} {N : Nat} {p_bytes : Nat → Int32} {p_length : Int32} {K38 : (Int32) → (Int32) → (Int32) → (Int32) → (Int32) → (Int32) → (Int32) → (Int32) → (Int32) → (Int32) → (Nat → Int32) → (Nat → Int32) → (Nat → Int32) → Prop} {Q : Int32 → (Int32) → (Int32) → (Int32) → (Int32) → (Int32) → (Int32) → (Int32) → (Int32) → (Nat → Int32) → (Nat → Int32) → (Nat → Int32) → Prop} (hK38 : ∀ (v3 : Int32) (v4 : Int32) (p_at : Int32) (p_sign : Int32) (p_place : Int32) (p_number : Int32) (p_fault : Int32) (l_told : Int32) (l_spring : Int32) (l_many : Int32) (l_back : Nat → Int32) (l_leap : Nat → Int32) (l_breath : Nat → Int32), K38 v3 v4 p_at p_sign p_place p_number p_fault l_told l_spring l_many l_back l_leap l_breath → EV (ax_GG X) m_X2_read (po_X2_read p_bytes p_length Q) (38, [some (.ref 0), none, none, some (.int v3), some (.int v4)], [], (w_zpl (.ref 1) (.ref 3) p_bytes p_length p_at p_sign p_place p_number p_fault l_told l_spring l_many l_back l_leap l_breath), [], 0)) : ∀ (v4 : Int32) (s0 : Int32) (p_at : Int32) (p_sign : Int32) (p_place : Int32) (p_number : Int32) (p_fault : Int32) (l_told : Int32) (l_spring : Int32) (l_many : Int32) (l_back : Nat → Int32) (l_leap : Nat → Int32) (l_breath : Nat → Int32), wp_X2_read_77 N p_bytes p_length K38 Q  v4 s0 p_at p_sign p_place p_number p_fault l_told l_spring l_many l_back l_leap l_breath → EV (ax_GG X) m_X2_read (po_X2_read p_bytes p_length Q) (77, [some (.ref 0), none, none, none, some (.int v4)], [.int s0], (w_zpl (.ref 1) (.ref 3) p_bytes p_length p_at p_sign p_place p_number p_fault l_told l_spring l_many l_back l_leap l_breath), [], 0) := by
  intro v4 s0 p_at p_sign p_place p_number p_fault l_told l_spring l_many l_back l_leap l_breath h
  unfold wp_X2_read_77 at h
  refine EV.seg (c' := (38, [some (.ref 0), none, none, some (.int s0), some (.int (v4 + 1))], [], (w_zpl (.ref 1) (.ref 3) p_bytes p_length p_at p_sign p_place p_number p_fault l_told l_spring l_many l_back l_leap l_breath), [], 0)) 3 rfl trivial ?_
  exact hK38 _ _ _ _ _ _ _ _ _ _ _ _ _ h
theorem ok_X2_read_76 {X : Nat × (Nat → Int32)} {N : Nat} {p_bytes : Nat → Int32} {p_length : Int32} {K77 : (Int32) → (Int32) → (Int32) → (Int32) → (Int32) → (Int32) → (Int32) → (Int32) → (Int32) → (Int32) → (Nat → Int32) → (Nat → Int32) → (Nat → Int32) → Prop} {Q : Int32 → (Int32) → (Int32) → (Int32) → (Int32) → (Int32) → (Int32) → (Int32) → (Int32) → (Nat → Int32) → (Nat → Int32) → (Nat → Int32) → Prop} (hK77 : ∀ (v4 : Int32) (s0 : Int32) (p_at : Int32) (p_sign : Int32) (p_place : Int32) (p_number : Int32) (p_fault : Int32) (l_told : Int32) (l_spring : Int32) (l_many : Int32) (l_back : Nat → Int32) (l_leap : Nat → Int32) (l_breath : Nat → Int32), K77 v4 s0 p_at p_sign p_place p_number p_fault l_told l_spring l_many l_back l_leap l_breath → EV (ax_GG X) m_X2_read (po_X2_read p_bytes p_length Q) (77, [some (.ref 0), none, none, none, some (.int v4)], [.int s0], (w_zpl (.ref 1) (.ref 3) p_bytes p_length p_at p_sign p_place p_number p_fault l_told l_spring l_many l_back l_leap l_breath), [], 0)) : ∀ (v4 : Int32) (p_at : Int32) (p_sign : Int32) (p_place : Int32) (p_number : Int32) (p_fault : Int32) (l_told : Int32) (l_spring : Int32) (l_many : Int32) (l_back : Nat → Int32) (l_leap : Nat → Int32) (l_breath : Nat → Int32), wp_X2_read_76 N p_bytes p_length K77 Q  v4 p_at p_sign p_place p_number p_fault l_told l_spring l_many l_back l_leap l_breath → EV (ax_GG X) m_X2_read (po_X2_read p_bytes p_length Q) (76, [some (.ref 0), none, none, none, some (.int v4)], [], (w_zpl (.ref 1) (.ref 3) p_bytes p_length p_at p_sign p_place p_number p_fault l_told l_spring l_many l_back l_leap l_breath), [], 0) := by
  intro v4 p_at p_sign p_place p_number p_fault l_told l_spring l_many l_back l_leap l_breath h
  unfold wp_X2_read_76 at h
  refine EV.seg (c' := (77, [some (.ref 0), none, none, none, some (.int v4)], [.int (0 : Int32)], (w_zpl (.ref 1) (.ref 3) p_bytes p_length p_at p_sign p_place p_number p_fault l_told l_spring l_many l_back l_leap l_breath), [], 0)) 1 rfl trivial ?_
  exact hK77 _ _ _ _ _ _ _ _ _ _ _ _ _ h
theorem ok_X2_read_38 {X : Nat × (Nat → Int32)} {N : Nat} {p_bytes : Nat → Int32} {p_length : Int32}  {Q : Int32 → (Int32) → (Int32) → (Int32) → (Int32) → (Int32) → (Int32) → (Int32) → (Int32) → (Nat → Int32) → (Nat → Int32) → (Nat → Int32) → Prop}  : ∀ (n : Nat) (v3 : Int32) (v4 : Int32) (p_at : Int32) (p_sign : Int32) (p_place : Int32) (p_number : Int32) (p_fault : Int32) (l_told : Int32) (l_spring : Int32) (l_many : Int32) (l_back : Nat → Int32) (l_leap : Nat → Int32) (l_breath : Nat → Int32), wp_X2_read_38 N p_bytes p_length  Q n v3 v4 p_at p_sign p_place p_number p_fault l_told l_spring l_many l_back l_leap l_breath → EV (ax_GG X) m_X2_read (po_X2_read p_bytes p_length Q) (38, [some (.ref 0), none, none, some (.int v3), some (.int v4)], [], (w_zpl (.ref 1) (.ref 3) p_bytes p_length p_at p_sign p_place p_number p_fault l_told l_spring l_many l_back l_leap l_breath), [], 0) := by
  intro n
  induction n with
  | zero => intro _ _ _ _ _ _ _ _ _ _ _ _ _ h; exact h.elim
  | succ n ih =>
    intro v3 v4 p_at p_sign p_place p_number p_fault l_told l_spring l_many l_back l_leap l_breath h
    unfold wp_X2_read_38 at h
    refine EV.seg (c' := (39, [some (.ref 0), none, none, some (.int v3), some (.int v4)], [.int v3], (w_zpl (.ref 1) (.ref 3) p_bytes p_length p_at p_sign p_place p_number p_fault l_told l_spring l_many l_back l_leap l_breath), [], 0)) 1 rfl trivial ?_
    refine EV.br (c1 := (84, [some (.ref 0), none, none, some (.int v3), some (.int v4)], [], (w_zpl (.ref 1) (.ref 3) p_bytes p_length p_at p_sign p_place p_number p_fault l_told l_spring l_many l_back l_leap l_breath), [], 0)) (c2 := (42, [some (.ref 0), none, none, some (.int v3), some (.int v4)], [], (w_zpl (.ref 1) (.ref 3) p_bytes p_length p_at p_sign p_place p_number p_fault l_told l_spring l_many l_back l_leap l_breath), [], 0)) rfl (fun hc => ?_) (fun hc => ?_)
    · have h := h.1 hc
      refine EV.mask (ls' := [some (.ref 0), none, none, none, none]) rfl rfl ?_
      exact (ok_X2_read_84 ) _ _ _ _ _ _ _ _ _ _ _ h
    · have h := h.2 hc
      refine EV.seg (c' := (46, [some (.ref 0), none, none, some (.int v3), some (.int v4)], [.int (40 : Int32), .int v4], (w_zpl (.ref 1) (.ref 3) p_bytes p_length p_at p_sign p_place p_number p_fault l_told l_spring l_many l_back l_leap l_breath), [], 0)) 2 rfl trivial ?_
      refine EV.br (c1 := (84, [some (.ref 0), none, none, some (.int v3), some (.int v4)], [], (w_zpl (.ref 1) (.ref 3) p_bytes p_length p_at p_sign p_place p_number p_fault l_told l_spring l_many l_back l_leap l_breath), [], 0)) (c2 := (49, [some (.ref 0), none, none, some (.int v3), some (.int v4)], [], (w_zpl (.ref 1) (.ref 3) p_bytes p_length p_at p_sign p_place p_number p_fault l_told l_spring l_many l_back l_leap l_breath), [], 0)) rfl (fun hc => ?_) (fun hc => ?_)
      · have h := h.1 hc
        refine EV.mask (ls' := [some (.ref 0), none, none, none, none]) rfl rfl ?_
        exact (ok_X2_read_84 ) _ _ _ _ _ _ _ _ _ _ _ h
      · have h := h.2 hc
        refine EV.seg (c' := (52, [some (.ref 0), none, none, some (.int v3), some (.int v4)], [.int v4, .ref 0], (w_zpl (.ref 1) (.ref 3) p_bytes p_length p_at p_sign p_place p_number p_fault l_told l_spring l_many l_back l_leap l_breath), [], 0)) 2 rfl trivial ?_
        refine EV.call (M' := m_X2_readClause) rfl rfl (Nat.le_of_ble_eq_true rfl) (em_X2_readClause (p_bytes := p_bytes) (p_length := p_length) (l_told := l_told) (p_at := p_at) (p_sign := p_sign) (p_place := p_place) (p_number := p_number) (p_fault := p_fault) (l_spring := l_spring) (l_many := l_many) (l_back := l_back) (l_leap := l_leap) (l_breath := l_breath) h) (fun out ho => ?_)
        obtain ⟨m3, m4, m5, m6, m7, m8, m9, m10, m11, m12, rfl, h⟩ := ho
        show EV _ _ _ (55, [some (.ref 0), none, none, some (.int v3), some (.int v4)], [], (w_zpl (.ref 1) (.ref 3) p_bytes p_length m3 m4 m5 m6 m7 l_told m8 m9 m10 m11 m12), [], 0)
        refine EV.seg (c' := (62, [some (.ref 0), none, none, some (.int v3), some (.int v4)], [.int m7], (w_zpl (.ref 1) (.ref 3) p_bytes p_length m3 m4 m5 m6 m7 l_told m8 m9 m10 m11 m12), [], 0)) 3 rfl trivial ?_
        refine EV.br (c1 := (65, [some (.ref 0), none, none, some (.int v3), some (.int v4)], [], (w_zpl (.ref 1) (.ref 3) p_bytes p_length m3 m4 m5 m6 m7 l_told m8 m9 m10 m11 m12), [], 0)) (c2 := (76, [some (.ref 0), none, none, some (.int v3), some (.int v4)], [], (w_zpl (.ref 1) (.ref 3) p_bytes p_length m3 m4 m5 m6 m7 l_told m8 m9 m10 m11 m12), [], 0)) rfl (fun hc => ?_) (fun hc => ?_)
        · have h := h.1 hc
          refine EV.seg (c' := (66, [some (.ref 0), none, none, some (.int v3), some (.int v4)], [.ref 0], (w_zpl (.ref 1) (.ref 3) p_bytes p_length m3 m4 m5 m6 m7 l_told m8 m9 m10 m11 m12), [], 0)) 1 rfl trivial ?_
          refine EV.call (M' := m_X2_readWhetherMore) rfl rfl (Nat.le_of_ble_eq_true rfl) (em_X2_readWhetherMore (p_bytes := p_bytes) (p_length := p_length) (l_told := l_told) (l_spring := m8) (l_many := m9) (l_back := m10) (l_leap := m11) (l_breath := m12) (p_at := m3) (p_sign := m4) (p_place := m5) (p_number := m6) (p_fault := m7) h) (fun out ho => ?_)
          obtain ⟨r13, m14, m15, m16, m17, m18, rfl, h⟩ := ho
          show EV _ _ _ (69, [some (.ref 0), none, none, some (.int v3), some (.int v4)], [.int r13], (w_zpl (.ref 1) (.ref 3) p_bytes p_length m14 m15 m16 m17 m18 l_told m8 m9 m10 m11 m12), [], 0)
          refine EV.br (c1 := (76, [some (.ref 0), none, none, some (.int v3), some (.int v4)], [], (w_zpl (.ref 1) (.ref 3) p_bytes p_length m14 m15 m16 m17 m18 l_told m8 m9 m10 m11 m12), [], 0)) (c2 := (72, [some (.ref 0), none, none, some (.int v3), some (.int v4)], [], (w_zpl (.ref 1) (.ref 3) p_bytes p_length m14 m15 m16 m17 m18 l_told m8 m9 m10 m11 m12), [], 0)) rfl (fun hc => ?_) (fun hc => ?_)
          · have h := h.1 hc
            refine EV.mask (ls' := [some (.ref 0), none, none, none, some (.int v4)]) rfl rfl ?_
            exact (ok_X2_read_76 (ok_X2_read_77 ih)) _ _ _ _ _ _ _ _ _ _ _ _ h
          · have h := h.2 hc
            refine EV.seg (c' := (77, [some (.ref 0), none, none, some (.int v3), some (.int v4)], [.int (1 : Int32)], (w_zpl (.ref 1) (.ref 3) p_bytes p_length m14 m15 m16 m17 m18 l_told m8 m9 m10 m11 m12), [], 0)) 2 rfl trivial ?_
            refine EV.mask (ls' := [some (.ref 0), none, none, none, some (.int v4)]) rfl rfl ?_
            exact (ok_X2_read_77 ih) _ _ _ _ _ _ _ _ _ _ _ _ _ h
        · have h := h.2 hc
          refine EV.mask (ls' := [some (.ref 0), none, none, none, some (.int v4)]) rfl rfl ?_
          exact (ok_X2_read_76 (ok_X2_read_77 ih)) _ _ _ _ _ _ _ _ _ _ _ _ h
theorem em_X2_read {X : Nat × (Nat → Int32)} {N : Nat} {z_tape : Value} {z_lane : Value} {p_bytes : Nat → Int32} {p_length : Int32} {p_at : Int32} {p_sign : Int32} {p_place : Int32} {p_number : Int32} {p_fault : Int32} {l_told : Int32} {l_spring : Int32} {l_many : Int32} {l_back : Nat → Int32} {l_leap : Nat → Int32} {l_breath : Nat → Int32} {Q : Int32 → (Int32) → (Int32) → (Int32) → (Int32) → (Int32) → (Int32) → (Int32) → (Int32) → (Nat → Int32) → (Nat → Int32) → (Nat → Int32) → Prop} (h : wp_X2_read N p_bytes p_length Q p_at p_sign p_place p_number p_fault l_told l_spring l_many l_back l_leap l_breath) : EM (ax_GG X) m_X2_read [.ref 0, .ref 1, .ref 3] (w_zpl z_tape z_lane p_bytes p_length p_at p_sign p_place p_number p_fault l_told l_spring l_many l_back l_leap l_breath) (po_X2_read p_bytes p_length Q) := by
  unfold wp_X2_read at h
  show EV _ _ _ (0, [some (.ref 0), some (.ref 1), some (.ref 3), none, none], [], (w_zpl z_tape z_lane p_bytes p_length p_at p_sign p_place p_number p_fault l_told l_spring l_many l_back l_leap l_breath), [], 0)
  refine EV.seg (c' := (30, [some (.ref 0), some (.ref 1), some (.ref 3), none, none], [.ref 1], (w_zpl (.ref 1) (.ref 3) p_bytes p_length p_at p_sign p_place p_number p_fault (1 : Int32) l_spring (0 : Int32) l_back l_leap l_breath), [], 0)) 16 rfl (And.intro (Or.inr rfl) trivial) ?_
  refine EV.callL (M' := m_X9_rewind) (L := [1, 2]) rfl rfl ⟨rfl, Nat.le_of_ble_eq_true rfl⟩ rfl rfl (em_X9_rewind (p_bytes := p_bytes) (p_length := p_length) (p_sign := p_sign) (p_place := p_place) (p_number := p_number) (p_at := p_at) (p_fault := p_fault) h) (fun out ho => ?_)
  obtain ⟨m1, m2, rfl, h⟩ := ho
  show EV _ _ _ (33, [some (.ref 0), some (.ref 1), some (.ref 3), none, none], [], (w_zpl (.ref 1) (.ref 3) p_bytes p_length m1 p_sign p_place p_number m2 (1 : Int32) l_spring (0 : Int32) l_back l_leap l_breath), [], 0)
  refine EV.seg (c' := (38, [some (.ref 0), some (.ref 1), some (.ref 3), some (.int (1 : Int32)), some (.int (0 : Int32))], [], (w_zpl (.ref 1) (.ref 3) p_bytes p_length m1 p_sign p_place p_number m2 (1 : Int32) l_spring (0 : Int32) l_back l_leap l_breath), [], 0)) 4 rfl trivial ?_
  refine EV.mask (ls' := [some (.ref 0), none, none, some (.int (1 : Int32)), some (.int (0 : Int32))]) rfl rfl ?_
  exact (ok_X2_read_38  N) _ _ _ _ _ _ _ _ _ _ _ _ _ h
abbrev po_X3_takeFrom (m_many : Int32) (m_turns : Nat → Int32) (m_children : Nat → Int32) (Q : (Int32) → (Nat → Int32) → (Nat → Int32) → Prop) : ax_E → Prop := fun out => ∃ (n_many' : Int32) (n_turns' : Nat → Int32) (n_children' : Nat → Int32), out = (none, (w_nm n_many' n_turns' n_children' m_many m_turns m_children), [], 0) ∧ Q n_many' n_turns' n_children'
theorem em_X3_takeFrom {X : Nat × (Nat → Int32)} {N : Nat} {m_many : Int32} {m_turns : Nat → Int32} {m_children : Nat → Int32} {n_many : Int32} {n_turns : Nat → Int32} {n_children : Nat → Int32} {Q : (Int32) → (Nat → Int32) → (Nat → Int32) → Prop} (h : wp_X3_takeFrom N m_many m_turns m_children Q n_many n_turns n_children) : EM (ax_GG X) m_X3_takeFrom [.ref 0, .ref 3] (w_nm n_many n_turns n_children m_many m_turns m_children) (po_X3_takeFrom m_many m_turns m_children Q) := by
  unfold wp_X3_takeFrom at h
  show EV _ _ _ (0, [some (.ref 0), some (.ref 3)], [], (w_nm n_many n_turns n_children m_many m_turns m_children), [], 0)
  obtain ⟨g1, h⟩ := h
  refine EV.seg (c' := (23, [some (.ref 0), some (.ref 3)], [], (w_nm m_many (va_cpy m_turns n_turns ((0 : Int32).toNatClampNeg) ((0 : Int32).toNatClampNeg) ((10 : Int32).toNatClampNeg)) n_children m_many m_turns m_children), [], 0)) 12 rfl (And.intro g1 trivial) ?_
  obtain ⟨a1, e_a1⟩ : ∃ z : Nat → Int32, z = va_cpy m_turns n_turns ((0 : Int32).toNatClampNeg) ((0 : Int32).toNatClampNeg) ((10 : Int32).toNatClampNeg) := ⟨_, rfl⟩
  have h := h a1 e_a1
  rw [← e_a1]
  obtain ⟨g1, h⟩ := h
  refine EV.seg (c' := (38, [some (.ref 0), some (.ref 3)], [], (w_nm m_many a1 (va_cpy m_children n_children ((0 : Int32).toNatClampNeg) ((0 : Int32).toNatClampNeg) ((10 : Int32).toNatClampNeg)) m_many m_turns m_children), [], 0)) 8 rfl (And.intro g1 trivial) ?_
  obtain ⟨a2, e_a2⟩ : ∃ z : Nat → Int32, z = va_cpy m_children n_children ((0 : Int32).toNatClampNeg) ((0 : Int32).toNatClampNeg) ((10 : Int32).toNatClampNeg) := ⟨_, rfl⟩
  have h := h a2 e_a2
  rw [← e_a2]
  exact EV.ret rfl trivial ⟨_, _, _, rfl, h⟩
abbrev po_X3_add  (Q : (Int32) → (Nat → Int32) → (Nat → Int32) → Prop) : ax_E → Prop := fun out => ∃ (n_many' : Int32) (n_turns' : Nat → Int32) (n_children' : Nat → Int32), out = (none, (w_n n_many' n_turns' n_children'), [], 0) ∧ Q n_many' n_turns' n_children'
theorem em_X3_add {X : Nat × (Nat → Int32)} {N : Nat}  {p0 : Int32} {p1 : Int32} {n_many : Int32} {n_turns : Nat → Int32} {n_children : Nat → Int32} {Q : (Int32) → (Nat → Int32) → (Nat → Int32) → Prop} (h : wp_X3_add N  Q p0 p1 n_many n_turns n_children) : EM (ax_GG X) m_X3_add [.ref 0, .int p0, .int p1] (w_n n_many n_turns n_children) (po_X3_add  Q) := by
  unfold wp_X3_add at h
  show EV _ _ _ (0, [some (.ref 0), some (.int p0), some (.int p1)], [], (w_n n_many n_turns n_children), [], 0)
  obtain ⟨g1, h⟩ := h
  refine EV.seg (c' := (10, [some (.ref 0), some (.int p0), some (.int p1)], [], (w_n n_many (upd n_turns n_many.toNatClampNeg p0) n_children), [], 0)) 6 rfl (And.intro g1 trivial) ?_
  obtain ⟨a1, e_a1⟩ : ∃ z : Nat → Int32, z = upd n_turns n_many.toNatClampNeg p0 := ⟨_, rfl⟩
  have h := h a1 e_a1
  rw [← e_a1]
  obtain ⟨g1, h⟩ := h
  refine EV.seg (c' := (20, [some (.ref 0), some (.int p0), some (.int p1)], [], (w_n n_many a1 (upd n_children n_many.toNatClampNeg p1)), [], 0)) 6 rfl (And.intro g1 trivial) ?_
  obtain ⟨a2, e_a2⟩ : ∃ z : Nat → Int32, z = upd n_children n_many.toNatClampNeg p1 := ⟨_, rfl⟩
  have h := h a2 e_a2
  rw [← e_a2]
  refine EV.seg (c' := (30, [some (.ref 0), some (.int p0), some (.int p1)], [], (w_n (n_many + (1 : Int32)) a1 a2), [], 0)) 6 rfl trivial ?_
  exact EV.ret rfl trivial ⟨_, _, _, rfl, h⟩
abbrev po_J9_max_7cf53 (w0 : ax_W) (Q : Int32 → Prop) : ax_E → Prop := fun out => ∃ (r : Int32), out = (some (.int r), w0, [], 0) ∧ Q r
theorem ok_J9_max_7cf53_10 {X : Nat × (Nat → Int32)} {N : Nat} {w0 : ax_W}  {Q : Int32 → Prop}  : ∀ (s0 : Int32), wp_J9_max_7cf53_10 N   Q  s0 → EV (ax_GG X) m_J9_max_7cf53 (po_J9_max_7cf53 w0 Q) (10, [none, none], [.int s0], w0, [], 0) := by
  intro s0 h
  unfold wp_J9_max_7cf53_10 at h
  exact EV.ret rfl trivial ⟨_, rfl, h⟩
theorem em_J9_max_7cf53 {X : Nat × (Nat → Int32)} {N : Nat} {w0 : ax_W} {p0 : Int32} {p1 : Int32} {Q : Int32 → Prop} (h : wp_J9_max_7cf53 N  Q p0 p1) : EM (ax_GG X) m_J9_max_7cf53 [.int p0, .int p1] w0 (po_J9_max_7cf53 w0 Q) := by
  unfold wp_J9_max_7cf53 at h
  show EV _ _ _ (0, [some (.int p0), some (.int p1)], [], w0, [], 0)
  refine EV.seg (c' := (2, [some (.int p0), some (.int p1)], [.int p1, .int p0], w0, [], 0)) 2 rfl trivial ?_
  refine EV.br (c1 := (9, [some (.int p0), some (.int p1)], [], w0, [], 0)) (c2 := (5, [some (.int p0), some (.int p1)], [], w0, [], 0)) rfl (fun hc => ?_) (fun hc => ?_)
  · have h := h.1 hc
    refine EV.seg (c' := (10, [some (.int p0), some (.int p1)], [.int p1], w0, [], 0)) 1 rfl trivial ?_
    refine EV.mask (ls' := [none, none]) rfl rfl ?_
    exact (ok_J9_max_7cf53_10 ) _ h
  · have h := h.2 hc
    refine EV.seg (c' := (10, [some (.int p0), some (.int p1)], [.int p0], w0, [], 0)) 2 rfl trivial ?_
    refine EV.mask (ls' := [none, none]) rfl rfl ?_
    exact (ok_J9_max_7cf53_10 ) _ h
abbrev po_X3_lastTurn (n_many : Int32) (n_turns : Nat → Int32) (n_children : Nat → Int32) (Q : Int32 → Prop) : ax_E → Prop := fun out => ∃ (r : Int32), out = (some (.int r), (w_n n_many n_turns n_children), [], 0) ∧ Q r
theorem ok_X3_lastTurn_4 {X : Nat × (Nat → Int32)} {N : Nat} {n_many : Int32} {n_turns : Nat → Int32} {n_children : Nat → Int32}  {Q : Int32 → Prop}  : ∀ (n : Nat) (v1 : Int32) (v2 : Int32), wp_X3_lastTurn_4 N n_many n_turns  Q n v1 v2 → EV (ax_GG X) m_X3_lastTurn (po_X3_lastTurn n_many n_turns n_children Q) (4, [some (.ref 0), some (.int v1), some (.int v2)], [], (w_n n_many n_turns n_children), [], 0) := by
  intro n
  induction n with
  | zero => intro _ _ h; exact h.elim
  | succ n ih =>
    intro v1 v2 h
    unfold wp_X3_lastTurn_4 at h
    refine EV.seg (c' := (9, [some (.ref 0), some (.int v1), some (.int v2)], [.int n_many, .int v2], (w_n n_many n_turns n_children), [], 0)) 3 rfl trivial ?_
    refine EV.br (c1 := (29, [some (.ref 0), some (.int v1), some (.int v2)], [], (w_n n_many n_turns n_children), [], 0)) (c2 := (12, [some (.ref 0), some (.int v1), some (.int v2)], [], (w_n n_many n_turns n_children), [], 0)) rfl (fun hc => ?_) (fun hc => ?_)
    · have h := h.1 hc
      refine EV.seg (c' := (30, [some (.ref 0), some (.int v1), some (.int v2)], [.int v1], (w_n n_many n_turns n_children), [], 0)) 1 rfl trivial ?_
      exact EV.ret rfl trivial ⟨_, rfl, h⟩
    · have h := h.2 hc
      obtain ⟨g1, h⟩ := h
      refine EV.seg (c' := (19, [some (.ref 0), some (.int v1), some (.int v2)], [.int (n_turns v2.toNatClampNeg), .int v1], (w_n n_many n_turns n_children), [], 0)) 5 rfl (And.intro g1 trivial) ?_
      refine EV.call (M' := m_J9_max_7cf53) rfl rfl (Nat.le_of_ble_eq_true rfl) (em_J9_max_7cf53  h) (fun out ho => ?_)
      obtain ⟨r1, rfl, h⟩ := ho
      show EV _ _ _ (22, [some (.ref 0), some (.int v1), some (.int v2)], [.int r1], (w_n n_many n_turns n_children), [], 0)
      refine EV.seg (c' := (4, [some (.ref 0), some (.int r1), some (.int (v2 + 1))], [], (w_n n_many n_turns n_children), [], 0)) 3 rfl trivial ?_
      exact ih _ _ h
theorem em_X3_lastTurn {X : Nat × (Nat → Int32)} {N : Nat} {n_many : Int32} {n_turns : Nat → Int32} {n_children : Nat → Int32}  {Q : Int32 → Prop} (h : wp_X3_lastTurn N n_many n_turns Q ) : EM (ax_GG X) m_X3_lastTurn [.ref 0] (w_n n_many n_turns n_children) (po_X3_lastTurn n_many n_turns n_children Q) := by
  unfold wp_X3_lastTurn at h
  show EV _ _ _ (0, [some (.ref 0), none, none], [], (w_n n_many n_turns n_children), [], 0)
  refine EV.seg (c' := (4, [some (.ref 0), some (.int (-1 : Int32)), some (.int (0 : Int32))], [], (w_n n_many n_turns n_children), [], 0)) 4 rfl trivial ?_
  exact (ok_X3_lastTurn_4  N) _ _ h
abbrev po_X3_allow (n_many : Int32) (n_turns : Nat → Int32) (n_children : Nat → Int32) (Q : Int32 → Prop) : ax_E → Prop := fun out => ∃ (r : Int32), out = (some (.int r), (w_n n_many n_turns n_children), [], 0) ∧ Q r
theorem ok_X3_allow_32 {X : Nat × (Nat → Int32)} {N : Nat} {n_many : Int32} {n_turns : Nat → Int32} {n_children : Nat → Int32} {K2 : (Int32) → (Int32) → (Int32) → Prop} {Q : Int32 → Prop} (hK2 : ∀ (v1 : Int32) (v2 : Int32) (v3 : Int32), K2 v1 v2 v3 → EV (ax_GG X) m_X3_allow (po_X3_allow n_many n_turns n_children Q) (2, [some (.ref 0), some (.int v1), some (.int v2), some (.int v3)], [], (w_n n_many n_turns n_children), [], 0)) : ∀ (v1 : Int32) (v2 : Int32) (v3 : Int32), wp_X3_allow_32 N n_many n_turns n_children K2 Q  v1 v2 v3 → EV (ax_GG X) m_X3_allow (po_X3_allow n_many n_turns n_children Q) (32, [some (.ref 0), some (.int v1), some (.int v2), some (.int v3)], [], (w_n n_many n_turns n_children), [], 0) := by
  intro v1 v2 v3 h
  unfold wp_X3_allow_32 at h
  refine EV.seg (c' := (2, [some (.ref 0), some (.int v1), some (.int v2), some (.int (v3 + 1))], [], (w_n n_many n_turns n_children), [], 0)) 2 rfl trivial ?_
  exact hK2 _ _ _ h
theorem ok_X3_allow_2 {X : Nat × (Nat → Int32)} {N : Nat} {n_many : Int32} {n_turns : Nat → Int32} {n_children : Nat → Int32}  {Q : Int32 → Prop}  : ∀ (n : Nat) (v1 : Int32) (v2 : Int32) (v3 : Int32), wp_X3_allow_2 N n_many n_turns n_children  Q n v1 v2 v3 → EV (ax_GG X) m_X3_allow (po_X3_allow n_many n_turns n_children Q) (2, [some (.ref 0), some (.int v1), some (.int v2), some (.int v3)], [], (w_n n_many n_turns n_children), [], 0) := by
  intro n
  induction n with
  | zero => intro _ _ _ h; exact h.elim
  | succ n ih =>
    intro v1 v2 v3 h
    unfold wp_X3_allow_2 at h
    refine EV.seg (c' := (7, [some (.ref 0), some (.int v1), some (.int v2), some (.int v3)], [.int n_many, .int v3], (w_n n_many n_turns n_children), [], 0)) 3 rfl trivial ?_
    refine EV.br (c1 := (38, [some (.ref 0), some (.int v1), some (.int v2), some (.int v3)], [], (w_n n_many n_turns n_children), [], 0)) (c2 := (10, [some (.ref 0), some (.int v1), some (.int v2), some (.int v3)], [], (w_n n_many n_turns n_children), [], 0)) rfl (fun hc => ?_) (fun hc => ?_)
    · have h := h.1 hc
      refine EV.seg (c' := (39, [some (.ref 0), some (.int v1), some (.int v2), some (.int v3)], [.int (1 : Int32)], (w_n n_many n_turns n_children), [], 0)) 1 rfl trivial ?_
      exact EV.ret rfl (Or.inr rfl) ⟨_, rfl, h⟩
    · have h := h.2 hc
      obtain ⟨g1, h⟩ := h
      refine EV.seg (c' := (17, [some (.ref 0), some (.int v1), some (.int v2), some (.int v3)], [.int v1, .int (n_turns v3.toNatClampNeg)], (w_n n_many n_turns n_children), [], 0)) 5 rfl (And.intro g1 trivial) ?_
      refine EV.br (c1 := (20, [some (.ref 0), some (.int v1), some (.int v2), some (.int v3)], [], (w_n n_many n_turns n_children), [], 0)) (c2 := (32, [some (.ref 0), some (.int v1), some (.int v2), some (.int v3)], [], (w_n n_many n_turns n_children), [], 0)) rfl (fun hc => ?_) (fun hc => ?_)
      · have h := h.1 hc
        obtain ⟨g1, h⟩ := h
        refine EV.seg (c' := (27, [some (.ref 0), some (.int v1), some (.int v2), some (.int v3)], [.int v2, .int (n_children v3.toNatClampNeg)], (w_n n_many n_turns n_children), [], 0)) 5 rfl (And.intro g1 trivial) ?_
        refine EV.br (c1 := (32, [some (.ref 0), some (.int v1), some (.int v2), some (.int v3)], [], (w_n n_many n_turns n_children), [], 0)) (c2 := (30, [some (.ref 0), some (.int v1), some (.int v2), some (.int v3)], [], (w_n n_many n_turns n_children), [], 0)) rfl (fun hc => ?_) (fun hc => ?_)
        · have h := h.1 hc
          exact (ok_X3_allow_32 ih) _ _ _ h
        · have h := h.2 hc
          refine EV.seg (c' := (31, [some (.ref 0), some (.int v1), some (.int v2), some (.int v3)], [.int (0 : Int32)], (w_n n_many n_turns n_children), [], 0)) 1 rfl trivial ?_
          exact EV.ret rfl (Or.inl rfl) ⟨_, rfl, h⟩
      · have h := h.2 hc
        exact (ok_X3_allow_32 ih) _ _ _ h
theorem em_X3_allow {X : Nat × (Nat → Int32)} {N : Nat} {n_many : Int32} {n_turns : Nat → Int32} {n_children : Nat → Int32} {p0 : Int32} {p1 : Int32} {Q : Int32 → Prop} (h : wp_X3_allow N n_many n_turns n_children Q p0 p1) : EM (ax_GG X) m_X3_allow [.ref 0, .int p0, .int p1] (w_n n_many n_turns n_children) (po_X3_allow n_many n_turns n_children Q) := by
  unfold wp_X3_allow at h
  show EV _ _ _ (0, [some (.ref 0), some (.int p0), some (.int p1), none], [], (w_n n_many n_turns n_children), [], 0)
  refine EV.seg (c' := (2, [some (.ref 0), some (.int p0), some (.int p1), some (.int (0 : Int32))], [], (w_n n_many n_turns n_children), [], 0)) 2 rfl trivial ?_
  exact (ok_X3_allow_2  N) _ _ _ h
abbrev po_X5_leapableBy (l_told : Int32) (l_spring : Int32) (l_many : Int32) (l_back : Nat → Int32) (l_leap : Nat → Int32) (l_breath : Nat → Int32) (g_turn : Int32) (g_order : Nat → Int32) (g_back : Nat → Int32) (g_breath : Nat → Int32) (g_leapt : Nat → Int32) (Q : Int32 → Prop) : ax_E → Prop := fun out => ∃ (r : Int32), out = (some (.int r), (w_lg l_told l_spring l_many l_back l_leap l_breath g_turn g_order g_back g_breath g_leapt), [], 0) ∧ Q r
theorem ok_X5_leapableBy_39 {X : Nat × (Nat → Int32)} {N : Nat} {l_told : Int32} {l_spring : Int32} {l_many : Int32} {l_back : Nat → Int32} {l_leap : Nat → Int32} {l_breath : Nat → Int32} {g_turn : Int32} {g_order : Nat → Int32} {g_back : Nat → Int32} {g_breath : Nat → Int32} {g_leapt : Nat → Int32} {K5 : (Int32) → (Int32) → (Int32) → Prop} {Q : Int32 → Prop} (hK5 : ∀ (v2 : Int32) (v3 : Int32) (v4 : Int32), K5 v2 v3 v4 → EV (ax_GG X) m_X5_leapableBy (po_X5_leapableBy l_told l_spring l_many l_back l_leap l_breath g_turn g_order g_back g_breath g_leapt Q) (5, [some (.ref 0), some (.ref 4), some (.int v2), some (.int v3), some (.int v4)], [], (w_lg l_told l_spring l_many l_back l_leap l_breath g_turn g_order g_back g_breath g_leapt), [], 0)) : ∀ (v2 : Int32) (v4 : Int32) (s0 : Int32) (s1 : Int32), wp_X5_leapableBy_39 N l_many l_leap g_back K5 Q  v2 v4 s0 s1 → EV (ax_GG X) m_X5_leapableBy (po_X5_leapableBy l_told l_spring l_many l_back l_leap l_breath g_turn g_order g_back g_breath g_leapt Q) (39, [some (.ref 0), some (.ref 4), some (.int v2), none, some (.int v4)], [.int s0, .int s1], (w_lg l_told l_spring l_many l_back l_leap l_breath g_turn g_order g_back g_breath g_leapt), [], 0) := by
  intro v2 v4 s0 s1 h
  unfold wp_X5_leapableBy_39 at h
  refine EV.seg (c' := (41, [some (.ref 0), some (.ref 4), some (.int v2), some (.int (s1 ||| s0)), some (.int v4)], [], (w_lg l_told l_spring l_many l_back l_leap l_breath g_turn g_order g_back g_breath g_leapt), [], 0)) 2 rfl trivial ?_
  obtain ⟨x1, e_x1⟩ : ∃ z : Int32, z = s1 ||| s0 := ⟨_, rfl⟩
  have h := h x1 e_x1
  rw [← e_x1]
  refine EV.seg (c' := (5, [some (.ref 0), some (.ref 4), some (.int v2), some (.int x1), some (.int (v4 + 1))], [], (w_lg l_told l_spring l_many l_back l_leap l_breath g_turn g_order g_back g_breath g_leapt), [], 0)) 2 rfl trivial ?_
  exact hK5 _ _ _ h
theorem ok_X5_leapableBy_5 {X : Nat × (Nat → Int32)} {N : Nat} {l_told : Int32} {l_spring : Int32} {l_many : Int32} {l_back : Nat → Int32} {l_leap : Nat → Int32} {l_breath : Nat → Int32} {g_turn : Int32} {g_order : Nat → Int32} {g_back : Nat → Int32} {g_breath : Nat → Int32} {g_leapt : Nat → Int32}  {Q : Int32 → Prop}  : ∀ (n : Nat) (v2 : Int32) (v3 : Int32) (v4 : Int32), wp_X5_leapableBy_5 N l_many l_leap g_back  Q n v2 v3 v4 → EV (ax_GG X) m_X5_leapableBy (po_X5_leapableBy l_told l_spring l_many l_back l_leap l_breath g_turn g_order g_back g_breath g_leapt Q) (5, [some (.ref 0), some (.ref 4), some (.int v2), some (.int v3), some (.int v4)], [], (w_lg l_told l_spring l_many l_back l_leap l_breath g_turn g_order g_back g_breath g_leapt), [], 0) := by
  intro n
  induction n with
  | zero => intro _ _ _ h; exact h.elim
  | succ n ih =>
    intro v2 v3 v4 h
    unfold wp_X5_leapableBy_5 at h
    refine EV.seg (c' := (11, [some (.ref 0), some (.ref 4), some (.int v2), some (.int v3), some (.int v4)], [.int l_many, .int v4], (w_lg l_told l_spring l_many l_back l_leap l_breath g_turn g_order g_back g_breath g_leapt), [], 0)) 3 rfl trivial ?_
    refine EV.br (c1 := (47, [some (.ref 0), some (.ref 4), some (.int v2), some (.int v3), some (.int v4)], [], (w_lg l_told l_spring l_many l_back l_leap l_breath g_turn g_order g_back g_breath g_leapt), [], 0)) (c2 := (14, [some (.ref 0), some (.ref 4), some (.int v2), some (.int v3), some (.int v4)], [], (w_lg l_told l_spring l_many l_back l_leap l_breath g_turn g_order g_back g_breath g_leapt), [], 0)) rfl (fun hc => ?_) (fun hc => ?_)
    · have h := h.1 hc
      refine EV.seg (c' := (48, [some (.ref 0), some (.ref 4), some (.int v2), some (.int v3), some (.int v4)], [.int v3], (w_lg l_told l_spring l_many l_back l_leap l_breath g_turn g_order g_back g_breath g_leapt), [], 0)) 1 rfl trivial ?_
      exact EV.ret rfl trivial ⟨_, rfl, h⟩
    · have h := h.2 hc
      obtain ⟨g1, g2, h⟩ := h
      refine EV.seg (c' := (28, [some (.ref 0), some (.ref 4), some (.int v2), some (.int v3), some (.int v4)], [.int (l_leap v2.toNatClampNeg), .int (g_back v4.toNatClampNeg), .int v3], (w_lg l_told l_spring l_many l_back l_leap l_breath g_turn g_order g_back g_breath g_leapt), [], 0)) 9 rfl (And.intro g1 (And.intro g2 trivial)) ?_
      refine EV.br (c1 := (38, [some (.ref 0), some (.ref 4), some (.int v2), some (.int v3), some (.int v4)], [.int v3], (w_lg l_told l_spring l_many l_back l_leap l_breath g_turn g_order g_back g_breath g_leapt), [], 0)) (c2 := (31, [some (.ref 0), some (.ref 4), some (.int v2), some (.int v3), some (.int v4)], [.int v3], (w_lg l_told l_spring l_many l_back l_leap l_breath g_turn g_order g_back g_breath g_leapt), [], 0)) rfl (fun hc => ?_) (fun hc => ?_)
      · have h := h.1 hc
        refine EV.seg (c' := (39, [some (.ref 0), some (.ref 4), some (.int v2), some (.int v3), some (.int v4)], [.int (0 : Int32), .int v3], (w_lg l_told l_spring l_many l_back l_leap l_breath g_turn g_order g_back g_breath g_leapt), [], 0)) 1 rfl trivial ?_
        refine EV.mask (ls' := [some (.ref 0), some (.ref 4), some (.int v2), none, some (.int v4)]) rfl rfl ?_
        exact (ok_X5_leapableBy_39 ih) _ _ _ _ h
      · have h := h.2 hc
        refine EV.seg (c' := (39, [some (.ref 0), some (.ref 4), some (.int v2), some (.int v3), some (.int v4)], [.int ((1 : Int32) <<< (v4 &&& 31)), .int v3], (w_lg l_told l_spring l_many l_back l_leap l_breath g_turn g_order g_back g_breath g_leapt), [], 0)) 4 rfl trivial ?_
        refine EV.mask (ls' := [some (.ref 0), some (.ref 4), some (.int v2), none, some (.int v4)]) rfl rfl ?_
        exact (ok_X5_leapableBy_39 ih) _ _ _ _ h
theorem em_X5_leapableBy {X : Nat × (Nat → Int32)} {N : Nat} {l_told : Int32} {l_spring : Int32} {l_many : Int32} {l_back : Nat → Int32} {l_leap : Nat → Int32} {l_breath : Nat → Int32} {g_turn : Int32} {g_order : Nat → Int32} {g_back : Nat → Int32} {g_breath : Nat → Int32} {g_leapt : Nat → Int32} {p0 : Int32} {Q : Int32 → Prop} (h : wp_X5_leapableBy N l_many l_leap g_back Q p0) : EM (ax_GG X) m_X5_leapableBy [.ref 0, .ref 4, .int p0] (w_lg l_told l_spring l_many l_back l_leap l_breath g_turn g_order g_back g_breath g_leapt) (po_X5_leapableBy l_told l_spring l_many l_back l_leap l_breath g_turn g_order g_back g_breath g_leapt Q) := by
  unfold wp_X5_leapableBy at h
  show EV _ _ _ (0, [some (.ref 0), some (.ref 4), some (.int p0), none, none], [], (w_lg l_told l_spring l_many l_back l_leap l_breath g_turn g_order g_back g_breath g_leapt), [], 0)
  refine EV.seg (c' := (5, [some (.ref 0), some (.ref 4), some (.int p0), some (.int (0 : Int32)), some (.int (0 : Int32))], [], (w_lg l_told l_spring l_many l_back l_leap l_breath g_turn g_order g_back g_breath g_leapt), [], 0)) 4 rfl trivial ?_
  exact (ok_X5_leapableBy_5  N) _ _ _ h
abbrev po_X5_isAsExplored (e_many : Int32) (e_spring : Int32) (e_leapable : Nat → Int32) (e_found : Int32) (e_whereOf : Nat → Int32) (e_rows : Nat → Int32) (e_from : Nat → Int32) (e_depth : Nat → Int32) (e_order : Nat → Int32) (e_places : Nat → Int32) (e_lesser : Nat → Int32) (l_told : Int32) (l_spring : Int32) (l_many : Int32) (l_back : Nat → Int32) (l_leap : Nat → Int32) (l_breath : Nat → Int32) (g_turn : Int32) (g_order : Nat → Int32) (g_back : Nat → Int32) (g_breath : Nat → Int32) (g_leapt : Nat → Int32) (Q : Int32 → Prop) : ax_E → Prop := fun out => ∃ (r : Int32), out = (some (.int r), (w_elg e_many e_spring e_leapable e_found e_whereOf e_rows e_from e_depth e_order e_places e_lesser l_told l_spring l_many l_back l_leap l_breath g_turn g_order g_back g_breath g_leapt), [], 0) ∧ Q r
theorem ok_X5_isAsExplored_77 {X : Nat × (Nat → Int32)} {N : Nat} {e_many : Int32} {e_spring : Int32} {e_leapable : Nat → Int32} {e_found : Int32} {e_whereOf : Nat → Int32} {e_rows : Nat → Int32} {e_from : Nat → Int32} {e_depth : Nat → Int32} {e_order : Nat → Int32} {e_places : Nat → Int32} {e_lesser : Nat → Int32} {l_told : Int32} {l_spring : Int32} {l_many : Int32} {l_back : Nat → Int32} {l_leap : Nat → Int32} {l_breath : Nat → Int32} {g_turn : Int32} {g_order : Nat → Int32} {g_back : Nat → Int32} {g_breath : Nat → Int32} {g_leapt : Nat → Int32}  {Q : Int32 → Prop}  : wp_X5_isAsExplored_77 N e_many e_spring e_leapable e_rows l_spring l_many l_leap g_order g_back  Q   → EV (ax_GG X) m_X5_isAsExplored (po_X5_isAsExplored e_many e_spring e_leapable e_found e_whereOf e_rows e_from e_depth e_order e_places e_lesser l_told l_spring l_many l_back l_leap l_breath g_turn g_order g_back g_breath g_leapt Q) (77, [none, none, none, none, none], [], (w_elg e_many e_spring e_leapable e_found e_whereOf e_rows e_from e_depth e_order e_places e_lesser l_told l_spring l_many l_back l_leap l_breath g_turn g_order g_back g_breath g_leapt), [], 0) := by
  intro  h
  unfold wp_X5_isAsExplored_77 at h
  refine EV.seg (c' := (78, [none, none, none, none, none], [.int (0 : Int32)], (w_elg e_many e_spring e_leapable e_found e_whereOf e_rows e_from e_depth e_order e_places e_lesser l_told l_spring l_many l_back l_leap l_breath g_turn g_order g_back g_breath g_leapt), [], 0)) 1 rfl trivial ?_
  exact EV.ret rfl (Or.inl rfl) ⟨_, rfl, h⟩
theorem ok_X5_isAsExplored_26 {X : Nat × (Nat → Int32)} {N : Nat} {e_many : Int32} {e_spring : Int32} {e_leapable : Nat → Int32} {e_found : Int32} {e_whereOf : Nat → Int32} {e_rows : Nat → Int32} {e_from : Nat → Int32} {e_depth : Nat → Int32} {e_order : Nat → Int32} {e_places : Nat → Int32} {e_lesser : Nat → Int32} {l_told : Int32} {l_spring : Int32} {l_many : Int32} {l_back : Nat → Int32} {l_leap : Nat → Int32} {l_breath : Nat → Int32} {g_turn : Int32} {g_order : Nat → Int32} {g_back : Nat → Int32} {g_breath : Nat → Int32} {g_leapt : Nat → Int32}  {Q : Int32 → Prop}  : ∀ (n : Nat) (v3 : Int32), wp_X5_isAsExplored_26 N e_many e_spring e_leapable e_rows l_spring l_many l_leap g_order g_back  Q n v3 → EV (ax_GG X) m_X5_isAsExplored (po_X5_isAsExplored e_many e_spring e_leapable e_found e_whereOf e_rows e_from e_depth e_order e_places e_lesser l_told l_spring l_many l_back l_leap l_breath g_turn g_order g_back g_breath g_leapt Q) (26, [some (.ref 0), some (.ref 9), some (.ref 13), some (.int v3), none], [], (w_elg e_many e_spring e_leapable e_found e_whereOf e_rows e_from e_depth e_order e_places e_lesser l_told l_spring l_many l_back l_leap l_breath g_turn g_order g_back g_breath g_leapt), [], 0) := by
  intro n
  induction n with
  | zero => intro _ h; exact h.elim
  | succ n ih =>
    intro v3 h
    unfold wp_X5_isAsExplored_26 at h
    refine EV.seg (c' := (31, [some (.ref 0), some (.ref 9), some (.ref 13), some (.int v3), none], [.int e_many, .int v3], (w_elg e_many e_spring e_leapable e_found e_whereOf e_rows e_from e_depth e_order e_places e_lesser l_told l_spring l_many l_back l_leap l_breath g_turn g_order g_back g_breath g_leapt), [], 0)) 3 rfl trivial ?_
    refine EV.br (c1 := (85, [some (.ref 0), some (.ref 9), some (.ref 13), some (.int v3), none], [], (w_elg e_many e_spring e_leapable e_found e_whereOf e_rows e_from e_depth e_order e_places e_lesser l_told l_spring l_many l_back l_leap l_breath g_turn g_order g_back g_breath g_leapt), [], 0)) (c2 := (34, [some (.ref 0), some (.ref 9), some (.ref 13), some (.int v3), none], [], (w_elg e_many e_spring e_leapable e_found e_whereOf e_rows e_from e_depth e_order e_places e_lesser l_told l_spring l_many l_back l_leap l_breath g_turn g_order g_back g_breath g_leapt), [], 0)) rfl (fun hc => ?_) (fun hc => ?_)
    · have h := h.1 hc
      refine EV.seg (c' := (86, [some (.ref 0), some (.ref 9), some (.ref 13), some (.int v3), none], [.int (1 : Int32)], (w_elg e_many e_spring e_leapable e_found e_whereOf e_rows e_from e_depth e_order e_places e_lesser l_told l_spring l_many l_back l_leap l_breath g_turn g_order g_back g_breath g_leapt), [], 0)) 1 rfl trivial ?_
      exact EV.ret rfl (Or.inr rfl) ⟨_, rfl, h⟩
    · have h := h.2 hc
      obtain ⟨g1, h⟩ := h
      refine EV.seg (c' := (42, [some (.ref 0), some (.ref 9), some (.ref 13), some (.int v3), some (.int (g_order v3.toNatClampNeg))], [], (w_elg e_many e_spring e_leapable e_found e_whereOf e_rows e_from e_depth e_order e_places e_lesser l_told l_spring l_many l_back l_leap l_breath g_turn g_order g_back g_breath g_leapt), [], 0)) 5 rfl (And.intro g1 trivial) ?_
      obtain ⟨x1, e_x1⟩ : ∃ z : Int32, z = g_order v3.toNatClampNeg := ⟨_, rfl⟩
      have h := h x1 e_x1
      rw [← e_x1]
      obtain ⟨g1, h⟩ := h
      refine EV.seg (c' := (57, [some (.ref 0), some (.ref 9), some (.ref 13), some (.int v3), some (.int x1)], [.int x1, .int (((e_rows (0 : Int32).toNatClampNeg) >>> (((3 : Int32) * v3) &&& 31)) &&& (7 : Int32))], (w_elg e_many e_spring e_leapable e_found e_whereOf e_rows e_from e_depth e_order e_places e_lesser l_told l_spring l_many l_back l_leap l_breath g_turn g_order g_back g_breath g_leapt), [], 0)) 11 rfl (And.intro g1 trivial) ?_
      refine EV.br (c1 := (60, [some (.ref 0), some (.ref 9), some (.ref 13), some (.int v3), some (.int x1)], [], (w_elg e_many e_spring e_leapable e_found e_whereOf e_rows e_from e_depth e_order e_places e_lesser l_told l_spring l_many l_back l_leap l_breath g_turn g_order g_back g_breath g_leapt), [], 0)) (c2 := (77, [some (.ref 0), some (.ref 9), some (.ref 13), some (.int v3), some (.int x1)], [], (w_elg e_many e_spring e_leapable e_found e_whereOf e_rows e_from e_depth e_order e_places e_lesser l_told l_spring l_many l_back l_leap l_breath g_turn g_order g_back g_breath g_leapt), [], 0)) rfl (fun hc => ?_) (fun hc => ?_)
      · have h := h.1 hc
        obtain ⟨g1, h⟩ := h
        refine EV.seg (c' := (71, [some (.ref 0), some (.ref 9), some (.ref 13), some (.int v3), some (.int x1)], [.int x1, .ref 13, .ref 9, .int (e_leapable x1.toNatClampNeg)], (w_elg e_many e_spring e_leapable e_found e_whereOf e_rows e_from e_depth e_order e_places e_lesser l_told l_spring l_many l_back l_leap l_breath g_turn g_order g_back g_breath g_leapt), [], 0)) 7 rfl (And.intro g1 trivial) ?_
        refine EV.callL (M' := m_X5_leapableBy) (L := [9, 10, 11, 12, 13, 14, 15, 16, 17]) rfl rfl ⟨rfl, Nat.le_of_ble_eq_true rfl⟩ rfl rfl (em_X5_leapableBy (l_told := l_told) (l_spring := l_spring) (l_many := l_many) (l_back := l_back) (l_leap := l_leap) (l_breath := l_breath) (g_turn := g_turn) (g_order := g_order) (g_back := g_back) (g_breath := g_breath) (g_leapt := g_leapt)  h) (fun out ho => ?_)
        obtain ⟨r2, rfl, h⟩ := ho
        show EV _ _ _ (74, [some (.ref 0), some (.ref 9), some (.ref 13), some (.int v3), some (.int x1)], [.int r2, .int (e_leapable x1.toNatClampNeg)], (w_elg e_many e_spring e_leapable e_found e_whereOf e_rows e_from e_depth e_order e_places e_lesser l_told l_spring l_many l_back l_leap l_breath g_turn g_order g_back g_breath g_leapt), [], 0)
        refine EV.br (c1 := (79, [some (.ref 0), some (.ref 9), some (.ref 13), some (.int v3), some (.int x1)], [], (w_elg e_many e_spring e_leapable e_found e_whereOf e_rows e_from e_depth e_order e_places e_lesser l_told l_spring l_many l_back l_leap l_breath g_turn g_order g_back g_breath g_leapt), [], 0)) (c2 := (77, [some (.ref 0), some (.ref 9), some (.ref 13), some (.int v3), some (.int x1)], [], (w_elg e_many e_spring e_leapable e_found e_whereOf e_rows e_from e_depth e_order e_places e_lesser l_told l_spring l_many l_back l_leap l_breath g_turn g_order g_back g_breath g_leapt), [], 0)) rfl (fun hc => ?_) (fun hc => ?_)
        · have h := h.1 hc
          refine EV.seg (c' := (26, [some (.ref 0), some (.ref 9), some (.ref 13), some (.int (v3 + 1)), some (.int x1)], [], (w_elg e_many e_spring e_leapable e_found e_whereOf e_rows e_from e_depth e_order e_places e_lesser l_told l_spring l_many l_back l_leap l_breath g_turn g_order g_back g_breath g_leapt), [], 0)) 2 rfl trivial ?_
          refine EV.mask (ls' := [some (.ref 0), some (.ref 9), some (.ref 13), some (.int (v3 + 1)), none]) rfl rfl ?_
          exact ih _ h
        · have h := h.2 hc
          refine EV.mask (ls' := [none, none, none, none, none]) rfl rfl ?_
          exact (ok_X5_isAsExplored_77 )  h
      · have h := h.2 hc
        refine EV.mask (ls' := [none, none, none, none, none]) rfl rfl ?_
        exact (ok_X5_isAsExplored_77 )  h
theorem ok_X5_isAsExplored_22 {X : Nat × (Nat → Int32)} {N : Nat} {e_many : Int32} {e_spring : Int32} {e_leapable : Nat → Int32} {e_found : Int32} {e_whereOf : Nat → Int32} {e_rows : Nat → Int32} {e_from : Nat → Int32} {e_depth : Nat → Int32} {e_order : Nat → Int32} {e_places : Nat → Int32} {e_lesser : Nat → Int32} {l_told : Int32} {l_spring : Int32} {l_many : Int32} {l_back : Nat → Int32} {l_leap : Nat → Int32} {l_breath : Nat → Int32} {g_turn : Int32} {g_order : Nat → Int32} {g_back : Nat → Int32} {g_breath : Nat → Int32} {g_leapt : Nat → Int32}  {Q : Int32 → Prop}  : wp_X5_isAsExplored_22 N e_many e_spring e_leapable e_rows l_spring l_many l_leap g_order g_back  Q   → EV (ax_GG X) m_X5_isAsExplored (po_X5_isAsExplored e_many e_spring e_leapable e_found e_whereOf e_rows e_from e_depth e_order e_places e_lesser l_told l_spring l_many l_back l_leap l_breath g_turn g_order g_back g_breath g_leapt Q) (22, [none, none, none, none, none], [], (w_elg e_many e_spring e_leapable e_found e_whereOf e_rows e_from e_depth e_order e_places e_lesser l_told l_spring l_many l_back l_leap l_breath g_turn g_order g_back g_breath g_leapt), [], 0) := by
  intro  h
  unfold wp_X5_isAsExplored_22 at h
  refine EV.seg (c' := (23, [none, none, none, none, none], [.int (0 : Int32)], (w_elg e_many e_spring e_leapable e_found e_whereOf e_rows e_from e_depth e_order e_places e_lesser l_told l_spring l_many l_back l_leap l_breath g_turn g_order g_back g_breath g_leapt), [], 0)) 1 rfl trivial ?_
  exact EV.ret rfl (Or.inl rfl) ⟨_, rfl, h⟩
theorem em_X5_isAsExplored {X : Nat × (Nat → Int32)} {N : Nat} {e_many : Int32} {e_spring : Int32} {e_leapable : Nat → Int32} {e_found : Int32} {e_whereOf : Nat → Int32} {e_rows : Nat → Int32} {e_from : Nat → Int32} {e_depth : Nat → Int32} {e_order : Nat → Int32} {e_places : Nat → Int32} {e_lesser : Nat → Int32} {l_told : Int32} {l_spring : Int32} {l_many : Int32} {l_back : Nat → Int32} {l_leap : Nat → Int32} {l_breath : Nat → Int32} {g_turn : Int32} {g_order : Nat → Int32} {g_back : Nat → Int32} {g_breath : Nat → Int32} {g_leapt : Nat → Int32}  {Q : Int32 → Prop} (h : wp_X5_isAsExplored N e_many e_spring e_leapable e_rows l_spring l_many l_leap g_order g_back Q ) : EM (ax_GG X) m_X5_isAsExplored [.ref 0, .ref 9, .ref 13] (w_elg e_many e_spring e_leapable e_found e_whereOf e_rows e_from e_depth e_order e_places e_lesser l_told l_spring l_many l_back l_leap l_breath g_turn g_order g_back g_breath g_leapt) (po_X5_isAsExplored e_many e_spring e_leapable e_found e_whereOf e_rows e_from e_depth e_order e_places e_lesser l_told l_spring l_many l_back l_leap l_breath g_turn g_order g_back g_breath g_leapt Q) := by
  unfold wp_X5_isAsExplored at h
  show EV _ _ _ (0, [some (.ref 0), some (.ref 9), some (.ref 13), none, none], [], (w_elg e_many e_spring e_leapable e_found e_whereOf e_rows e_from e_depth e_order e_places e_lesser l_told l_spring l_many l_back l_leap l_breath g_turn g_order g_back g_breath g_leapt), [], 0)
  refine EV.seg (c' := (8, [some (.ref 0), some (.ref 9), some (.ref 13), none, none], [.int e_many, .int l_many], (w_elg e_many e_spring e_leapable e_found e_whereOf e_rows e_from e_depth e_order e_places e_lesser l_told l_spring l_many l_back l_leap l_breath g_turn g_order g_back g_breath g_leapt), [], 0)) 4 rfl trivial ?_
  refine EV.br (c1 := (11, [some (.ref 0), some (.ref 9), some (.ref 13), none, none], [], (w_elg e_many e_spring e_leapable e_found e_whereOf e_rows e_from e_depth e_order e_places e_lesser l_told l_spring l_many l_back l_leap l_breath g_turn g_order g_back g_breath g_leapt), [], 0)) (c2 := (22, [some (.ref 0), some (.ref 9), some (.ref 13), none, none], [], (w_elg e_many e_spring e_leapable e_found e_whereOf e_rows e_from e_depth e_order e_places e_lesser l_told l_spring l_many l_back l_leap l_breath g_turn g_order g_back g_breath g_leapt), [], 0)) rfl (fun hc => ?_) (fun hc => ?_)
  · have h := h.1 hc
    refine EV.seg (c' := (19, [some (.ref 0), some (.ref 9), some (.ref 13), none, none], [.int e_spring, .int l_spring], (w_elg e_many e_spring e_leapable e_found e_whereOf e_rows e_from e_depth e_order e_places e_lesser l_told l_spring l_many l_back l_leap l_breath g_turn g_order g_back g_breath g_leapt), [], 0)) 4 rfl trivial ?_
    refine EV.br (c1 := (24, [some (.ref 0), some (.ref 9), some (.ref 13), none, none], [], (w_elg e_many e_spring e_leapable e_found e_whereOf e_rows e_from e_depth e_order e_places e_lesser l_told l_spring l_many l_back l_leap l_breath g_turn g_order g_back g_breath g_leapt), [], 0)) (c2 := (22, [some (.ref 0), some (.ref 9), some (.ref 13), none, none], [], (w_elg e_many e_spring e_leapable e_found e_whereOf e_rows e_from e_depth e_order e_places e_lesser l_told l_spring l_many l_back l_leap l_breath g_turn g_order g_back g_breath g_leapt), [], 0)) rfl (fun hc => ?_) (fun hc => ?_)
    · have h := h.1 hc
      refine EV.seg (c' := (26, [some (.ref 0), some (.ref 9), some (.ref 13), some (.int (0 : Int32)), none], [], (w_elg e_many e_spring e_leapable e_found e_whereOf e_rows e_from e_depth e_order e_places e_lesser l_told l_spring l_many l_back l_leap l_breath g_turn g_order g_back g_breath g_leapt), [], 0)) 2 rfl trivial ?_
      exact (ok_X5_isAsExplored_26  N) _ h
    · have h := h.2 hc
      refine EV.mask (ls' := [none, none, none, none, none]) rfl rfl ?_
      exact (ok_X5_isAsExplored_22 )  h
  · have h := h.2 hc
    refine EV.mask (ls' := [none, none, none, none, none]) rfl rfl ?_
    exact (ok_X5_isAsExplored_22 )  h
abbrev po_J7_fill_53178 (y0_len : Nat) (Q : (Nat → Int32) → Prop) : ax_E → Prop := fun out => ∃ (y0_a' : Nat → Int32), out = (none, (w_y0 y0_len y0_a'), [], 0) ∧ Q y0_a'
theorem ok_J7_fill_53178_5 {X : Nat × (Nat → Int32)} {N : Nat} {y0_len : Nat}  {Q : (Nat → Int32) → Prop}  : ∀ (n : Nat) (v1 : Int32) (v2 : Int32) (v3 : Int32) (y0_a : Nat → Int32), wp_J7_fill_53178_5 N y0_len  Q n v1 v2 v3 y0_a → EV (ax_GG X) m_J7_fill_53178 (po_J7_fill_53178 y0_len Q) (5, [some (.ref 0), some (.int v1), some (.int v2), some (.int v3)], [], (w_y0 y0_len y0_a), [], 0) := by
  intro n
  induction n with
  | zero => intro _ _ _ _ h; exact h.elim
  | succ n ih =>
    intro v1 v2 v3 y0_a h
    unfold wp_J7_fill_53178_5 at h
    refine EV.seg (c' := (7, [some (.ref 0), some (.int v1), some (.int v2), some (.int v3)], [.int v3, .int v2], (w_y0 y0_len y0_a), [], 0)) 2 rfl trivial ?_
    refine EV.br (c1 := (20, [some (.ref 0), some (.int v1), some (.int v2), some (.int v3)], [], (w_y0 y0_len y0_a), [], 0)) (c2 := (10, [some (.ref 0), some (.int v1), some (.int v2), some (.int v3)], [], (w_y0 y0_len y0_a), [], 0)) rfl (fun hc => ?_) (fun hc => ?_)
    · have h := h.1 hc
      exact EV.ret rfl trivial ⟨_, rfl, h⟩
    · have h := h.2 hc
      obtain ⟨g1, h⟩ := h
      refine EV.seg (c' := (14, [some (.ref 0), some (.int v1), some (.int v2), some (.int v3)], [], (w_y0 y0_len (upd y0_a v2.toNatClampNeg v1)), [], 0)) 4 rfl (And.intro g1 trivial) ?_
      obtain ⟨a2, e_a2⟩ : ∃ z : Nat → Int32, z = upd y0_a v2.toNatClampNeg v1 := ⟨_, rfl⟩
      have h := h a2 e_a2
      rw [← e_a2]
      refine EV.seg (c' := (5, [some (.ref 0), some (.int v1), some (.int (v2 + 1)), some (.int v3)], [], (w_y0 y0_len a2), [], 0)) 2 rfl trivial ?_
      exact ih _ _ _ _ h
theorem em_J7_fill_53178 {X : Nat × (Nat → Int32)} {N : Nat} {y0_len : Nat} {p0 : Int32} {y0_a : Nat → Int32} {Q : (Nat → Int32) → Prop} (h : wp_J7_fill_53178 N y0_len Q p0 y0_a) : EM (ax_GG X) m_J7_fill_53178 [.ref 0, .int p0] (w_y0 y0_len y0_a) (po_J7_fill_53178 y0_len Q) := by
  unfold wp_J7_fill_53178 at h
  show EV _ _ _ (0, [some (.ref 0), some (.int p0), none, none], [], (w_y0 y0_len y0_a), [], 0)
  refine EV.seg (c' := (5, [some (.ref 0), some (.int p0), some (.int (0 : Int32)), some (.int (Int32.ofNat y0_len))], [], (w_y0 y0_len y0_a), [], 0)) 5 rfl trivial ?_
  obtain ⟨x1, e_x1⟩ : ∃ z : Int32, z = Int32.ofNat y0_len := ⟨_, rfl⟩
  have h := h x1 e_x1
  rw [← e_x1]
  exact (ok_J7_fill_53178_5  N) _ _ _ _ h
abbrev po_J6_bitCount_0f7a4 (w0 : ax_W) (Q : Int32 → Prop) : ax_E → Prop := fun out => ∃ (r : Int32), out = (some (.int r), w0, [], 0) ∧ Q r
theorem em_J6_bitCount_0f7a4 {X : Nat × (Nat → Int32)} {N : Nat} {w0 : ax_W} {p0 : Int32} {Q : Int32 → Prop} (h : wp_J6_bitCount_0f7a4 N  Q p0) : EM (ax_GG X) m_J6_bitCount_0f7a4 [.int p0] w0 (po_J6_bitCount_0f7a4 w0 Q) := by
  unfold wp_J6_bitCount_0f7a4 at h
  show EV _ _ _ (0, [some (.int p0)], [], w0, [], 0)
  refine EV.seg (c' := (10, [some (.int (p0 - (((p0.toUInt32 >>> ((1 : Int32).toUInt32 &&& Int32.toUInt32 31)).toInt32) &&& (1431655765 : Int32))))], [], w0, [], 0)) 8 rfl trivial ?_
  obtain ⟨x1, e_x1⟩ : ∃ z : Int32, z = p0 - (((p0.toUInt32 >>> ((1 : Int32).toUInt32 &&& Int32.toUInt32 31)).toInt32) &&& (1431655765 : Int32)) := ⟨_, rfl⟩
  have h := h x1 e_x1
  rw [← e_x1]
  refine EV.seg (c' := (24, [some (.int ((x1 &&& (858993459 : Int32)) + (((x1.toUInt32 >>> ((2 : Int32).toUInt32 &&& Int32.toUInt32 31)).toInt32) &&& (858993459 : Int32))))], [], w0, [], 0)) 10 rfl trivial ?_
  obtain ⟨x2, e_x2⟩ : ∃ z : Int32, z = (x1 &&& (858993459 : Int32)) + (((x1.toUInt32 >>> ((2 : Int32).toUInt32 &&& Int32.toUInt32 31)).toInt32) &&& (858993459 : Int32)) := ⟨_, rfl⟩
  have h := h x2 e_x2
  rw [← e_x2]
  refine EV.seg (c' := (34, [some (.int ((x2 + ((x2.toUInt32 >>> ((4 : Int32).toUInt32 &&& Int32.toUInt32 31)).toInt32)) &&& (252645135 : Int32)))], [], w0, [], 0)) 8 rfl trivial ?_
  obtain ⟨x3, e_x3⟩ : ∃ z : Int32, z = (x2 + ((x2.toUInt32 >>> ((4 : Int32).toUInt32 &&& Int32.toUInt32 31)).toInt32)) &&& (252645135 : Int32) := ⟨_, rfl⟩
  have h := h x3 e_x3
  rw [← e_x3]
  refine EV.seg (c' := (41, [some (.int (x3 + ((x3.toUInt32 >>> ((8 : Int32).toUInt32 &&& Int32.toUInt32 31)).toInt32)))], [], w0, [], 0)) 6 rfl trivial ?_
  obtain ⟨x4, e_x4⟩ : ∃ z : Int32, z = x3 + ((x3.toUInt32 >>> ((8 : Int32).toUInt32 &&& Int32.toUInt32 31)).toInt32) := ⟨_, rfl⟩
  have h := h x4 e_x4
  rw [← e_x4]
  refine EV.seg (c' := (48, [some (.int (x4 + ((x4.toUInt32 >>> ((16 : Int32).toUInt32 &&& Int32.toUInt32 31)).toInt32)))], [], w0, [], 0)) 6 rfl trivial ?_
  obtain ⟨x5, e_x5⟩ : ∃ z : Int32, z = x4 + ((x4.toUInt32 >>> ((16 : Int32).toUInt32 &&& Int32.toUInt32 31)).toInt32) := ⟨_, rfl⟩
  have h := h x5 e_x5
  rw [← e_x5]
  refine EV.seg (c' := (52, [some (.int x5)], [.int (x5 &&& (63 : Int32))], w0, [], 0)) 3 rfl trivial ?_
  exact EV.ret rfl trivial ⟨_, rfl, h⟩
abbrev po_X5_weight (e_many : Int32) (e_spring : Int32) (e_leapable : Nat → Int32) (e_found : Int32) (e_whereOf : Nat → Int32) (e_rows : Nat → Int32) (e_from : Nat → Int32) (e_depth : Nat → Int32) (e_order : Nat → Int32) (e_places : Nat → Int32) (e_lesser : Nat → Int32) (Q : Int32 → Prop) : ax_E → Prop := fun out => ∃ (r : Int32), out = (some (.int r), (w_e e_many e_spring e_leapable e_found e_whereOf e_rows e_from e_depth e_order e_places e_lesser), [], 0) ∧ Q r
theorem em_X5_weight {X : Nat × (Nat → Int32)} {N : Nat} {e_many : Int32} {e_spring : Int32} {e_leapable : Nat → Int32} {e_found : Int32} {e_whereOf : Nat → Int32} {e_rows : Nat → Int32} {e_from : Nat → Int32} {e_depth : Nat → Int32} {e_order : Nat → Int32} {e_places : Nat → Int32} {e_lesser : Nat → Int32} {p0 : Int32} {Q : Int32 → Prop} (h : wp_X5_weight N e_many Q p0) : EM (ax_GG X) m_X5_weight [.ref 0, .int p0] (w_e e_many e_spring e_leapable e_found e_whereOf e_rows e_from e_depth e_order e_places e_lesser) (po_X5_weight e_many e_spring e_leapable e_found e_whereOf e_rows e_from e_depth e_order e_places e_lesser Q) := by
  unfold wp_X5_weight at h
  show EV _ _ _ (0, [some (.ref 0), some (.int p0)], [], (w_e e_many e_spring e_leapable e_found e_whereOf e_rows e_from e_depth e_order e_places e_lesser), [], 0)
  obtain ⟨g1, h⟩ := h
  refine EV.seg (c' := (12, [some (.ref 0), some (.int p0)], [.int (ax_fac ((e_many - (1 : Int32)) - p0).toNatClampNeg)], (w_e e_many e_spring e_leapable e_found e_whereOf e_rows e_from e_depth e_order e_places e_lesser), [], 0)) 8 rfl (And.intro g1 trivial) ?_
  exact EV.ret rfl trivial ⟨_, rfl, h⟩
abbrev po_X5_rank (e_many : Int32) (e_spring : Int32) (e_leapable : Nat → Int32) (e_found : Int32) (e_whereOf : Nat → Int32) (e_rows : Nat → Int32) (e_from : Nat → Int32) (e_depth : Nat → Int32) (e_order : Nat → Int32) (e_places : Nat → Int32) (Q : Int32 → (Nat → Int32) → Prop) : ax_E → Prop := fun out => ∃ (r : Int32) (e_lesser' : Nat → Int32), out = (some (.int r), (w_e e_many e_spring e_leapable e_found e_whereOf e_rows e_from e_depth e_order e_places e_lesser'), [], 0) ∧ Q r e_lesser'
theorem ok_X5_rank_6 {X : Nat × (Nat → Int32)} {N : Nat} {e_many : Int32} {e_spring : Int32} {e_leapable : Nat → Int32} {e_found : Int32} {e_whereOf : Nat → Int32} {e_rows : Nat → Int32} {e_from : Nat → Int32} {e_depth : Nat → Int32} {e_order : Nat → Int32} {e_places : Nat → Int32}  {Q : Int32 → (Nat → Int32) → Prop}  : ∀ (n : Nat) (v1 : Int32) (v2 : Int32) (v3 : Int32) (e_lesser : Nat → Int32), wp_X5_rank_6 N e_many e_order  Q n v1 v2 v3 e_lesser → EV (ax_GG X) m_X5_rank (po_X5_rank e_many e_spring e_leapable e_found e_whereOf e_rows e_from e_depth e_order e_places Q) (6, [some (.ref 0), some (.int v1), some (.int v2), some (.int v3), none], [], (w_e e_many e_spring e_leapable e_found e_whereOf e_rows e_from e_depth e_order e_places e_lesser), [], 0) := by
  intro n
  induction n with
  | zero => intro _ _ _ _ h; exact h.elim
  | succ n ih =>
    intro v1 v2 v3 e_lesser h
    unfold wp_X5_rank_6 at h
    refine EV.seg (c' := (11, [some (.ref 0), some (.int v1), some (.int v2), some (.int v3), none], [.int e_many, .int v3], (w_e e_many e_spring e_leapable e_found e_whereOf e_rows e_from e_depth e_order e_places e_lesser), [], 0)) 3 rfl trivial ?_
    refine EV.br (c1 := (70, [some (.ref 0), some (.int v1), some (.int v2), some (.int v3), none], [], (w_e e_many e_spring e_leapable e_found e_whereOf e_rows e_from e_depth e_order e_places e_lesser), [], 0)) (c2 := (14, [some (.ref 0), some (.int v1), some (.int v2), some (.int v3), none], [], (w_e e_many e_spring e_leapable e_found e_whereOf e_rows e_from e_depth e_order e_places e_lesser), [], 0)) rfl (fun hc => ?_) (fun hc => ?_)
    · have h := h.1 hc
      refine EV.seg (c' := (71, [some (.ref 0), some (.int v1), some (.int v2), some (.int v3), none], [.int v1], (w_e e_many e_spring e_leapable e_found e_whereOf e_rows e_from e_depth e_order e_places e_lesser), [], 0)) 1 rfl trivial ?_
      exact EV.ret rfl trivial ⟨_, _, rfl, h⟩
    · have h := h.2 hc
      obtain ⟨g1, h⟩ := h
      refine EV.seg (c' := (22, [some (.ref 0), some (.int v1), some (.int v2), some (.int v3), some (.int (e_order v3.toNatClampNeg))], [], (w_e e_many e_spring e_leapable e_found e_whereOf e_rows e_from e_depth e_order e_places e_lesser), [], 0)) 5 rfl (And.intro g1 trivial) ?_
      obtain ⟨x1, e_x1⟩ : ∃ z : Int32, z = e_order v3.toNatClampNeg := ⟨_, rfl⟩
      have h := h x1 e_x1
      rw [← e_x1]
      refine EV.seg (c' := (37, [some (.ref 0), some (.int v1), some (.int v2), some (.int v3), some (.int x1)], [.int (v2 &&& (((1 : Int32) <<< (x1 &&& 31)) - (1 : Int32))), .int x1, .int v3, .ref 8], (w_e e_many e_spring e_leapable e_found e_whereOf e_rows e_from e_depth e_order e_places e_lesser), [], 0)) 11 rfl trivial ?_
      refine EV.call (M' := m_J6_bitCount_0f7a4) rfl rfl (Nat.le_of_ble_eq_true rfl) (em_J6_bitCount_0f7a4  h) (fun out ho => ?_)
      obtain ⟨r2, rfl, h⟩ := ho
      show EV _ _ _ (40, [some (.ref 0), some (.int v1), some (.int v2), some (.int v3), some (.int x1)], [.int r2, .int x1, .int v3, .ref 8], (w_e e_many e_spring e_leapable e_found e_whereOf e_rows e_from e_depth e_order e_places e_lesser), [], 0)
      obtain ⟨g1, h⟩ := h
      refine EV.seg (c' := (42, [some (.ref 0), some (.int v1), some (.int v2), some (.int v3), some (.int x1)], [], (w_e e_many e_spring e_leapable e_found e_whereOf e_rows e_from e_depth e_order e_places (upd e_lesser v3.toNatClampNeg (x1 - r2))), [], 0)) 2 rfl (And.intro g1 trivial) ?_
      obtain ⟨a3, e_a3⟩ : ∃ z : Nat → Int32, z = upd e_lesser v3.toNatClampNeg (x1 - r2) := ⟨_, rfl⟩
      have h := h a3 e_a3
      rw [← e_a3]
      refine EV.seg (c' := (49, [some (.ref 0), some (.int v1), some (.int (v2 ||| ((1 : Int32) <<< (x1 &&& 31)))), some (.int v3), some (.int x1)], [], (w_e e_many e_spring e_leapable e_found e_whereOf e_rows e_from e_depth e_order e_places a3), [], 0)) 6 rfl trivial ?_
      obtain ⟨x4, e_x4⟩ : ∃ z : Int32, z = v2 ||| ((1 : Int32) <<< (x1 &&& 31)) := ⟨_, rfl⟩
      have h := h x4 e_x4
      rw [← e_x4]
      obtain ⟨g1, h⟩ := h
      refine EV.seg (c' := (58, [some (.ref 0), some (.int v1), some (.int x4), some (.int v3), some (.int x1)], [.int v3, .ref 0, .int (a3 v3.toNatClampNeg), .int v1], (w_e e_many e_spring e_leapable e_found e_whereOf e_rows e_from e_depth e_order e_places a3), [], 0)) 7 rfl (And.intro g1 trivial) ?_
      refine EV.call (M' := m_X5_weight) rfl rfl (Nat.le_of_ble_eq_true rfl) (em_X5_weight (e_many := e_many) (e_spring := e_spring) (e_leapable := e_leapable) (e_found := e_found) (e_whereOf := e_whereOf) (e_rows := e_rows) (e_from := e_from) (e_depth := e_depth) (e_order := e_order) (e_places := e_places) (e_lesser := a3)  h) (fun out ho => ?_)
      obtain ⟨r5, rfl, h⟩ := ho
      show EV _ _ _ (61, [some (.ref 0), some (.int v1), some (.int x4), some (.int v3), some (.int x1)], [.int r5, .int (a3 v3.toNatClampNeg), .int v1], (w_e e_many e_spring e_leapable e_found e_whereOf e_rows e_from e_depth e_order e_places a3), [], 0)
      refine EV.seg (c' := (64, [some (.ref 0), some (.int (v1 + ((a3 v3.toNatClampNeg) * r5))), some (.int x4), some (.int v3), some (.int x1)], [], (w_e e_many e_spring e_leapable e_found e_whereOf e_rows e_from e_depth e_order e_places a3), [], 0)) 3 rfl trivial ?_
      obtain ⟨x6, e_x6⟩ : ∃ z : Int32, z = v1 + ((a3 v3.toNatClampNeg) * r5) := ⟨_, rfl⟩
      have h := h x6 e_x6
      rw [← e_x6]
      refine EV.seg (c' := (6, [some (.ref 0), some (.int x6), some (.int x4), some (.int (v3 + 1)), some (.int x1)], [], (w_e e_many e_spring e_leapable e_found e_whereOf e_rows e_from e_depth e_order e_places a3), [], 0)) 2 rfl trivial ?_
      refine EV.mask (ls' := [some (.ref 0), some (.int x6), some (.int x4), some (.int (v3 + 1)), none]) rfl rfl ?_
      exact ih _ _ _ _ h
theorem em_X5_rank {X : Nat × (Nat → Int32)} {N : Nat} {e_many : Int32} {e_spring : Int32} {e_leapable : Nat → Int32} {e_found : Int32} {e_whereOf : Nat → Int32} {e_rows : Nat → Int32} {e_from : Nat → Int32} {e_depth : Nat → Int32} {e_order : Nat → Int32} {e_places : Nat → Int32} {e_lesser : Nat → Int32} {Q : Int32 → (Nat → Int32) → Prop} (h : wp_X5_rank N e_many e_order Q e_lesser) : EM (ax_GG X) m_X5_rank [.ref 0] (w_e e_many e_spring e_leapable e_found e_whereOf e_rows e_from e_depth e_order e_places e_lesser) (po_X5_rank e_many e_spring e_leapable e_found e_whereOf e_rows e_from e_depth e_order e_places Q) := by
  unfold wp_X5_rank at h
  show EV _ _ _ (0, [some (.ref 0), none, none, none, none], [], (w_e e_many e_spring e_leapable e_found e_whereOf e_rows e_from e_depth e_order e_places e_lesser), [], 0)
  refine EV.seg (c' := (6, [some (.ref 0), some (.int (0 : Int32)), some (.int (0 : Int32)), some (.int (0 : Int32)), none], [], (w_e e_many e_spring e_leapable e_found e_whereOf e_rows e_from e_depth e_order e_places e_lesser), [], 0)) 6 rfl trivial ?_
  exact (ok_X5_rank_6  N) _ _ _ _ h
abbrev po_X5_add (e_many : Int32) (e_spring : Int32) (e_leapable : Nat → Int32) (e_order : Nat → Int32) (e_places : Nat → Int32) (e_lesser : Nat → Int32) (Q : (Int32) → (Nat → Int32) → (Nat → Int32) → (Nat → Int32) → (Nat → Int32) → Prop) : ax_E → Prop := fun out => ∃ (e_found' : Int32) (e_whereOf' : Nat → Int32) (e_rows' : Nat → Int32) (e_from' : Nat → Int32) (e_depth' : Nat → Int32), out = (none, (w_e e_many e_spring e_leapable e_found' e_whereOf' e_rows' e_from' e_depth' e_order e_places e_lesser), [], 0) ∧ Q e_found' e_whereOf' e_rows' e_from' e_depth'
theorem ok_X5_add_84 {X : Nat × (Nat → Int32)} {N : Nat} {e_many : Int32} {e_spring : Int32} {e_leapable : Nat → Int32} {e_order : Nat → Int32} {e_places : Nat → Int32} {e_lesser : Nat → Int32}  {Q : (Int32) → (Nat → Int32) → (Nat → Int32) → (Nat → Int32) → (Nat → Int32) → Prop}  : ∀ (v1 : Int32) (s0 : Int32) (s1 : Int32) (e_found : Int32) (e_whereOf : Nat → Int32) (e_rows : Nat → Int32) (e_from : Nat → Int32) (e_depth : Nat → Int32), wp_X5_add_84 N   Q  v1 s0 s1 e_found e_whereOf e_rows e_from e_depth → EV (ax_GG X) m_X5_add (po_X5_add e_many e_spring e_leapable e_order e_places e_lesser Q) (84, [some (.ref 0), some (.int v1), none, none, none], [.int s0, .int s1, .ref 5], (w_e e_many e_spring e_leapable e_found e_whereOf e_rows e_from e_depth e_order e_places e_lesser), [], 0) := by
  intro v1 s0 s1 e_found e_whereOf e_rows e_from e_depth h
  unfold wp_X5_add_84 at h
  obtain ⟨g1, h⟩ := h
  refine EV.seg (c' := (85, [some (.ref 0), some (.int v1), none, none, none], [], (w_e e_many e_spring e_leapable e_found e_whereOf e_rows e_from (upd e_depth s1.toNatClampNeg s0) e_order e_places e_lesser), [], 0)) 1 rfl (And.intro g1 trivial) ?_
  obtain ⟨a3, e_a3⟩ : ∃ z : Nat → Int32, z = upd e_depth s1.toNatClampNeg s0 := ⟨_, rfl⟩
  have h := h a3 e_a3
  rw [← e_a3]
  obtain ⟨g1, h⟩ := h
  refine EV.seg (c' := (105, [some (.ref 0), some (.int v1), none, none, none], [], (w_e e_many e_spring e_leapable (e_found + (1 : Int32)) (upd e_whereOf v1.toNatClampNeg (e_found + (1 : Int32))) e_rows e_from a3 e_order e_places e_lesser), [], 0)) 12 rfl (And.intro g1 trivial) ?_
  obtain ⟨a4, e_a4⟩ : ∃ z : Nat → Int32, z = upd e_whereOf v1.toNatClampNeg (e_found + (1 : Int32)) := ⟨_, rfl⟩
  have h := h a4 e_a4
  rw [← e_a4]
  exact EV.ret rfl trivial ⟨_, _, _, _, _, rfl, h⟩
theorem ok_X5_add_30 {X : Nat × (Nat → Int32)} {N : Nat} {e_many : Int32} {e_spring : Int32} {e_leapable : Nat → Int32} {e_order : Nat → Int32} {e_places : Nat → Int32} {e_lesser : Nat → Int32}  {Q : (Int32) → (Nat → Int32) → (Nat → Int32) → (Nat → Int32) → (Nat → Int32) → Prop}  : ∀ (e_found : Int32) (e_whereOf : Nat → Int32) (e_rows : Nat → Int32) (e_from : Nat → Int32) (e_depth : Nat → Int32), wp_X5_add_30 N   Q  e_found e_whereOf e_rows e_from e_depth → EV (ax_GG X) m_X5_add (po_X5_add e_many e_spring e_leapable e_order e_places e_lesser Q) (30, [none, none, none, none, none], [], (w_e e_many e_spring e_leapable e_found e_whereOf e_rows e_from e_depth e_order e_places e_lesser), [], 0) := by
  intro e_found e_whereOf e_rows e_from e_depth h
  unfold wp_X5_add_30 at h
  exact EV.ret rfl trivial ⟨_, _, _, _, _, rfl, h⟩
theorem em_X5_add {X : Nat × (Nat → Int32)} {N : Nat} {e_many : Int32} {e_spring : Int32} {e_leapable : Nat → Int32} {e_order : Nat → Int32} {e_places : Nat → Int32} {e_lesser : Nat → Int32} {p0 : Int32} {p1 : Int32} {p2 : Int32} {p3 : Int32} {e_found : Int32} {e_whereOf : Nat → Int32} {e_rows : Nat → Int32} {e_from : Nat → Int32} {e_depth : Nat → Int32} {Q : (Int32) → (Nat → Int32) → (Nat → Int32) → (Nat → Int32) → (Nat → Int32) → Prop} (h : wp_X5_add N  Q p0 p1 p2 p3 e_found e_whereOf e_rows e_from e_depth) : EM (ax_GG X) m_X5_add [.ref 0, .int p0, .int p1, .int p2, .int p3] (w_e e_many e_spring e_leapable e_found e_whereOf e_rows e_from e_depth e_order e_places e_lesser) (po_X5_add e_many e_spring e_leapable e_order e_places e_lesser Q) := by
  unfold wp_X5_add at h
  show EV _ _ _ (0, [some (.ref 0), some (.int p0), some (.int p1), some (.int p2), some (.int p3)], [], (w_e e_many e_spring e_leapable e_found e_whereOf e_rows e_from e_depth e_order e_places e_lesser), [], 0)
  refine EV.seg (c' := (7, [some (.ref 0), some (.int p0), some (.int p1), some (.int p2), some (.int p3)], [.int (5040 : Int32), .int e_found], (w_e e_many e_spring e_leapable e_found e_whereOf e_rows e_from e_depth e_order e_places e_lesser), [], 0)) 3 rfl trivial ?_
  refine EV.br (c1 := (30, [some (.ref 0), some (.int p0), some (.int p1), some (.int p2), some (.int p3)], [], (w_e e_many e_spring e_leapable e_found e_whereOf e_rows e_from e_depth e_order e_places e_lesser), [], 0)) (c2 := (10, [some (.ref 0), some (.int p0), some (.int p1), some (.int p2), some (.int p3)], [], (w_e e_many e_spring e_leapable e_found e_whereOf e_rows e_from e_depth e_order e_places e_lesser), [], 0)) rfl (fun hc => ?_) (fun hc => ?_)
  · have h := h.1 hc
    refine EV.mask (ls' := [none, none, none, none, none]) rfl rfl ?_
    exact (ok_X5_add_30 ) _ _ _ _ _ h
  · have h := h.2 hc
    refine EV.seg (c' := (11, [some (.ref 0), some (.int p0), some (.int p1), some (.int p2), some (.int p3)], [.int p0], (w_e e_many e_spring e_leapable e_found e_whereOf e_rows e_from e_depth e_order e_places e_lesser), [], 0)) 1 rfl trivial ?_
    refine EV.br (c1 := (30, [some (.ref 0), some (.int p0), some (.int p1), some (.int p2), some (.int p3)], [], (w_e e_many e_spring e_leapable e_found e_whereOf e_rows e_from e_depth e_order e_places e_lesser), [], 0)) (c2 := (14, [some (.ref 0), some (.int p0), some (.int p1), some (.int p2), some (.int p3)], [], (w_e e_many e_spring e_leapable e_found e_whereOf e_rows e_from e_depth e_order e_places e_lesser), [], 0)) rfl (fun hc => ?_) (fun hc => ?_)
    · have h := h.1 hc
      refine EV.mask (ls' := [none, none, none, none, none]) rfl rfl ?_
      exact (ok_X5_add_30 ) _ _ _ _ _ h
    · have h := h.2 hc
      refine EV.seg (c' := (18, [some (.ref 0), some (.int p0), some (.int p1), some (.int p2), some (.int p3)], [.int (5040 : Int32), .int p0], (w_e e_many e_spring e_leapable e_found e_whereOf e_rows e_from e_depth e_order e_places e_lesser), [], 0)) 2 rfl trivial ?_
      refine EV.br (c1 := (30, [some (.ref 0), some (.int p0), some (.int p1), some (.int p2), some (.int p3)], [], (w_e e_many e_spring e_leapable e_found e_whereOf e_rows e_from e_depth e_order e_places e_lesser), [], 0)) (c2 := (21, [some (.ref 0), some (.int p0), some (.int p1), some (.int p2), some (.int p3)], [], (w_e e_many e_spring e_leapable e_found e_whereOf e_rows e_from e_depth e_order e_places e_lesser), [], 0)) rfl (fun hc => ?_) (fun hc => ?_)
      · have h := h.1 hc
        refine EV.mask (ls' := [none, none, none, none, none]) rfl rfl ?_
        exact (ok_X5_add_30 ) _ _ _ _ _ h
      · have h := h.2 hc
        obtain ⟨g1, h⟩ := h
        refine EV.seg (c' := (27, [some (.ref 0), some (.int p0), some (.int p1), some (.int p2), some (.int p3)], [.int (e_whereOf p0.toNatClampNeg)], (w_e e_many e_spring e_leapable e_found e_whereOf e_rows e_from e_depth e_order e_places e_lesser), [], 0)) 4 rfl (And.intro g1 trivial) ?_
        refine EV.br (c1 := (31, [some (.ref 0), some (.int p0), some (.int p1), some (.int p2), some (.int p3)], [], (w_e e_many e_spring e_leapable e_found e_whereOf e_rows e_from e_depth e_order e_places e_lesser), [], 0)) (c2 := (30, [some (.ref 0), some (.int p0), some (.int p1), some (.int p2), some (.int p3)], [], (w_e e_many e_spring e_leapable e_found e_whereOf e_rows e_from e_depth e_order e_places e_lesser), [], 0)) rfl (fun hc => ?_) (fun hc => ?_)
        · have h := h.1 hc
          obtain ⟨g1, h⟩ := h
          refine EV.seg (c' := (41, [some (.ref 0), some (.int p0), some (.int p1), some (.int p2), some (.int p3)], [], (w_e e_many e_spring e_leapable e_found e_whereOf (upd e_rows e_found.toNatClampNeg p1) e_from e_depth e_order e_places e_lesser), [], 0)) 6 rfl (And.intro g1 trivial) ?_
          obtain ⟨a1, e_a1⟩ : ∃ z : Nat → Int32, z = upd e_rows e_found.toNatClampNeg p1 := ⟨_, rfl⟩
          have h := h a1 e_a1
          rw [← e_a1]
          obtain ⟨g1, h⟩ := h
          refine EV.seg (c' := (57, [some (.ref 0), some (.int p0), some (.int p1), some (.int p2), some (.int p3)], [], (w_e e_many e_spring e_leapable e_found e_whereOf a1 (upd e_from e_found.toNatClampNeg ((p2 <<< ((6 : Int32) &&& 31)) ||| p3)) e_depth e_order e_places e_lesser), [], 0)) 10 rfl (And.intro g1 trivial) ?_
          obtain ⟨a2, e_a2⟩ : ∃ z : Nat → Int32, z = upd e_from e_found.toNatClampNeg ((p2 <<< ((6 : Int32) &&& 31)) ||| p3) := ⟨_, rfl⟩
          have h := h a2 e_a2
          rw [← e_a2]
          refine EV.seg (c' := (69, [some (.ref 0), some (.int p0), some (.int p1), some (.int p2), some (.int p3)], [.int e_found, .int e_found, .ref 5], (w_e e_many e_spring e_leapable e_found e_whereOf a1 a2 e_depth e_order e_places e_lesser), [], 0)) 6 rfl trivial ?_
          refine EV.br (c1 := (72, [some (.ref 0), some (.int p0), some (.int p1), some (.int p2), some (.int p3)], [.int e_found, .ref 5], (w_e e_many e_spring e_leapable e_found e_whereOf a1 a2 e_depth e_order e_places e_lesser), [], 0)) (c2 := (76, [some (.ref 0), some (.int p0), some (.int p1), some (.int p2), some (.int p3)], [.int e_found, .ref 5], (w_e e_many e_spring e_leapable e_found e_whereOf a1 a2 e_depth e_order e_places e_lesser), [], 0)) rfl (fun hc => ?_) (fun hc => ?_)
          · have h := h.1 hc
            refine EV.seg (c' := (84, [some (.ref 0), some (.int p0), some (.int p1), some (.int p2), some (.int p3)], [.int (0 : Int32), .int e_found, .ref 5], (w_e e_many e_spring e_leapable e_found e_whereOf a1 a2 e_depth e_order e_places e_lesser), [], 0)) 2 rfl trivial ?_
            refine EV.mask (ls' := [some (.ref 0), some (.int p0), none, none, none]) rfl rfl ?_
            exact (ok_X5_add_84 ) _ _ _ _ _ _ _ _ h
          · have h := h.2 hc
            obtain ⟨g1, h⟩ := h
            refine EV.seg (c' := (84, [some (.ref 0), some (.int p0), some (.int p1), some (.int p2), some (.int p3)], [.int ((e_depth p2.toNatClampNeg) + (1 : Int32)), .int e_found, .ref 5], (w_e e_many e_spring e_leapable e_found e_whereOf a1 a2 e_depth e_order e_places e_lesser), [], 0)) 6 rfl (And.intro g1 trivial) ?_
            refine EV.mask (ls' := [some (.ref 0), some (.int p0), none, none, none]) rfl rfl ?_
            exact (ok_X5_add_84 ) _ _ _ _ _ _ _ _ h
        · have h := h.2 hc
          refine EV.mask (ls' := [none, none, none, none, none]) rfl rfl ?_
          exact (ok_X5_add_30 ) _ _ _ _ _ h
abbrev po_X5_leapFrom (e_many : Int32) (e_spring : Int32) (e_leapable : Nat → Int32) (e_order : Nat → Int32) (e_places : Nat → Int32) (e_lesser : Nat → Int32) (Q : (Int32) → (Nat → Int32) → (Nat → Int32) → (Nat → Int32) → (Nat → Int32) → Prop) : ax_E → Prop := fun out => ∃ (e_found' : Int32) (e_whereOf' : Nat → Int32) (e_rows' : Nat → Int32) (e_from' : Nat → Int32) (e_depth' : Nat → Int32), out = (none, (w_e e_many e_spring e_leapable e_found' e_whereOf' e_rows' e_from' e_depth' e_order e_places e_lesser), [], 0) ∧ Q e_found' e_whereOf' e_rows' e_from' e_depth'
theorem ok_X5_leapFrom_203 {X : Nat × (Nat → Int32)} {N : Nat} {e_many : Int32} {e_spring : Int32} {e_leapable : Nat → Int32} {e_order : Nat → Int32} {e_places : Nat → Int32} {e_lesser : Nat → Int32}  {Q : (Int32) → (Nat → Int32) → (Nat → Int32) → (Nat → Int32) → (Nat → Int32) → Prop}  : ∀ (e_found : Int32) (e_whereOf : Nat → Int32) (e_rows : Nat → Int32) (e_from : Nat → Int32) (e_depth : Nat → Int32), wp_X5_leapFrom_203 N e_many e_spring e_leapable e_order e_lesser  Q  e_found e_whereOf e_rows e_from e_depth → EV (ax_GG X) m_X5_leapFrom (po_X5_leapFrom e_many e_spring e_leapable e_order e_places e_lesser Q) (203, [none, none, none, none, none, none, none, none, none, none, none, none, none], [], (w_e e_many e_spring e_leapable e_found e_whereOf e_rows e_from e_depth e_order e_places e_lesser), [], 0) := by
  intro e_found e_whereOf e_rows e_from e_depth h
  unfold wp_X5_leapFrom_203 at h
  exact EV.ret rfl trivial ⟨_, _, _, _, _, rfl, h⟩
theorem ok_X5_leapFrom_120 {X : Nat × (Nat → Int32)} {N : Nat} {e_many : Int32} {e_spring : Int32} {e_leapable : Nat → Int32} {e_order : Nat → Int32} {e_places : Nat → Int32} {e_lesser : Nat → Int32} {K30 : (Int32) → (Int32) → (Int32) → (Int32) → (Int32) → (Int32) → (Int32) → (Int32) → (Nat → Int32) → (Nat → Int32) → (Nat → Int32) → (Nat → Int32) → Prop} {Q : (Int32) → (Nat → Int32) → (Nat → Int32) → (Nat → Int32) → (Nat → Int32) → Prop} (hK30 : ∀ (v1 : Int32) (v3 : Int32) (v4 : Int32) (v5 : Int32) (v6 : Int32) (v7 : Int32) (v8 : Int32) (e_found : Int32) (e_whereOf : Nat → Int32) (e_rows : Nat → Int32) (e_from : Nat → Int32) (e_depth : Nat → Int32), K30 v1 v3 v4 v5 v6 v7 v8 e_found e_whereOf e_rows e_from e_depth → EV (ax_GG X) m_X5_leapFrom (po_X5_leapFrom e_many e_spring e_leapable e_order e_places e_lesser Q) (30, [some (.ref 0), some (.int v1), none, some (.int v3), some (.int v4), some (.int v5), some (.int v6), some (.int v7), some (.int v8), none, none, none, none], [], (w_e e_many e_spring e_leapable e_found e_whereOf e_rows e_from e_depth e_order e_places e_lesser), [], 0)) : ∀ (v1 : Int32) (v3 : Int32) (v4 : Int32) (v5 : Int32) (v6 : Int32) (v7 : Int32) (v8 : Int32) (v9 : Int32) (v10 : Int32) (v11 : Int32) (s0 : Int32) (e_found : Int32) (e_whereOf : Nat → Int32) (e_rows : Nat → Int32) (e_from : Nat → Int32) (e_depth : Nat → Int32), wp_X5_leapFrom_120 N e_many e_spring e_leapable e_order e_lesser K30 Q  v1 v3 v4 v5 v6 v7 v8 v9 v10 v11 s0 e_found e_whereOf e_rows e_from e_depth → EV (ax_GG X) m_X5_leapFrom (po_X5_leapFrom e_many e_spring e_leapable e_order e_places e_lesser Q) (120, [some (.ref 0), some (.int v1), none, some (.int v3), some (.int v4), some (.int v5), some (.int v6), some (.int v7), some (.int v8), some (.int v9), some (.int v10), some (.int v11), none], [.int s0], (w_e e_many e_spring e_leapable e_found e_whereOf e_rows e_from e_depth e_order e_places e_lesser), [], 0) := by
  intro v1 v3 v4 v5 v6 v7 v8 v9 v10 v11 s0 e_found e_whereOf e_rows e_from e_depth h
  unfold wp_X5_leapFrom_120 at h
  obtain ⟨g1, h⟩ := h
  refine EV.seg (c' := (137, [some (.ref 0), some (.int v1), none, some (.int v3), some (.int v4), some (.int v5), some (.int v6), some (.int v7), some (.int v8), some (.int v9), some (.int v10), some (.int v11), some (.int s0)], [.int v9, .ref 0, .int (v11 - (e_lesser v9.toNatClampNeg)), .int v6], (w_e e_many e_spring e_leapable e_found e_whereOf e_rows e_from e_depth e_order e_places e_lesser), [], 0)) 10 rfl (And.intro g1 trivial) ?_
  refine EV.call (M' := m_X5_weight) rfl rfl (Nat.le_of_ble_eq_true rfl) (em_X5_weight (e_many := e_many) (e_spring := e_spring) (e_leapable := e_leapable) (e_found := e_found) (e_whereOf := e_whereOf) (e_rows := e_rows) (e_from := e_from) (e_depth := e_depth) (e_order := e_order) (e_places := e_places) (e_lesser := e_lesser)  h) (fun out ho => ?_)
  obtain ⟨r6, rfl, h⟩ := ho
  show EV _ _ _ (140, [some (.ref 0), some (.int v1), none, some (.int v3), some (.int v4), some (.int v5), some (.int v6), some (.int v7), some (.int v8), some (.int v9), some (.int v10), some (.int v11), some (.int s0)], [.int r6, .int (v11 - (e_lesser v9.toNatClampNeg)), .int v6], (w_e e_many e_spring e_leapable e_found e_whereOf e_rows e_from e_depth e_order e_places e_lesser), [], 0)
  refine EV.seg (c' := (151, [some (.ref 0), some (.int v1), none, some (.int v3), some (.int v4), some (.int v5), some (.int v6), some (.int v7), some (.int v8), some (.int v9), some (.int v10), some (.int v11), some (.int s0)], [.int (v9 + (1 : Int32)), .ref 0, .int (s0 - v7), .int ((v11 - (e_lesser v9.toNatClampNeg)) * r6), .int v6], (w_e e_many e_spring e_leapable e_found e_whereOf e_rows e_from e_depth e_order e_places e_lesser), [], 0)) 8 rfl trivial ?_
  refine EV.call (M' := m_X5_weight) rfl rfl (Nat.le_of_ble_eq_true rfl) (em_X5_weight (e_many := e_many) (e_spring := e_spring) (e_leapable := e_leapable) (e_found := e_found) (e_whereOf := e_whereOf) (e_rows := e_rows) (e_from := e_from) (e_depth := e_depth) (e_order := e_order) (e_places := e_places) (e_lesser := e_lesser)  h) (fun out ho => ?_)
  obtain ⟨r7, rfl, h⟩ := ho
  show EV _ _ _ (154, [some (.ref 0), some (.int v1), none, some (.int v3), some (.int v4), some (.int v5), some (.int v6), some (.int v7), some (.int v8), some (.int v9), some (.int v10), some (.int v11), some (.int s0)], [.int r7, .int (s0 - v7), .int ((v11 - (e_lesser v9.toNatClampNeg)) * r6), .int v6], (w_e e_many e_spring e_leapable e_found e_whereOf e_rows e_from e_depth e_order e_places e_lesser), [], 0)
  refine EV.seg (c' := (159, [some (.ref 0), some (.int v1), none, some (.int v3), some (.int v4), some (.int v5), some (.int (v6 + (((v11 - (e_lesser v9.toNatClampNeg)) * r6) + ((s0 - v7) * r7)))), some (.int v7), some (.int v8), some (.int v9), some (.int v10), some (.int v11), some (.int s0)], [], (w_e e_many e_spring e_leapable e_found e_whereOf e_rows e_from e_depth e_order e_places e_lesser), [], 0)) 4 rfl trivial ?_
  obtain ⟨x8, e_x8⟩ : ∃ z : Int32, z = v6 + (((v11 - (e_lesser v9.toNatClampNeg)) * r6) + ((s0 - v7) * r7)) := ⟨_, rfl⟩
  have h := h x8 e_x8
  rw [← e_x8]
  refine EV.seg (c' := (181, [some (.ref 0), some (.int v1), none, some (.int v3), some (.int v4), some (.int (v5 ^^^ (((v4 ^^^ v10) * (9 : Int32)) <<< (((3 : Int32) * v9) &&& 31)))), some (.int x8), some (.int v11), some (.int v8), some (.int v9), some (.int v10), some (.int v11), some (.int s0)], [], (w_e e_many e_spring e_leapable e_found e_whereOf e_rows e_from e_depth e_order e_places e_lesser), [], 0)) 14 rfl trivial ?_
  obtain ⟨x9, e_x9⟩ : ∃ z : Int32, z = v5 ^^^ (((v4 ^^^ v10) * (9 : Int32)) <<< (((3 : Int32) * v9) &&& 31)) := ⟨_, rfl⟩
  have h := h x9 e_x9
  rw [← e_x9]
  refine EV.seg (c' := (194, [some (.ref 0), some (.int v1), none, some (.int v3), some (.int v4), some (.int x9), some (.int x8), some (.int v11), some (.int v8), some (.int v9), some (.int v10), some (.int v11), some (.int s0)], [.int ((v4 <<< ((3 : Int32) &&& 31)) ||| v8), .int v1, .int x9, .int x8, .ref 0], (w_e e_many e_spring e_leapable e_found e_whereOf e_rows e_from e_depth e_order e_places e_lesser), [], 0)) 9 rfl trivial ?_
  refine EV.call (M' := m_X5_add) rfl rfl (Nat.le_of_ble_eq_true rfl) (em_X5_add (e_many := e_many) (e_spring := e_spring) (e_leapable := e_leapable) (e_order := e_order) (e_places := e_places) (e_lesser := e_lesser) (e_found := e_found) (e_whereOf := e_whereOf) (e_rows := e_rows) (e_from := e_from) (e_depth := e_depth) h) (fun out ho => ?_)
  obtain ⟨m10, m11, m12, m13, m14, rfl, h⟩ := ho
  show EV _ _ _ (197, [some (.ref 0), some (.int v1), none, some (.int v3), some (.int v4), some (.int x9), some (.int x8), some (.int v11), some (.int v8), some (.int v9), some (.int v10), some (.int v11), some (.int s0)], [], (w_e e_many e_spring e_leapable m10 m11 m12 m13 m14 e_order e_places e_lesser), [], 0)
  refine EV.seg (c' := (30, [some (.ref 0), some (.int v1), none, some (.int v3), some (.int v4), some (.int x9), some (.int x8), some (.int v11), some (.int (v8 + 1)), some (.int v9), some (.int v10), some (.int v11), some (.int s0)], [], (w_e e_many e_spring e_leapable m10 m11 m12 m13 m14 e_order e_places e_lesser), [], 0)) 2 rfl trivial ?_
  refine EV.mask (ls' := [some (.ref 0), some (.int v1), none, some (.int v3), some (.int v4), some (.int x9), some (.int x8), some (.int v11), some (.int (v8 + 1)), none, none, none, none]) rfl rfl ?_
  exact hK30 _ _ _ _ _ _ _ _ _ _ _ _ h
theorem ok_X5_leapFrom_92 {X : Nat × (Nat → Int32)} {N : Nat} {e_many : Int32} {e_spring : Int32} {e_leapable : Nat → Int32} {e_order : Nat → Int32} {e_places : Nat → Int32} {e_lesser : Nat → Int32} {K30 : (Int32) → (Int32) → (Int32) → (Int32) → (Int32) → (Int32) → (Int32) → (Int32) → (Nat → Int32) → (Nat → Int32) → (Nat → Int32) → (Nat → Int32) → Prop} {Q : (Int32) → (Nat → Int32) → (Nat → Int32) → (Nat → Int32) → (Nat → Int32) → Prop} (hK30 : ∀ (v1 : Int32) (v3 : Int32) (v4 : Int32) (v5 : Int32) (v6 : Int32) (v7 : Int32) (v8 : Int32) (e_found : Int32) (e_whereOf : Nat → Int32) (e_rows : Nat → Int32) (e_from : Nat → Int32) (e_depth : Nat → Int32), K30 v1 v3 v4 v5 v6 v7 v8 e_found e_whereOf e_rows e_from e_depth → EV (ax_GG X) m_X5_leapFrom (po_X5_leapFrom e_many e_spring e_leapable e_order e_places e_lesser Q) (30, [some (.ref 0), some (.int v1), none, some (.int v3), some (.int v4), some (.int v5), some (.int v6), some (.int v7), some (.int v8), none, none, none, none], [], (w_e e_many e_spring e_leapable e_found e_whereOf e_rows e_from e_depth e_order e_places e_lesser), [], 0)) : ∀ (v1 : Int32) (v3 : Int32) (v4 : Int32) (v5 : Int32) (v6 : Int32) (v7 : Int32) (v8 : Int32) (v9 : Int32) (v10 : Int32) (s0 : Int32) (e_found : Int32) (e_whereOf : Nat → Int32) (e_rows : Nat → Int32) (e_from : Nat → Int32) (e_depth : Nat → Int32), wp_X5_leapFrom_92 N e_many e_spring e_leapable e_order e_lesser K30 Q  v1 v3 v4 v5 v6 v7 v8 v9 v10 s0 e_found e_whereOf e_rows e_from e_depth → EV (ax_GG X) m_X5_leapFrom (po_X5_leapFrom e_many e_spring e_leapable e_order e_places e_lesser Q) (92, [some (.ref 0), some (.int v1), none, some (.int v3), some (.int v4), some (.int v5), some (.int v6), some (.int v7), some (.int v8), some (.int v9), some (.int v10), none, none], [.int s0], (w_e e_many e_spring e_leapable e_found e_whereOf e_rows e_from e_depth e_order e_places e_lesser), [], 0) := by
  intro v1 v3 v4 v5 v6 v7 v8 v9 v10 s0 e_found e_whereOf e_rows e_from e_depth h
  unfold wp_X5_leapFrom_92 at h
  refine EV.seg (c' := (98, [some (.ref 0), some (.int v1), none, some (.int v3), some (.int v4), some (.int v5), some (.int v6), some (.int v7), some (.int v8), some (.int v9), some (.int v10), some (.int s0), none], [.int v4, .int v10], (w_e e_many e_spring e_leapable e_found e_whereOf e_rows e_from e_depth e_order e_places e_lesser), [], 0)) 3 rfl trivial ?_
  refine EV.br (c1 := (111, [some (.ref 0), some (.int v1), none, some (.int v3), some (.int v4), some (.int v5), some (.int v6), some (.int v7), some (.int v8), some (.int v9), some (.int v10), some (.int s0), none], [], (w_e e_many e_spring e_leapable e_found e_whereOf e_rows e_from e_depth e_order e_places e_lesser), [], 0)) (c2 := (101, [some (.ref 0), some (.int v1), none, some (.int v3), some (.int v4), some (.int v5), some (.int v6), some (.int v7), some (.int v8), some (.int v9), some (.int v10), some (.int s0), none], [], (w_e e_many e_spring e_leapable e_found e_whereOf e_rows e_from e_depth e_order e_places e_lesser), [], 0)) rfl (fun hc => ?_) (fun hc => ?_)
  · have h := h.1 hc
    obtain ⟨g1, h⟩ := h
    refine EV.seg (c' := (120, [some (.ref 0), some (.int v1), none, some (.int v3), some (.int v4), some (.int v5), some (.int v6), some (.int v7), some (.int v8), some (.int v9), some (.int v10), some (.int s0), none], [.int ((e_lesser v9.toNatClampNeg) - (1 : Int32))], (w_e e_many e_spring e_leapable e_found e_whereOf e_rows e_from e_depth e_order e_places e_lesser), [], 0)) 6 rfl (And.intro g1 trivial) ?_
    exact (ok_X5_leapFrom_120 hK30) _ _ _ _ _ _ _ _ _ _ _ _ _ _ _ _ h
  · have h := h.2 hc
    obtain ⟨g1, h⟩ := h
    refine EV.seg (c' := (120, [some (.ref 0), some (.int v1), none, some (.int v3), some (.int v4), some (.int v5), some (.int v6), some (.int v7), some (.int v8), some (.int v9), some (.int v10), some (.int s0), none], [.int (e_lesser v9.toNatClampNeg)], (w_e e_many e_spring e_leapable e_found e_whereOf e_rows e_from e_depth e_order e_places e_lesser), [], 0)) 5 rfl (And.intro g1 trivial) ?_
    exact (ok_X5_leapFrom_120 hK30) _ _ _ _ _ _ _ _ _ _ _ _ _ _ _ _ h
theorem ok_X5_leapFrom_30 {X : Nat × (Nat → Int32)} {N : Nat} {e_many : Int32} {e_spring : Int32} {e_leapable : Nat → Int32} {e_order : Nat → Int32} {e_places : Nat → Int32} {e_lesser : Nat → Int32}  {Q : (Int32) → (Nat → Int32) → (Nat → Int32) → (Nat → Int32) → (Nat → Int32) → Prop}  : ∀ (n : Nat) (v1 : Int32) (v3 : Int32) (v4 : Int32) (v5 : Int32) (v6 : Int32) (v7 : Int32) (v8 : Int32) (e_found : Int32) (e_whereOf : Nat → Int32) (e_rows : Nat → Int32) (e_from : Nat → Int32) (e_depth : Nat → Int32), wp_X5_leapFrom_30 N e_many e_spring e_leapable e_order e_lesser  Q n v1 v3 v4 v5 v6 v7 v8 e_found e_whereOf e_rows e_from e_depth → EV (ax_GG X) m_X5_leapFrom (po_X5_leapFrom e_many e_spring e_leapable e_order e_places e_lesser Q) (30, [some (.ref 0), some (.int v1), none, some (.int v3), some (.int v4), some (.int v5), some (.int v6), some (.int v7), some (.int v8), none, none, none, none], [], (w_e e_many e_spring e_leapable e_found e_whereOf e_rows e_from e_depth e_order e_places e_lesser), [], 0) := by
  intro n
  induction n with
  | zero => intro _ _ _ _ _ _ _ _ _ _ _ _ h; exact h.elim
  | succ n ih =>
    intro v1 v3 v4 v5 v6 v7 v8 e_found e_whereOf e_rows e_from e_depth h
    unfold wp_X5_leapFrom_30 at h
    refine EV.seg (c' := (36, [some (.ref 0), some (.int v1), none, some (.int v3), some (.int v4), some (.int v5), some (.int v6), some (.int v7), some (.int v8), none, none, none, none], [.int e_spring, .int v8], (w_e e_many e_spring e_leapable e_found e_whereOf e_rows e_from e_depth e_order e_places e_lesser), [], 0)) 3 rfl trivial ?_
    refine EV.br (c1 := (203, [some (.ref 0), some (.int v1), none, some (.int v3), some (.int v4), some (.int v5), some (.int v6), some (.int v7), some (.int v8), none, none, none, none], [], (w_e e_many e_spring e_leapable e_found e_whereOf e_rows e_from e_depth e_order e_places e_lesser), [], 0)) (c2 := (39, [some (.ref 0), some (.int v1), none, some (.int v3), some (.int v4), some (.int v5), some (.int v6), some (.int v7), some (.int v8), none, none, none, none], [], (w_e e_many e_spring e_leapable e_found e_whereOf e_rows e_from e_depth e_order e_places e_lesser), [], 0)) rfl (fun hc => ?_) (fun hc => ?_)
    · have h := h.1 hc
      refine EV.mask (ls' := [none, none, none, none, none, none, none, none, none, none, none, none, none]) rfl rfl ?_
      exact (ok_X5_leapFrom_203 ) _ _ _ _ _ h
    · have h := h.2 hc
      refine EV.seg (c' := (42, [some (.ref 0), some (.int v1), none, some (.int v3), some (.int v4), some (.int v5), some (.int v6), some (.int v7), some (.int v8), none, none, none, none], [.int v3, .int v8], (w_e e_many e_spring e_leapable e_found e_whereOf e_rows e_from e_depth e_order e_places e_lesser), [], 0)) 2 rfl trivial ?_
      refine EV.br (c1 := (203, [some (.ref 0), some (.int v1), none, some (.int v3), some (.int v4), some (.int v5), some (.int v6), some (.int v7), some (.int v8), none, none, none, none], [], (w_e e_many e_spring e_leapable e_found e_whereOf e_rows e_from e_depth e_order e_places e_lesser), [], 0)) (c2 := (45, [some (.ref 0), some (.int v1), none, some (.int v3), some (.int v4), some (.int v5), some (.int v6), some (.int v7), some (.int v8), none, none, none, none], [], (w_e e_many e_spring e_leapable e_found e_whereOf e_rows e_from e_depth e_order e_places e_lesser), [], 0)) rfl (fun hc => ?_) (fun hc => ?_)
      · have h := h.1 hc
        refine EV.mask (ls' := [none, none, none, none, none, none, none, none, none, none, none, none, none]) rfl rfl ?_
        exact (ok_X5_leapFrom_203 ) _ _ _ _ _ h
      · have h := h.2 hc
        refine EV.seg (c' := (51, [some (.ref 0), some (.int v1), none, some (.int v3), some (.int v4), some (.int v5), some (.int v6), some (.int v7), some (.int v8), some (.int (v3 - v8)), none, none, none], [], (w_e e_many e_spring e_leapable e_found e_whereOf e_rows e_from e_depth e_order e_places e_lesser), [], 0)) 4 rfl trivial ?_
        obtain ⟨x4, e_x4⟩ : ∃ z : Int32, z = v3 - v8 := ⟨_, rfl⟩
        have h := h x4 e_x4
        rw [← e_x4]
        obtain ⟨g1, h⟩ := h
        refine EV.seg (c' := (60, [some (.ref 0), some (.int v1), none, some (.int v3), some (.int v4), some (.int v5), some (.int v6), some (.int v7), some (.int v8), some (.int x4), some (.int (e_order x4.toNatClampNeg)), none, none], [], (w_e e_many e_spring e_leapable e_found e_whereOf e_rows e_from e_depth e_order e_places e_lesser), [], 0)) 5 rfl (And.intro g1 trivial) ?_
        obtain ⟨x5, e_x5⟩ : ∃ z : Int32, z = e_order x4.toNatClampNeg := ⟨_, rfl⟩
        have h := h x5 e_x5
        rw [← e_x5]
        obtain ⟨g1, h⟩ := h
        refine EV.seg (c' := (72, [some (.ref 0), some (.int v1), none, some (.int v3), some (.int v4), some (.int v5), some (.int v6), some (.int v7), some (.int v8), some (.int x4), some (.int x5), none, none], [.int (((e_leapable v4.toNatClampNeg) >>> (x5 &&& 31)) &&& (1 : Int32))], (w_e e_many e_spring e_leapable e_found e_whereOf e_rows e_from e_depth e_order e_places e_lesser), [], 0)) 8 rfl (And.intro g1 trivial) ?_
        refine EV.br (c1 := (75, [some (.ref 0), some (.int v1), none, some (.int v3), some (.int v4), some (.int v5), some (.int v6), some (.int v7), some (.int v8), some (.int x4), some (.int x5), none, none], [], (w_e e_many e_spring e_leapable e_found e_whereOf e_rows e_from e_depth e_order e_places e_lesser), [], 0)) (c2 := (76, [some (.ref 0), some (.int v1), none, some (.int v3), some (.int v4), some (.int v5), some (.int v6), some (.int v7), some (.int v8), some (.int x4), some (.int x5), none, none], [], (w_e e_many e_spring e_leapable e_found e_whereOf e_rows e_from e_depth e_order e_places e_lesser), [], 0)) rfl (fun hc => ?_) (fun hc => ?_)
        · have h := h.1 hc
          exact EV.ret rfl trivial ⟨_, _, _, _, _, rfl, h⟩
        · have h := h.2 hc
          refine EV.seg (c' := (80, [some (.ref 0), some (.int v1), none, some (.int v3), some (.int v4), some (.int v5), some (.int v6), some (.int v7), some (.int v8), some (.int x4), some (.int x5), none, none], [.int v4, .int x5], (w_e e_many e_spring e_leapable e_found e_whereOf e_rows e_from e_depth e_order e_places e_lesser), [], 0)) 2 rfl trivial ?_
          refine EV.br (c1 := (90, [some (.ref 0), some (.int v1), none, some (.int v3), some (.int v4), some (.int v5), some (.int v6), some (.int v7), some (.int v8), some (.int x4), some (.int x5), none, none], [], (w_e e_many e_spring e_leapable e_found e_whereOf e_rows e_from e_depth e_order e_places e_lesser), [], 0)) (c2 := (83, [some (.ref 0), some (.int v1), none, some (.int v3), some (.int v4), some (.int v5), some (.int v6), some (.int v7), some (.int v8), some (.int x4), some (.int x5), none, none], [], (w_e e_many e_spring e_leapable e_found e_whereOf e_rows e_from e_depth e_order e_places e_lesser), [], 0)) rfl (fun hc => ?_) (fun hc => ?_)
          · have h := h.1 hc
            refine EV.seg (c' := (92, [some (.ref 0), some (.int v1), none, some (.int v3), some (.int v4), some (.int v5), some (.int v6), some (.int v7), some (.int v8), some (.int x4), some (.int x5), none, none], [.int v7], (w_e e_many e_spring e_leapable e_found e_whereOf e_rows e_from e_depth e_order e_places e_lesser), [], 0)) 1 rfl trivial ?_
            exact (ok_X5_leapFrom_92 ih) _ _ _ _ _ _ _ _ _ _ _ _ _ _ _ h
          · have h := h.2 hc
            refine EV.seg (c' := (92, [some (.ref 0), some (.int v1), none, some (.int v3), some (.int v4), some (.int v5), some (.int v6), some (.int v7), some (.int v8), some (.int x4), some (.int x5), none, none], [.int (v7 + (1 : Int32))], (w_e e_many e_spring e_leapable e_found e_whereOf e_rows e_from e_depth e_order e_places e_lesser), [], 0)) 4 rfl trivial ?_
            exact (ok_X5_leapFrom_92 ih) _ _ _ _ _ _ _ _ _ _ _ _ _ _ _ h
theorem em_X5_leapFrom {X : Nat × (Nat → Int32)} {N : Nat} {e_many : Int32} {e_spring : Int32} {e_leapable : Nat → Int32} {e_order : Nat → Int32} {e_places : Nat → Int32} {e_lesser : Nat → Int32} {p0 : Int32} {p1 : Int32} {p2 : Int32} {e_found : Int32} {e_whereOf : Nat → Int32} {e_rows : Nat → Int32} {e_from : Nat → Int32} {e_depth : Nat → Int32} {Q : (Int32) → (Nat → Int32) → (Nat → Int32) → (Nat → Int32) → (Nat → Int32) → Prop} (h : wp_X5_leapFrom N e_many e_spring e_leapable e_order e_lesser Q p0 p1 p2 e_found e_whereOf e_rows e_from e_depth) : EM (ax_GG X) m_X5_leapFrom [.ref 0, .int p0, .int p1, .int p2] (w_e e_many e_spring e_leapable e_found e_whereOf e_rows e_from e_depth e_order e_places e_lesser) (po_X5_leapFrom e_many e_spring e_leapable e_order e_places e_lesser Q) := by
  unfold wp_X5_leapFrom at h
  show EV _ _ _ (0, [some (.ref 0), some (.int p0), some (.int p1), some (.int p2), none, none, none, none, none, none, none, none, none], [], (w_e e_many e_spring e_leapable e_found e_whereOf e_rows e_from e_depth e_order e_places e_lesser), [], 0)
  obtain ⟨g1, h⟩ := h
  refine EV.seg (c' := (8, [some (.ref 0), some (.int p0), some (.int p1), some (.int p2), some (.int (e_order p2.toNatClampNeg)), none, none, none, none, none, none, none, none], [], (w_e e_many e_spring e_leapable e_found e_whereOf e_rows e_from e_depth e_order e_places e_lesser), [], 0)) 5 rfl (And.intro g1 trivial) ?_
  obtain ⟨x1, e_x1⟩ : ∃ z : Int32, z = e_order p2.toNatClampNeg := ⟨_, rfl⟩
  have h := h x1 e_x1
  rw [← e_x1]
  obtain ⟨g1, h⟩ := h
  refine EV.seg (c' := (16, [some (.ref 0), some (.int p0), some (.int p1), some (.int p2), some (.int x1), some (.int (e_rows p0.toNatClampNeg)), none, none, none, none, none, none, none], [], (w_e e_many e_spring e_leapable e_found e_whereOf e_rows e_from e_depth e_order e_places e_lesser), [], 0)) 5 rfl (And.intro g1 trivial) ?_
  obtain ⟨x2, e_x2⟩ : ∃ z : Int32, z = e_rows p0.toNatClampNeg := ⟨_, rfl⟩
  have h := h x2 e_x2
  rw [← e_x2]
  obtain ⟨g1, h⟩ := h
  refine EV.seg (c' := (27, [some (.ref 0), some (.int p0), some (.int p1), some (.int p2), some (.int x1), some (.int x2), some (.int p1), some (.int (e_lesser p2.toNatClampNeg)), none, none, none, none, none], [], (w_e e_many e_spring e_leapable e_found e_whereOf e_rows e_from e_depth e_order e_places e_lesser), [], 0)) 7 rfl (And.intro g1 trivial) ?_
  obtain ⟨x3, e_x3⟩ : ∃ z : Int32, z = e_lesser p2.toNatClampNeg := ⟨_, rfl⟩
  have h := h x3 e_x3
  rw [← e_x3]
  refine EV.seg (c' := (30, [some (.ref 0), some (.int p0), some (.int p1), some (.int p2), some (.int x1), some (.int x2), some (.int p1), some (.int x3), some (.int (1 : Int32)), none, none, none, none], [], (w_e e_many e_spring e_leapable e_found e_whereOf e_rows e_from e_depth e_order e_places e_lesser), [], 0)) 2 rfl trivial ?_
  refine EV.mask (ls' := [some (.ref 0), some (.int p0), none, some (.int p2), some (.int x1), some (.int x2), some (.int p1), some (.int x3), some (.int (1 : Int32)), none, none, none, none]) rfl rfl ?_
  exact (ok_X5_leapFrom_30  N) _ _ _ _ _ _ _ _ _ _ _ _ h
