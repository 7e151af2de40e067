/-! the small machine keeps the typed predicates: by program -/
abbrev po_X5_leaveFrom (e_many : Int32) (e_spring : Int32) (e_leapable : Nat → Int32) (Q : (Int32) → (Nat → Int32) → (Nat → Int32) → (Nat → Int32) → (Nat → Int32) → (Nat → Int32) → (Nat → Int32) → (Nat → Int32) → Prop) : ax_E → Prop := fun out => ∃ (e_found' : Int32) (e_whereOf' : Nat → Int32) (e_rows' : Nat → Int32) (e_from' : Nat → Int32) (e_depth' : Nat → Int32) (e_order' : Nat → Int32) (e_places' : Nat → Int32) (e_lesser' : Nat → Int32), out = (none, (w_e e_many e_spring e_leapable e_found' e_whereOf' e_rows' e_from' e_depth' e_order' e_places' e_lesser'), [], 0) ∧ Q e_found' e_whereOf' e_rows' e_from' e_depth' e_order' e_places' e_lesser'
theorem ok_X5_leaveFrom_51 {X : Nat × (Nat → Int32)} {N : Nat} {e_many : Int32} {e_spring : Int32} {e_leapable : Nat → Int32}  {Q : (Int32) → (Nat → Int32) → (Nat → Int32) → (Nat → Int32) → (Nat → Int32) → (Nat → Int32) → (Nat → Int32) → (Nat → Int32) → Prop}  : ∀ (n : Nat) (v1 : Int32) (v2 : Int32) (v3 : Int32) (e_found : Int32) (e_whereOf : Nat → Int32) (e_rows : Nat → Int32) (e_from : Nat → Int32) (e_depth : Nat → Int32) (e_order : Nat → Int32) (e_places : Nat → Int32) (e_lesser : Nat → Int32), wp_X5_leaveFrom_51 N e_many e_spring e_leapable  Q n v1 v2 v3 e_found e_whereOf e_rows e_from e_depth e_order e_places e_lesser → EV (ax_GG X) m_X5_leaveFrom (po_X5_leaveFrom e_many e_spring e_leapable Q) (51, [some (.ref 0), some (.int v1), some (.int v2), some (.int v3)], [], (w_e e_many e_spring e_leapable e_found e_whereOf e_rows e_from e_depth e_order e_places e_lesser), [], 0) := by
  intro n
  induction n with
  | zero => intro _ _ _ _ _ _ _ _ _ _ _ h; exact h.elim
  | succ n ih =>
    intro v1 v2 v3 e_found e_whereOf e_rows e_from e_depth e_order e_places e_lesser h
    unfold wp_X5_leaveFrom_51 at h
    refine EV.seg (c' := (56, [some (.ref 0), some (.int v1), some (.int v2), some (.int v3)], [.int e_many, .int v3], (w_e e_many e_spring e_leapable e_found e_whereOf e_rows e_from e_depth e_order e_places e_lesser), [], 0)) 3 rfl trivial ?_
    refine EV.br (c1 := (77, [some (.ref 0), some (.int v1), some (.int v2), some (.int v3)], [], (w_e e_many e_spring e_leapable e_found e_whereOf e_rows e_from e_depth e_order e_places e_lesser), [], 0)) (c2 := (59, [some (.ref 0), some (.int v1), some (.int v2), some (.int v3)], [], (w_e e_many e_spring e_leapable e_found e_whereOf e_rows e_from e_depth e_order e_places e_lesser), [], 0)) rfl (fun hc => ?_) (fun hc => ?_)
    · have h := h.1 hc
      exact EV.ret rfl trivial ⟨_, _, _, _, _, _, _, _, rfl, h⟩
    · have h := h.2 hc
      obtain ⟨g1, h⟩ := h
      refine EV.seg (c' := (68, [some (.ref 0), some (.int v1), some (.int v2), some (.int v3)], [.int (e_places v3.toNatClampNeg), .int v2, .int v1, .ref 0], (w_e e_many e_spring e_leapable e_found e_whereOf e_rows e_from e_depth e_order e_places e_lesser), [], 0)) 7 rfl (And.intro g1 trivial) ?_
      refine EV.call (M' := m_X5_leapFrom) rfl rfl (Nat.le_of_ble_eq_true rfl) (em_X5_leapFrom (e_many := e_many) (e_spring := e_spring) (e_leapable := e_leapable) (e_order := e_order) (e_places := e_places) (e_lesser := e_lesser) (e_found := e_found) (e_whereOf := e_whereOf) (e_rows := e_rows) (e_from := e_from) (e_depth := e_depth) h) (fun out ho => ?_)
      obtain ⟨m6, m7, m8, m9, m10, rfl, h⟩ := ho
      show EV _ _ _ (71, [some (.ref 0), some (.int v1), some (.int v2), some (.int v3)], [], (w_e e_many e_spring e_leapable m6 m7 m8 m9 m10 e_order e_places e_lesser), [], 0)
      refine EV.seg (c' := (51, [some (.ref 0), some (.int v1), some (.int v2), some (.int (v3 + 1))], [], (w_e e_many e_spring e_leapable m6 m7 m8 m9 m10 e_order e_places e_lesser), [], 0)) 2 rfl trivial ?_
      exact ih _ _ _ _ _ _ _ _ _ _ _ h
theorem ok_X5_leaveFrom_2 {X : Nat × (Nat → Int32)} {N : Nat} {e_many : Int32} {e_spring : Int32} {e_leapable : Nat → Int32}  {Q : (Int32) → (Nat → Int32) → (Nat → Int32) → (Nat → Int32) → (Nat → Int32) → (Nat → Int32) → (Nat → Int32) → (Nat → Int32) → Prop}  : ∀ (n : Nat) (v1 : Int32) (v2 : Int32) (e_found : Int32) (e_whereOf : Nat → Int32) (e_rows : Nat → Int32) (e_from : Nat → Int32) (e_depth : Nat → Int32) (e_order : Nat → Int32) (e_places : Nat → Int32) (e_lesser : Nat → Int32), wp_X5_leaveFrom_2 N e_many e_spring e_leapable  Q n v1 v2 e_found e_whereOf e_rows e_from e_depth e_order e_places e_lesser → EV (ax_GG X) m_X5_leaveFrom (po_X5_leaveFrom e_many e_spring e_leapable Q) (2, [some (.ref 0), some (.int v1), some (.int v2), none], [], (w_e e_many e_spring e_leapable e_found e_whereOf e_rows e_from e_depth e_order e_places e_lesser), [], 0) := by
  intro n
  induction n with
  | zero => intro _ _ _ _ _ _ _ _ _ _ h; exact h.elim
  | succ n ih =>
    intro v1 v2 e_found e_whereOf e_rows e_from e_depth e_order e_places e_lesser h
    unfold wp_X5_leaveFrom_2 at h
    refine EV.seg (c' := (7, [some (.ref 0), some (.int v1), some (.int v2), none], [.int e_many, .int v2], (w_e e_many e_spring e_leapable e_found e_whereOf e_rows e_from e_depth e_order e_places e_lesser), [], 0)) 3 rfl trivial ?_
    refine EV.br (c1 := (44, [some (.ref 0), some (.int v1), some (.int v2), none], [], (w_e e_many e_spring e_leapable e_found e_whereOf e_rows e_from e_depth e_order e_places e_lesser), [], 0)) (c2 := (10, [some (.ref 0), some (.int v1), some (.int v2), none], [], (w_e e_many e_spring e_leapable e_found e_whereOf e_rows e_from e_depth e_order e_places e_lesser), [], 0)) rfl (fun hc => ?_) (fun hc => ?_)
    · have h := h.1 hc
      refine EV.seg (c' := (45, [some (.ref 0), some (.int v1), some (.int v2), none], [.ref 0], (w_e e_many e_spring e_leapable e_found e_whereOf e_rows e_from e_depth e_order e_places e_lesser), [], 0)) 1 rfl trivial ?_
      refine EV.call (M' := m_X5_rank) rfl rfl (Nat.le_of_ble_eq_true rfl) (em_X5_rank (e_many := e_many) (e_spring := e_spring) (e_leapable := e_leapable) (e_found := e_found) (e_whereOf := e_whereOf) (e_rows := e_rows) (e_from := e_from) (e_depth := e_depth) (e_order := e_order) (e_places := e_places) (e_lesser := e_lesser) h) (fun out ho => ?_)
      obtain ⟨r1, m2, rfl, h⟩ := ho
      show EV _ _ _ (48, [some (.ref 0), some (.int v1), some (.int v2), none], [.int r1], (w_e e_many e_spring e_leapable e_found e_whereOf e_rows e_from e_depth e_order e_places m2), [], 0)
      refine EV.seg (c' := (51, [some (.ref 0), some (.int v1), some (.int r1), some (.int (0 : Int32))], [], (w_e e_many e_spring e_leapable e_found e_whereOf e_rows e_from e_depth e_order e_places m2), [], 0)) 3 rfl trivial ?_
      exact (ok_X5_leaveFrom_51  N) _ _ _ _ _ _ _ _ _ _ _ h
    · have h := h.2 hc
      obtain ⟨g1, h⟩ := h
      refine EV.seg (c' := (24, [some (.ref 0), some (.int v1), some (.int v2), some (.int (((e_rows v1.toNatClampNeg) >>> (((3 : Int32) * v2) &&& 31)) &&& (7 : Int32)))], [], (w_e e_many e_spring e_leapable e_found e_whereOf e_rows e_from e_depth e_order e_places e_lesser), [], 0)) 11 rfl (And.intro g1 trivial) ?_
      obtain ⟨x3, e_x3⟩ : ∃ z : Int32, z = ((e_rows v1.toNatClampNeg) >>> (((3 : Int32) * v2) &&& 31)) &&& (7 : Int32) := ⟨_, rfl⟩
      have h := h x3 e_x3
      rw [← e_x3]
      obtain ⟨g1, h⟩ := h
      refine EV.seg (c' := (31, [some (.ref 0), some (.int v1), some (.int v2), some (.int x3)], [], (w_e e_many e_spring e_leapable e_found e_whereOf e_rows e_from e_depth (upd e_order v2.toNatClampNeg x3) e_places e_lesser), [], 0)) 5 rfl (And.intro g1 trivial) ?_
      obtain ⟨a4, e_a4⟩ : ∃ z : Nat → Int32, z = upd e_order v2.toNatClampNeg x3 := ⟨_, rfl⟩
      have h := h a4 e_a4
      rw [← e_a4]
      obtain ⟨g1, h⟩ := h
      refine EV.seg (c' := (38, [some (.ref 0), some (.int v1), some (.int v2), some (.int x3)], [], (w_e e_many e_spring e_leapable e_found e_whereOf e_rows e_from e_depth a4 (upd e_places x3.toNatClampNeg v2) e_lesser), [], 0)) 5 rfl (And.intro g1 trivial) ?_
      obtain ⟨a5, e_a5⟩ : ∃ z : Nat → Int32, z = upd e_places x3.toNatClampNeg v2 := ⟨_, rfl⟩
      have h := h a5 e_a5
      rw [← e_a5]
      refine EV.seg (c' := (2, [some (.ref 0), some (.int v1), some (.int (v2 + 1)), some (.int x3)], [], (w_e e_many e_spring e_leapable e_found e_whereOf e_rows e_from e_depth a4 a5 e_lesser), [], 0)) 2 rfl trivial ?_
      refine EV.mask (ls' := [some (.ref 0), some (.int v1), some (.int (v2 + 1)), none]) rfl rfl ?_
      exact ih _ _ _ _ _ _ _ _ _ _ h
theorem em_X5_leaveFrom {X : Nat × (Nat → Int32)} {N : Nat} {e_many : Int32} {e_spring : Int32} {e_leapable : Nat → Int32} {p0 : Int32} {e_found : Int32} {e_whereOf : Nat → Int32} {e_rows : Nat → Int32} {e_from : Nat → Int32} {e_depth : Nat → Int32} {e_order : Nat → Int32} {e_places : Nat → Int32} {e_lesser : Nat → Int32} {Q : (Int32) → (Nat → Int32) → (Nat → Int32) → (Nat → Int32) → (Nat → Int32) → (Nat → Int32) → (Nat → Int32) → (Nat → Int32) → Prop} (h : wp_X5_leaveFrom N e_many e_spring e_leapable Q p0 e_found e_whereOf e_rows e_from e_depth e_order e_places e_lesser) : EM (ax_GG X) m_X5_leaveFrom [.ref 0, .int p0] (w_e e_many e_spring e_leapable e_found e_whereOf e_rows e_from e_depth e_order e_places e_lesser) (po_X5_leaveFrom e_many e_spring e_leapable Q) := by
  unfold wp_X5_leaveFrom at h
  show EV _ _ _ (0, [some (.ref 0), some (.int p0), none, none], [], (w_e e_many e_spring e_leapable e_found e_whereOf e_rows e_from e_depth e_order e_places e_lesser), [], 0)
  refine EV.seg (c' := (2, [some (.ref 0), some (.int p0), some (.int (0 : Int32)), none], [], (w_e e_many e_spring e_leapable e_found e_whereOf e_rows e_from e_depth e_order e_places e_lesser), [], 0)) 2 rfl trivial ?_
  exact (ok_X5_leaveFrom_2  N) _ _ _ _ _ _ _ _ _ _ h
abbrev po_X5_explore (l_told : Int32) (l_spring : Int32) (l_many : Int32) (l_back : Nat → Int32) (l_leap : Nat → Int32) (l_breath : Nat → Int32) (g_turn : Int32) (g_order : Nat → Int32) (g_back : Nat → Int32) (g_breath : Nat → Int32) (g_leapt : Nat → Int32) (Q : (Int32) → (Int32) → (Nat → Int32) → (Int32) → (Nat → Int32) → (Nat → Int32) → (Nat → Int32) → (Nat → Int32) → (Nat → Int32) → (Nat → Int32) → (Nat → Int32) → Prop) : ax_E → Prop := fun out => ∃ (e_many' : Int32) (e_spring' : Int32) (e_leapable' : Nat → Int32) (e_found' : Int32) (e_whereOf' : Nat → Int32) (e_rows' : Nat → Int32) (e_from' : Nat → Int32) (e_depth' : Nat → Int32) (e_order' : Nat → Int32) (e_places' : Nat → Int32) (e_lesser' : Nat → Int32), out = (none, (w_elg e_many' e_spring' e_leapable' e_found' e_whereOf' e_rows' e_from' e_depth' e_order' e_places' e_lesser' l_told l_spring l_many l_back l_leap l_breath g_turn g_order g_back g_breath g_leapt), [], 0) ∧ Q e_many' e_spring' e_leapable' e_found' e_whereOf' e_rows' e_from' e_depth' e_order' e_places' e_lesser'
theorem ok_X5_explore_144 {X : Nat × (Nat → Int32)} {N : Nat} {l_told : Int32} {l_spring : Int32} {l_many : Int32} {l_back : Nat → Int32} {l_leap : Nat → Int32} {l_breath : Nat → Int32} {g_turn : Int32} {g_order : Nat → Int32} {g_back : Nat → Int32} {g_breath : Nat → Int32} {g_leapt : Nat → Int32}  {Q : (Int32) → (Int32) → (Nat → Int32) → (Int32) → (Nat → Int32) → (Nat → Int32) → (Nat → Int32) → (Nat → Int32) → (Nat → Int32) → (Nat → Int32) → (Nat → Int32) → Prop}  : ∀ (e_many : Int32) (e_spring : Int32) (e_leapable : Nat → Int32) (e_found : Int32) (e_whereOf : Nat → Int32) (e_rows : Nat → Int32) (e_from : Nat → Int32) (e_depth : Nat → Int32) (e_order : Nat → Int32) (e_places : Nat → Int32) (e_lesser : Nat → Int32), wp_X5_explore_144 N l_spring l_many l_leap g_order g_back  Q  e_many e_spring e_leapable e_found e_whereOf e_rows e_from e_depth e_order e_places e_lesser → EV (ax_GG X) m_X5_explore (po_X5_explore l_told l_spring l_many l_back l_leap l_breath g_turn g_order g_back g_breath g_leapt Q) (144, [none, none, none, none, none, none], [], (w_elg e_many e_spring e_leapable e_found e_whereOf e_rows e_from e_depth e_order e_places e_lesser l_told l_spring l_many l_back l_leap l_breath g_turn g_order g_back g_breath g_leapt), [], 0) := by
  intro e_many e_spring e_leapable e_found e_whereOf e_rows e_from e_depth e_order e_places e_lesser h
  unfold wp_X5_explore_144 at h
  exact EV.ret rfl trivial ⟨_, _, _, _, _, _, _, _, _, _, _, rfl, h⟩
theorem ok_X5_explore_115 {X : Nat × (Nat → Int32)} {N : Nat} {l_told : Int32} {l_spring : Int32} {l_many : Int32} {l_back : Nat → Int32} {l_leap : Nat → Int32} {l_breath : Nat → Int32} {g_turn : Int32} {g_order : Nat → Int32} {g_back : Nat → Int32} {g_breath : Nat → Int32} {g_leapt : Nat → Int32}  {Q : (Int32) → (Int32) → (Nat → Int32) → (Int32) → (Nat → Int32) → (Nat → Int32) → (Nat → Int32) → (Nat → Int32) → (Nat → Int32) → (Nat → Int32) → (Nat → Int32) → Prop}  : ∀ (n : Nat) (v4 : Int32) (e_many : Int32) (e_spring : Int32) (e_leapable : Nat → Int32) (e_found : Int32) (e_whereOf : Nat → Int32) (e_rows : Nat → Int32) (e_from : Nat → Int32) (e_depth : Nat → Int32) (e_order : Nat → Int32) (e_places : Nat → Int32) (e_lesser : Nat → Int32), wp_X5_explore_115 N l_spring l_many l_leap g_order g_back  Q n v4 e_many e_spring e_leapable e_found e_whereOf e_rows e_from e_depth e_order e_places e_lesser → EV (ax_GG X) m_X5_explore (po_X5_explore l_told l_spring l_many l_back l_leap l_breath g_turn g_order g_back g_breath g_leapt Q) (115, [some (.ref 0), none, none, none, some (.int v4), none], [], (w_elg e_many e_spring e_leapable e_found e_whereOf e_rows e_from e_depth e_order e_places e_lesser l_told l_spring l_many l_back l_leap l_breath g_turn g_order g_back g_breath g_leapt), [], 0) := by
  intro n
  induction n with
  | zero => intro _ _ _ _ _ _ _ _ _ _ _ _ h; exact h.elim
  | succ n ih =>
    intro v4 e_many e_spring e_leapable e_found e_whereOf e_rows e_from e_depth e_order e_places e_lesser h
    unfold wp_X5_explore_115 at h
    refine EV.seg (c' := (121, [some (.ref 0), none, none, none, some (.int v4), none], [.int e_found, .int v4], (w_elg e_many e_spring e_leapable e_found e_whereOf e_rows e_from e_depth e_order e_places e_lesser l_told l_spring l_many l_back l_leap l_breath g_turn g_order g_back g_breath g_leapt), [], 0)) 3 rfl trivial ?_
    refine EV.br (c1 := (144, [some (.ref 0), none, none, none, some (.int v4), none], [], (w_elg e_many e_spring e_leapable e_found e_whereOf e_rows e_from e_depth e_order e_places e_lesser l_told l_spring l_many l_back l_leap l_breath g_turn g_order g_back g_breath g_leapt), [], 0)) (c2 := (124, [some (.ref 0), none, none, none, some (.int v4), none], [], (w_elg e_many e_spring e_leapable e_found e_whereOf e_rows e_from e_depth e_order e_places e_lesser l_told l_spring l_many l_back l_leap l_breath g_turn g_order g_back g_breath g_leapt), [], 0)) rfl (fun hc => ?_) (fun hc => ?_)
    · have h := h.1 hc
      refine EV.mask (ls' := [none, none, none, none, none, none]) rfl rfl ?_
      exact (ok_X5_explore_144 ) _ _ _ _ _ _ _ _ _ _ _ h
    · have h := h.2 hc
      refine EV.seg (c' := (129, [some (.ref 0), none, none, none, some (.int v4), none], [.int (5040 : Int32), .int v4], (w_elg e_many e_spring e_leapable e_found e_whereOf e_rows e_from e_depth e_order e_places e_lesser l_told l_spring l_many l_back l_leap l_breath g_turn g_order g_back g_breath g_leapt), [], 0)) 2 rfl trivial ?_
      refine EV.br (c1 := (144, [some (.ref 0), none, none, none, some (.int v4), none], [], (w_elg e_many e_spring e_leapable e_found e_whereOf e_rows e_from e_depth e_order e_places e_lesser l_told l_spring l_many l_back l_leap l_breath g_turn g_order g_back g_breath g_leapt), [], 0)) (c2 := (132, [some (.ref 0), none, none, none, some (.int v4), none], [], (w_elg e_many e_spring e_leapable e_found e_whereOf e_rows e_from e_depth e_order e_places e_lesser l_told l_spring l_many l_back l_leap l_breath g_turn g_order g_back g_breath g_leapt), [], 0)) rfl (fun hc => ?_) (fun hc => ?_)
      · have h := h.1 hc
        refine EV.mask (ls' := [none, none, none, none, none, none]) rfl rfl ?_
        exact (ok_X5_explore_144 ) _ _ _ _ _ _ _ _ _ _ _ h
      · have h := h.2 hc
        refine EV.seg (c' := (135, [some (.ref 0), none, none, none, some (.int v4), none], [.int v4, .ref 0], (w_elg e_many e_spring e_leapable e_found e_whereOf e_rows e_from e_depth e_order e_places e_lesser l_told l_spring l_many l_back l_leap l_breath g_turn g_order g_back g_breath g_leapt), [], 0)) 2 rfl trivial ?_
        refine EV.callL (M' := m_X5_leaveFrom) (L := [0, 1, 2, 3, 4, 5, 6, 7, 8]) rfl rfl ⟨rfl, Nat.le_of_ble_eq_true rfl⟩ rfl rfl (em_X5_leaveFrom (e_many := e_many) (e_spring := e_spring) (e_leapable := e_leapable) (e_found := e_found) (e_whereOf := e_whereOf) (e_rows := e_rows) (e_from := e_from) (e_depth := e_depth) (e_order := e_order) (e_places := e_places) (e_lesser := e_lesser) h) (fun out ho => ?_)
        obtain ⟨m15, m16, m17, m18, m19, m20, m21, m22, rfl, h⟩ := ho
        show EV _ _ _ (138, [some (.ref 0), none, none, none, some (.int v4), none], [], (w_elg e_many e_spring e_leapable m15 m16 m17 m18 m19 m20 m21 m22 l_told l_spring l_many l_back l_leap l_breath g_turn g_order g_back g_breath g_leapt), [], 0)
        refine EV.seg (c' := (115, [some (.ref 0), none, none, none, some (.int (v4 + 1)), none], [], (w_elg e_many e_spring e_leapable m15 m16 m17 m18 m19 m20 m21 m22 l_told l_spring l_many l_back l_leap l_breath g_turn g_order g_back g_breath g_leapt), [], 0)) 2 rfl trivial ?_
        exact ih _ _ _ _ _ _ _ _ _ _ _ _ h
theorem ok_X5_explore_44 {X : Nat × (Nat → Int32)} {N : Nat} {l_told : Int32} {l_spring : Int32} {l_many : Int32} {l_back : Nat → Int32} {l_leap : Nat → Int32} {l_breath : Nat → Int32} {g_turn : Int32} {g_order : Nat → Int32} {g_back : Nat → Int32} {g_breath : Nat → Int32} {g_leapt : Nat → Int32}  {Q : (Int32) → (Int32) → (Nat → Int32) → (Int32) → (Nat → Int32) → (Nat → Int32) → (Nat → Int32) → (Nat → Int32) → (Nat → Int32) → (Nat → Int32) → (Nat → Int32) → Prop}  : ∀ (n : Nat) (v3 : Int32) (v4 : Int32) (e_many : Int32) (e_spring : Int32) (e_leapable : Nat → Int32) (e_found : Int32) (e_whereOf : Nat → Int32) (e_rows : Nat → Int32) (e_from : Nat → Int32) (e_depth : Nat → Int32) (e_order : Nat → Int32) (e_places : Nat → Int32) (e_lesser : Nat → Int32), wp_X5_explore_44 N l_spring l_many l_leap g_order g_back  Q n v3 v4 e_many e_spring e_leapable e_found e_whereOf e_rows e_from e_depth e_order e_places e_lesser → EV (ax_GG X) m_X5_explore (po_X5_explore l_told l_spring l_many l_back l_leap l_breath g_turn g_order g_back g_breath g_leapt Q) (44, [some (.ref 0), some (.ref 9), some (.ref 13), some (.int v3), some (.int v4), none], [], (w_elg e_many e_spring e_leapable e_found e_whereOf e_rows e_from e_depth e_order e_places e_lesser l_told l_spring l_many l_back l_leap l_breath g_turn g_order g_back g_breath g_leapt), [], 0) := by
  intro n
  induction n with
  | zero => intro _ _ _ _ _ _ _ _ _ _ _ _ _ h; exact h.elim
  | succ n ih =>
    intro v3 v4 e_many e_spring e_leapable e_found e_whereOf e_rows e_from e_depth e_order e_places e_lesser h
    unfold wp_X5_explore_44 at h
    refine EV.seg (c' := (50, [some (.ref 0), some (.ref 9), some (.ref 13), some (.int v3), some (.int v4), none], [.int e_many, .int v4], (w_elg e_many e_spring e_leapable e_found e_whereOf e_rows e_from e_depth e_order e_places e_lesser l_told l_spring l_many l_back l_leap l_breath g_turn g_order g_back g_breath g_leapt), [], 0)) 3 rfl trivial ?_
    refine EV.br (c1 := (101, [some (.ref 0), some (.ref 9), some (.ref 13), some (.int v3), some (.int v4), none], [], (w_elg e_many e_spring e_leapable e_found e_whereOf e_rows e_from e_depth e_order e_places e_lesser l_told l_spring l_many l_back l_leap l_breath g_turn g_order g_back g_breath g_leapt), [], 0)) (c2 := (53, [some (.ref 0), some (.ref 9), some (.ref 13), some (.int v3), some (.int v4), none], [], (w_elg e_many e_spring e_leapable e_found e_whereOf e_rows e_from e_depth e_order e_places e_lesser l_told l_spring l_many l_back l_leap l_breath g_turn g_order g_back g_breath g_leapt), [], 0)) rfl (fun hc => ?_) (fun hc => ?_)
    · have h := h.1 hc
      refine EV.seg (c' := (103, [some (.ref 0), some (.ref 9), some (.ref 13), some (.int v3), some (.int v4), none], [.ref 0, .ref 0], (w_elg e_many e_spring e_leapable e_found e_whereOf e_rows e_from e_depth e_order e_places e_lesser l_told l_spring l_many l_back l_leap l_breath g_turn g_order g_back g_breath g_leapt), [], 0)) 2 rfl trivial ?_
      refine EV.callL (M' := m_X5_rank) (L := [0, 1, 2, 3, 4, 5, 6, 7, 8]) rfl rfl ⟨rfl, Nat.le_of_ble_eq_true rfl⟩ rfl rfl (em_X5_rank (e_many := e_many) (e_spring := e_spring) (e_leapable := e_leapable) (e_found := e_found) (e_whereOf := e_whereOf) (e_rows := e_rows) (e_from := e_from) (e_depth := e_depth) (e_order := e_order) (e_places := e_places) (e_lesser := e_lesser) h) (fun out ho => ?_)
      obtain ⟨r3, m4, rfl, h⟩ := ho
      show EV _ _ _ (106, [some (.ref 0), some (.ref 9), some (.ref 13), some (.int v3), some (.int v4), none], [.int r3, .ref 0], (w_elg e_many e_spring e_leapable e_found e_whereOf e_rows e_from e_depth e_order e_places m4 l_told l_spring l_many l_back l_leap l_breath g_turn g_order g_back g_breath g_leapt), [], 0)
      refine EV.seg (c' := (109, [some (.ref 0), some (.ref 9), some (.ref 13), some (.int v3), some (.int v4), none], [.int (0 : Int32), .int (0 : Int32), .int v3, .int r3, .ref 0], (w_elg e_many e_spring e_leapable e_found e_whereOf e_rows e_from e_depth e_order e_places m4 l_told l_spring l_many l_back l_leap l_breath g_turn g_order g_back g_breath g_leapt), [], 0)) 3 rfl trivial ?_
      refine EV.callL (M' := m_X5_add) (L := [0, 1, 2, 3, 4, 5, 6, 7, 8]) rfl rfl ⟨rfl, Nat.le_of_ble_eq_true rfl⟩ rfl rfl (em_X5_add (e_many := e_many) (e_spring := e_spring) (e_leapable := e_leapable) (e_order := e_order) (e_places := e_places) (e_lesser := m4) (e_found := e_found) (e_whereOf := e_whereOf) (e_rows := e_rows) (e_from := e_from) (e_depth := e_depth) h) (fun out ho => ?_)
      obtain ⟨m5, m6, m7, m8, m9, rfl, h⟩ := ho
      show EV _ _ _ (112, [some (.ref 0), some (.ref 9), some (.ref 13), some (.int v3), some (.int v4), none], [], (w_elg e_many e_spring e_leapable m5 m6 m7 m8 m9 e_order e_places m4 l_told l_spring l_many l_back l_leap l_breath g_turn g_order g_back g_breath g_leapt), [], 0)
      refine EV.seg (c' := (115, [some (.ref 0), some (.ref 9), some (.ref 13), some (.int v3), some (.int (0 : Int32)), none], [], (w_elg e_many e_spring e_leapable m5 m6 m7 m8 m9 e_order e_places m4 l_told l_spring l_many l_back l_leap l_breath g_turn g_order g_back g_breath g_leapt), [], 0)) 2 rfl trivial ?_
      refine EV.mask (ls' := [some (.ref 0), none, none, none, some (.int (0 : Int32)), none]) rfl rfl ?_
      exact (ok_X5_explore_115  N) _ _ _ _ _ _ _ _ _ _ _ _ h
    · have h := h.2 hc
      obtain ⟨g1, h⟩ := h
      refine EV.seg (c' := (62, [some (.ref 0), some (.ref 9), some (.ref 13), some (.int v3), some (.int v4), some (.int (g_order v4.toNatClampNeg))], [], (w_elg e_many e_spring e_leapable e_found e_whereOf e_rows e_from e_depth e_order e_places e_lesser l_told l_spring l_many l_back l_leap l_breath g_turn g_order g_back g_breath g_leapt), [], 0)) 5 rfl (And.intro g1 trivial) ?_
      obtain ⟨x10, e_x10⟩ : ∃ z : Int32, z = g_order v4.toNatClampNeg := ⟨_, rfl⟩
      have h := h x10 e_x10
      rw [← e_x10]
      obtain ⟨g1, h⟩ := h
      refine EV.seg (c' := (71, [some (.ref 0), some (.ref 9), some (.ref 13), some (.int v3), some (.int v4), some (.int x10)], [], (w_elg e_many e_spring e_leapable e_found e_whereOf e_rows e_from e_depth (upd e_order v4.toNatClampNeg x10) e_places e_lesser l_told l_spring l_many l_back l_leap l_breath g_turn g_order g_back g_breath g_leapt), [], 0)) 5 rfl (And.intro g1 trivial) ?_
      obtain ⟨a11, e_a11⟩ : ∃ z : Nat → Int32, z = upd e_order v4.toNatClampNeg x10 := ⟨_, rfl⟩
      have h := h a11 e_a11
      rw [← e_a11]
      refine EV.seg (c' := (81, [some (.ref 0), some (.ref 9), some (.ref 13), some (.int (v3 ||| (x10 <<< (((3 : Int32) * v4) &&& 31)))), some (.int v4), some (.int x10)], [], (w_elg e_many e_spring e_leapable e_found e_whereOf e_rows e_from e_depth a11 e_places e_lesser l_told l_spring l_many l_back l_leap l_breath g_turn g_order g_back g_breath g_leapt), [], 0)) 8 rfl trivial ?_
      obtain ⟨x12, e_x12⟩ : ∃ z : Int32, z = v3 ||| (x10 <<< (((3 : Int32) * v4) &&& 31)) := ⟨_, rfl⟩
      have h := h x12 e_x12
      rw [← e_x12]
      refine EV.seg (c' := (91, [some (.ref 0), some (.ref 9), some (.ref 13), some (.int x12), some (.int v4), some (.int x10)], [.int x10, .ref 13, .ref 9, .int x10, .ref 1], (w_elg e_many e_spring e_leapable e_found e_whereOf e_rows e_from e_depth a11 e_places e_lesser l_told l_spring l_many l_back l_leap l_breath g_turn g_order g_back g_breath g_leapt), [], 0)) 6 rfl trivial ?_
      refine EV.callL (M' := m_X5_leapableBy) (L := [9, 10, 11, 12, 13, 14, 15, 16, 17]) rfl rfl ⟨rfl, Nat.le_of_ble_eq_true rfl⟩ rfl rfl (em_X5_leapableBy (l_told := l_told) (l_spring := l_spring) (l_many := l_many) (l_back := l_back) (l_leap := l_leap) (l_breath := l_breath) (g_turn := g_turn) (g_order := g_order) (g_back := g_back) (g_breath := g_breath) (g_leapt := g_leapt)  h) (fun out ho => ?_)
      obtain ⟨r13, rfl, h⟩ := ho
      show EV _ _ _ (94, [some (.ref 0), some (.ref 9), some (.ref 13), some (.int x12), some (.int v4), some (.int x10)], [.int r13, .int x10, .ref 1], (w_elg e_many e_spring e_leapable e_found e_whereOf e_rows e_from e_depth a11 e_places e_lesser l_told l_spring l_many l_back l_leap l_breath g_turn g_order g_back g_breath g_leapt), [], 0)
      obtain ⟨g1, h⟩ := h
      refine EV.seg (c' := (95, [some (.ref 0), some (.ref 9), some (.ref 13), some (.int x12), some (.int v4), some (.int x10)], [], (w_elg e_many e_spring (upd e_leapable x10.toNatClampNeg r13) e_found e_whereOf e_rows e_from e_depth a11 e_places e_lesser l_told l_spring l_many l_back l_leap l_breath g_turn g_order g_back g_breath g_leapt), [], 0)) 1 rfl (And.intro g1 trivial) ?_
      obtain ⟨a14, e_a14⟩ : ∃ z : Nat → Int32, z = upd e_leapable x10.toNatClampNeg r13 := ⟨_, rfl⟩
      have h := h a14 e_a14
      rw [← e_a14]
      refine EV.seg (c' := (44, [some (.ref 0), some (.ref 9), some (.ref 13), some (.int x12), some (.int (v4 + 1)), some (.int x10)], [], (w_elg e_many e_spring a14 e_found e_whereOf e_rows e_from e_depth a11 e_places e_lesser l_told l_spring l_many l_back l_leap l_breath g_turn g_order g_back g_breath g_leapt), [], 0)) 2 rfl trivial ?_
      refine EV.mask (ls' := [some (.ref 0), some (.ref 9), some (.ref 13), some (.int x12), some (.int (v4 + 1)), none]) rfl rfl ?_
      exact ih _ _ _ _ _ _ _ _ _ _ _ _ _ h
theorem em_X5_explore {X : Nat × (Nat → Int32)} {N : Nat} {l_told : Int32} {l_spring : Int32} {l_many : Int32} {l_back : Nat → Int32} {l_leap : Nat → Int32} {l_breath : Nat → Int32} {g_turn : Int32} {g_order : Nat → Int32} {g_back : Nat → Int32} {g_breath : Nat → Int32} {g_leapt : Nat → Int32} {e_many : Int32} {e_spring : Int32} {e_leapable : Nat → Int32} {e_found : Int32} {e_whereOf : Nat → Int32} {e_rows : Nat → Int32} {e_from : Nat → Int32} {e_depth : Nat → Int32} {e_order : Nat → Int32} {e_places : Nat → Int32} {e_lesser : Nat → Int32} {Q : (Int32) → (Int32) → (Nat → Int32) → (Int32) → (Nat → Int32) → (Nat → Int32) → (Nat → Int32) → (Nat → Int32) → (Nat → Int32) → (Nat → Int32) → (Nat → Int32) → Prop} (h : wp_X5_explore N l_spring l_many l_leap g_order g_back Q e_many e_spring e_leapable e_found e_whereOf e_rows e_from e_depth e_order e_places e_lesser) : EM (ax_GG X) m_X5_explore [.ref 0, .ref 9, .ref 13] (w_elg e_many e_spring e_leapable e_found e_whereOf e_rows e_from e_depth e_order e_places e_lesser l_told l_spring l_many l_back l_leap l_breath g_turn g_order g_back g_breath g_leapt) (po_X5_explore l_told l_spring l_many l_back l_leap l_breath g_turn g_order g_back g_breath g_leapt Q) := by
  unfold wp_X5_explore at h
  show EV _ _ _ (0, [some (.ref 0), some (.ref 9), some (.ref 13), none, none, none], [], (w_elg e_many e_spring e_leapable e_found e_whereOf e_rows e_from e_depth e_order e_places e_lesser l_told l_spring l_many l_back l_leap l_breath g_turn g_order g_back g_breath g_leapt), [], 0)
  refine EV.seg (c' := (3, [some (.ref 0), some (.ref 9), some (.ref 13), none, none, none], [.ref 13, .ref 9, .ref 0], (w_elg e_many e_spring e_leapable e_found e_whereOf e_rows e_from e_depth e_order e_places e_lesser l_told l_spring l_many l_back l_leap l_breath g_turn g_order g_back g_breath g_leapt), [], 0)) 3 rfl trivial ?_
  refine EV.call (M' := m_X5_isAsExplored) rfl rfl (Nat.le_of_ble_eq_true rfl) (em_X5_isAsExplored (e_many := e_many) (e_spring := e_spring) (e_leapable := e_leapable) (e_found := e_found) (e_whereOf := e_whereOf) (e_rows := e_rows) (e_from := e_from) (e_depth := e_depth) (e_order := e_order) (e_places := e_places) (e_lesser := e_lesser) (l_told := l_told) (l_spring := l_spring) (l_many := l_many) (l_back := l_back) (l_leap := l_leap) (l_breath := l_breath) (g_turn := g_turn) (g_order := g_order) (g_back := g_back) (g_breath := g_breath) (g_leapt := g_leapt)  h) (fun out ho => ?_)
  obtain ⟨r1, rfl, h⟩ := ho
  show EV _ _ _ (6, [some (.ref 0), some (.ref 9), some (.ref 13), none, none, none], [.int r1], (w_elg e_many e_spring e_leapable e_found e_whereOf e_rows e_from e_depth e_order e_places e_lesser l_told l_spring l_many l_back l_leap l_breath g_turn g_order g_back g_breath g_leapt), [], 0)
  refine EV.br (c1 := (10, [some (.ref 0), some (.ref 9), some (.ref 13), none, none, none], [], (w_elg e_many e_spring e_leapable e_found e_whereOf e_rows e_from e_depth e_order e_places e_lesser l_told l_spring l_many l_back l_leap l_breath g_turn g_order g_back g_breath g_leapt), [], 0)) (c2 := (9, [some (.ref 0), some (.ref 9), some (.ref 13), none, none, none], [], (w_elg e_many e_spring e_leapable e_found e_whereOf e_rows e_from e_depth e_order e_places e_lesser l_told l_spring l_many l_back l_leap l_breath g_turn g_order g_back g_breath g_leapt), [], 0)) rfl (fun hc => ?_) (fun hc => ?_)
  · have h := h.1 hc
    refine EV.seg (c' := (36, [some (.ref 0), some (.ref 9), some (.ref 13), none, none, none], [.int (0 : Int32), .ref 2], (w_elg l_many l_spring e_leapable (0 : Int32) e_whereOf e_rows e_from e_depth e_order e_places e_lesser l_told l_spring l_many l_back l_leap l_breath g_turn g_order g_back g_breath g_leapt), [], 0)) 14 rfl trivial ?_
    refine EV.callL (M' := m_J7_fill_53178) (L := [2]) rfl rfl ⟨rfl, Nat.le_of_ble_eq_true rfl⟩ rfl rfl (em_J7_fill_53178 (y0_len := 5040) (y0_a := e_whereOf) h) (fun out ho => ?_)
    obtain ⟨m2, rfl, h⟩ := ho
    show EV _ _ _ (39, [some (.ref 0), some (.ref 9), some (.ref 13), none, none, none], [], (w_elg l_many l_spring e_leapable (0 : Int32) m2 e_rows e_from e_depth e_order e_places e_lesser l_told l_spring l_many l_back l_leap l_breath g_turn g_order g_back g_breath g_leapt), [], 0)
    refine EV.seg (c' := (44, [some (.ref 0), some (.ref 9), some (.ref 13), some (.int (0 : Int32)), some (.int (0 : Int32)), none], [], (w_elg l_many l_spring e_leapable (0 : Int32) m2 e_rows e_from e_depth e_order e_places e_lesser l_told l_spring l_many l_back l_leap l_breath g_turn g_order g_back g_breath g_leapt), [], 0)) 4 rfl trivial ?_
    exact (ok_X5_explore_44  N) _ _ _ _ _ _ _ _ _ _ _ _ _ h
  · have h := h.2 hc
    exact EV.ret rfl trivial ⟨_, _, _, _, _, _, _, _, _, _, _, rfl, h⟩
abbrev po_X5_find (e_many : Int32) (e_spring : Int32) (e_leapable : Nat → Int32) (e_found : Int32) (e_whereOf : Nat → Int32) (e_rows : Nat → Int32) (e_from : Nat → Int32) (e_depth : Nat → Int32) (e_places : Nat → Int32) (Q : Int32 → (Nat → Int32) → (Nat → Int32) → Prop) : ax_E → Prop := fun out => ∃ (r : Int32) (e_order' : Nat → Int32) (e_lesser' : Nat → Int32), out = (some (.int r), (w_e e_many e_spring e_leapable e_found e_whereOf e_rows e_from e_depth e_order' e_places e_lesser'), [], 0) ∧ Q r e_order' e_lesser'
theorem ok_X5_find_64 {X : Nat × (Nat → Int32)} {N : Nat} {e_many : Int32} {e_spring : Int32} {e_leapable : Nat → Int32} {e_found : Int32} {e_whereOf : Nat → Int32} {e_rows : Nat → Int32} {e_from : Nat → Int32} {e_depth : Nat → Int32} {e_places : Nat → Int32}  {Q : Int32 → (Nat → Int32) → (Nat → Int32) → Prop}  : ∀ (s0 : Int32) (e_order : Nat → Int32) (e_lesser : Nat → Int32), wp_X5_find_64 N e_many e_whereOf  Q  s0 e_order e_lesser → EV (ax_GG X) m_X5_find (po_X5_find e_many e_spring e_leapable e_found e_whereOf e_rows e_from e_depth e_places Q) (64, [none, none, none, none], [.int s0], (w_e e_many e_spring e_leapable e_found e_whereOf e_rows e_from e_depth e_order e_places e_lesser), [], 0) := by
  intro s0 e_order e_lesser h
  unfold wp_X5_find_64 at h
  exact EV.ret rfl trivial ⟨_, _, _, rfl, h⟩
theorem ok_X5_find_63 {X : Nat × (Nat → Int32)} {N : Nat} {e_many : Int32} {e_spring : Int32} {e_leapable : Nat → Int32} {e_found : Int32} {e_whereOf : Nat → Int32} {e_rows : Nat → Int32} {e_from : Nat → Int32} {e_depth : Nat → Int32} {e_places : Nat → Int32} {K64 : (Int32) → (Nat → Int32) → (Nat → Int32) → Prop} {Q : Int32 → (Nat → Int32) → (Nat → Int32) → Prop} (hK64 : ∀ (s0 : Int32) (e_order : Nat → Int32) (e_lesser : Nat → Int32), K64 s0 e_order e_lesser → EV (ax_GG X) m_X5_find (po_X5_find e_many e_spring e_leapable e_found e_whereOf e_rows e_from e_depth e_places Q) (64, [none, none, none, none], [.int s0], (w_e e_many e_spring e_leapable e_found e_whereOf e_rows e_from e_depth e_order e_places e_lesser), [], 0)) : ∀ (e_order : Nat → Int32) (e_lesser : Nat → Int32), wp_X5_find_63 N e_many e_whereOf K64 Q  e_order e_lesser → EV (ax_GG X) m_X5_find (po_X5_find e_many e_spring e_leapable e_found e_whereOf e_rows e_from e_depth e_places Q) (63, [none, none, none, none], [], (w_e e_many e_spring e_leapable e_found e_whereOf e_rows e_from e_depth e_order e_places e_lesser), [], 0) := by
  intro e_order e_lesser h
  unfold wp_X5_find_63 at h
  refine EV.seg (c' := (64, [none, none, none, none], [.int (-1 : Int32)], (w_e e_many e_spring e_leapable e_found e_whereOf e_rows e_from e_depth e_order e_places e_lesser), [], 0)) 1 rfl trivial ?_
  exact hK64 _ _ _ h
theorem ok_X5_find_9 {X : Nat × (Nat → Int32)} {N : Nat} {e_many : Int32} {e_spring : Int32} {e_leapable : Nat → Int32} {e_found : Int32} {e_whereOf : Nat → Int32} {e_rows : Nat → Int32} {e_from : Nat → Int32} {e_depth : Nat → Int32} {e_places : Nat → Int32}  {Q : Int32 → (Nat → Int32) → (Nat → Int32) → Prop}  : ∀ (n : Nat) (v2 : Int32) (v3 : Int32) (e_order : Nat → Int32) (e_lesser : Nat → Int32), wp_X5_find_9 N e_many e_whereOf  Q n v2 v3 e_order e_lesser → EV (ax_GG X) m_X5_find (po_X5_find e_many e_spring e_leapable e_found e_whereOf e_rows e_from e_depth e_places Q) (9, [some (.ref 0), none, some (.int v2), some (.int v3)], [], (w_e e_many e_spring e_leapable e_found e_whereOf e_rows e_from e_depth e_order e_places e_lesser), [], 0) := by
  intro n
  induction n with
  | zero => intro _ _ _ _ h; exact h.elim
  | succ n ih =>
    intro v2 v3 e_order e_lesser h
    unfold wp_X5_find_9 at h
    refine EV.seg (c' := (10, [some (.ref 0), none, some (.int v2), some (.int v3)], [.int v3], (w_e e_many e_spring e_leapable e_found e_whereOf e_rows e_from e_depth e_order e_places e_lesser), [], 0)) 1 rfl trivial ?_
    refine EV.br (c1 := (36, [some (.ref 0), none, some (.int v2), some (.int v3)], [], (w_e e_many e_spring e_leapable e_found e_whereOf e_rows e_from e_depth e_order e_places e_lesser), [], 0)) (c2 := (13, [some (.ref 0), none, some (.int v2), some (.int v3)], [], (w_e e_many e_spring e_leapable e_found e_whereOf e_rows e_from e_depth e_order e_places e_lesser), [], 0)) rfl (fun hc => ?_) (fun hc => ?_)
    · have h := h.1 hc
      refine EV.seg (c' := (37, [some (.ref 0), none, some (.int v2), some (.int v3)], [.ref 0], (w_e e_many e_spring e_leapable e_found e_whereOf e_rows e_from e_depth e_order e_places e_lesser), [], 0)) 1 rfl trivial ?_
      refine EV.call (M' := m_X5_rank) rfl rfl (Nat.le_of_ble_eq_true rfl) (em_X5_rank (e_many := e_many) (e_spring := e_spring) (e_leapable := e_leapable) (e_found := e_found) (e_whereOf := e_whereOf) (e_rows := e_rows) (e_from := e_from) (e_depth := e_depth) (e_order := e_order) (e_places := e_places) (e_lesser := e_lesser) h) (fun out ho => ?_)
      obtain ⟨r2, m3, rfl, h⟩ := ho
      show EV _ _ _ (40, [some (.ref 0), none, some (.int v2), some (.int v3)], [.int r2], (w_e e_many e_spring e_leapable e_found e_whereOf e_rows e_from e_depth e_order e_places m3), [], 0)
      refine EV.seg (c' := (42, [some (.ref 0), none, some (.int v2), some (.int r2)], [.int r2], (w_e e_many e_spring e_leapable e_found e_whereOf e_rows e_from e_depth e_order e_places m3), [], 0)) 2 rfl trivial ?_
      refine EV.br (c1 := (63, [some (.ref 0), none, some (.int v2), some (.int r2)], [], (w_e e_many e_spring e_leapable e_found e_whereOf e_rows e_from e_depth e_order e_places m3), [], 0)) (c2 := (45, [some (.ref 0), none, some (.int v2), some (.int r2)], [], (w_e e_many e_spring e_leapable e_found e_whereOf e_rows e_from e_depth e_order e_places m3), [], 0)) rfl (fun hc => ?_) (fun hc => ?_)
      · have h := h.1 hc
        refine EV.mask (ls' := [none, none, none, none]) rfl rfl ?_
        exact (ok_X5_find_63 (ok_X5_find_64 )) _ _ h
      · have h := h.2 hc
        refine EV.seg (c' := (49, [some (.ref 0), none, some (.int v2), some (.int r2)], [.int (5040 : Int32), .int r2], (w_e e_many e_spring e_leapable e_found e_whereOf e_rows e_from e_depth e_order e_places m3), [], 0)) 2 rfl trivial ?_
        refine EV.br (c1 := (63, [some (.ref 0), none, some (.int v2), some (.int r2)], [], (w_e e_many e_spring e_leapable e_found e_whereOf e_rows e_from e_depth e_order e_places m3), [], 0)) (c2 := (52, [some (.ref 0), none, some (.int v2), some (.int r2)], [], (w_e e_many e_spring e_leapable e_found e_whereOf e_rows e_from e_depth e_order e_places m3), [], 0)) rfl (fun hc => ?_) (fun hc => ?_)
        · have h := h.1 hc
          refine EV.mask (ls' := [none, none, none, none]) rfl rfl ?_
          exact (ok_X5_find_63 (ok_X5_find_64 )) _ _ h
        · have h := h.2 hc
          obtain ⟨g1, h⟩ := h
          refine EV.seg (c' := (64, [some (.ref 0), none, some (.int v2), some (.int r2)], [.int ((e_whereOf r2.toNatClampNeg) - (1 : Int32))], (w_e e_many e_spring e_leapable e_found e_whereOf e_rows e_from e_depth e_order e_places m3), [], 0)) 7 rfl (And.intro g1 trivial) ?_
          refine EV.mask (ls' := [none, none, none, none]) rfl rfl ?_
          exact (ok_X5_find_64 ) _ _ _ h
    · have h := h.2 hc
      obtain ⟨g1, g2, h⟩ := h
      refine EV.seg (c' := (25, [some (.ref 0), none, some (.int v2), some (.int v3)], [], (w_e e_many e_spring e_leapable e_found e_whereOf e_rows e_from e_depth (upd e_order v3.toNatClampNeg ((v2 - v2 / (10 : Int32) * (10 : Int32)) - (1 : Int32))) e_places e_lesser), [], 0)) 9 rfl (And.intro g1 (And.intro g2 trivial)) ?_
      obtain ⟨a4, e_a4⟩ : ∃ z : Nat → Int32, z = upd e_order v3.toNatClampNeg ((v2 - v2 / (10 : Int32) * (10 : Int32)) - (1 : Int32)) := ⟨_, rfl⟩
      have h := h a4 e_a4
      rw [← e_a4]
      obtain ⟨g1, h⟩ := h
      refine EV.seg (c' := (30, [some (.ref 0), none, some (.int (v2 / (10 : Int32))), some (.int v3)], [], (w_e e_many e_spring e_leapable e_found e_whereOf e_rows e_from e_depth a4 e_places e_lesser), [], 0)) 4 rfl (And.intro g1 trivial) ?_
      obtain ⟨x5, e_x5⟩ : ∃ z : Int32, z = v2 / (10 : Int32) := ⟨_, rfl⟩
      have h := h x5 e_x5
      rw [← e_x5]
      refine EV.seg (c' := (9, [some (.ref 0), none, some (.int x5), some (.int (v3 + (-1)))], [], (w_e e_many e_spring e_leapable e_found e_whereOf e_rows e_from e_depth a4 e_places e_lesser), [], 0)) 2 rfl trivial ?_
      exact ih _ _ _ _ h
theorem em_X5_find {X : Nat × (Nat → Int32)} {N : Nat} {e_many : Int32} {e_spring : Int32} {e_leapable : Nat → Int32} {e_found : Int32} {e_whereOf : Nat → Int32} {e_rows : Nat → Int32} {e_from : Nat → Int32} {e_depth : Nat → Int32} {e_places : Nat → Int32} {p0 : Int32} {e_order : Nat → Int32} {e_lesser : Nat → Int32} {Q : Int32 → (Nat → Int32) → (Nat → Int32) → Prop} (h : wp_X5_find N e_many e_whereOf Q p0 e_order e_lesser) : EM (ax_GG X) m_X5_find [.ref 0, .int p0] (w_e e_many e_spring e_leapable e_found e_whereOf e_rows e_from e_depth e_order e_places e_lesser) (po_X5_find e_many e_spring e_leapable e_found e_whereOf e_rows e_from e_depth e_places Q) := by
  unfold wp_X5_find at h
  show EV _ _ _ (0, [some (.ref 0), some (.int p0), none, none], [], (w_e e_many e_spring e_leapable e_found e_whereOf e_rows e_from e_depth e_order e_places e_lesser), [], 0)
  refine EV.seg (c' := (9, [some (.ref 0), some (.int p0), some (.int p0), some (.int (e_many - (1 : Int32)))], [], (w_e e_many e_spring e_leapable e_found e_whereOf e_rows e_from e_depth e_order e_places e_lesser), [], 0)) 7 rfl trivial ?_
  obtain ⟨x1, e_x1⟩ : ∃ z : Int32, z = e_many - (1 : Int32) := ⟨_, rfl⟩
  have h := h x1 e_x1
  rw [← e_x1]
  refine EV.mask (ls' := [some (.ref 0), none, some (.int p0), some (.int x1)]) rfl rfl ?_
  exact (ok_X5_find_9  N) _ _ _ _ h
abbrev po_X5_leapOf (e_many : Int32) (e_spring : Int32) (e_leapable : Nat → Int32) (e_found : Int32) (e_whereOf : Nat → Int32) (e_rows : Nat → Int32) (e_from : Nat → Int32) (e_depth : Nat → Int32) (e_order : Nat → Int32) (e_places : Nat → Int32) (e_lesser : Nat → Int32) (Q : Int32 → Prop) : ax_E → Prop := fun out => ∃ (r : Int32), out = (some (.int r), (w_e e_many e_spring e_leapable e_found e_whereOf e_rows e_from e_depth e_order e_places e_lesser), [], 0) ∧ Q r
theorem ok_X5_leapOf_10 {X : Nat × (Nat → Int32)} {N : Nat} {e_many : Int32} {e_spring : Int32} {e_leapable : Nat → Int32} {e_found : Int32} {e_whereOf : Nat → Int32} {e_rows : Nat → Int32} {e_from : Nat → Int32} {e_depth : Nat → Int32} {e_order : Nat → Int32} {e_places : Nat → Int32} {e_lesser : Nat → Int32}  {Q : Int32 → Prop}  : ∀ (n : Nat) (v2 : Int32) (v3 : Int32) (v4 : Int32), wp_X5_leapOf_10 N e_from e_depth  Q n v2 v3 v4 → EV (ax_GG X) m_X5_leapOf (po_X5_leapOf e_many e_spring e_leapable e_found e_whereOf e_rows e_from e_depth e_order e_places e_lesser Q) (10, [some (.ref 0), none, some (.int v2), some (.int v3), some (.int v4)], [], (w_e e_many e_spring e_leapable e_found e_whereOf e_rows e_from e_depth e_order e_places e_lesser), [], 0) := by
  intro n
  induction n with
  | zero => intro _ _ _ h; exact h.elim
  | succ n ih =>
    intro v2 v3 v4 h
    unfold wp_X5_leapOf_10 at h
    refine EV.seg (c' := (15, [some (.ref 0), none, some (.int v2), some (.int v3), some (.int v4)], [.int (v2 + (1 : Int32)), .int v4], (w_e e_many e_spring e_leapable e_found e_whereOf e_rows e_from e_depth e_order e_places e_lesser), [], 0)) 4 rfl trivial ?_
    refine EV.br (c1 := (34, [some (.ref 0), none, some (.int v2), some (.int v3), some (.int v4)], [], (w_e e_many e_spring e_leapable e_found e_whereOf e_rows e_from e_depth e_order e_places e_lesser), [], 0)) (c2 := (18, [some (.ref 0), none, some (.int v2), some (.int v3), some (.int v4)], [], (w_e e_many e_spring e_leapable e_found e_whereOf e_rows e_from e_depth e_order e_places e_lesser), [], 0)) rfl (fun hc => ?_) (fun hc => ?_)
    · have h := h.1 hc
      obtain ⟨g1, h⟩ := h
      refine EV.seg (c' := (43, [some (.ref 0), none, some (.int v2), some (.int v3), some (.int v4)], [.int ((e_from v3.toNatClampNeg) &&& (63 : Int32))], (w_e e_many e_spring e_leapable e_found e_whereOf e_rows e_from e_depth e_order e_places e_lesser), [], 0)) 6 rfl (And.intro g1 trivial) ?_
      exact EV.ret rfl trivial ⟨_, rfl, h⟩
    · have h := h.2 hc
      obtain ⟨g1, h⟩ := h
      refine EV.seg (c' := (28, [some (.ref 0), none, some (.int v2), some (.int ((e_from v3.toNatClampNeg) >>> ((6 : Int32) &&& 31))), some (.int v4)], [], (w_e e_many e_spring e_leapable e_found e_whereOf e_rows e_from e_depth e_order e_places e_lesser), [], 0)) 7 rfl (And.intro g1 trivial) ?_
      obtain ⟨x2, e_x2⟩ : ∃ z : Int32, z = (e_from v3.toNatClampNeg) >>> ((6 : Int32) &&& 31) := ⟨_, rfl⟩
      have h := h x2 e_x2
      rw [← e_x2]
      refine EV.seg (c' := (10, [some (.ref 0), none, some (.int v2), some (.int x2), some (.int (v4 + (-1)))], [], (w_e e_many e_spring e_leapable e_found e_whereOf e_rows e_from e_depth e_order e_places e_lesser), [], 0)) 2 rfl trivial ?_
      exact ih _ _ _ h
theorem em_X5_leapOf {X : Nat × (Nat → Int32)} {N : Nat} {e_many : Int32} {e_spring : Int32} {e_leapable : Nat → Int32} {e_found : Int32} {e_whereOf : Nat → Int32} {e_rows : Nat → Int32} {e_from : Nat → Int32} {e_depth : Nat → Int32} {e_order : Nat → Int32} {e_places : Nat → Int32} {e_lesser : Nat → Int32} {p0 : Int32} {p1 : Int32} {Q : Int32 → Prop} (h : wp_X5_leapOf N e_from e_depth Q p0 p1) : EM (ax_GG X) m_X5_leapOf [.ref 0, .int p0, .int p1] (w_e e_many e_spring e_leapable e_found e_whereOf e_rows e_from e_depth e_order e_places e_lesser) (po_X5_leapOf e_many e_spring e_leapable e_found e_whereOf e_rows e_from e_depth e_order e_places e_lesser Q) := by
  unfold wp_X5_leapOf at h
  show EV _ _ _ (0, [some (.ref 0), some (.int p0), some (.int p1), none, none], [], (w_e e_many e_spring e_leapable e_found e_whereOf e_rows e_from e_depth e_order e_places e_lesser), [], 0)
  obtain ⟨g1, h⟩ := h
  refine EV.seg (c' := (10, [some (.ref 0), some (.int p0), some (.int p1), some (.int p0), some (.int (e_depth p0.toNatClampNeg))], [], (w_e e_many e_spring e_leapable e_found e_whereOf e_rows e_from e_depth e_order e_places e_lesser), [], 0)) 7 rfl (And.intro g1 trivial) ?_
  obtain ⟨x1, e_x1⟩ : ∃ z : Int32, z = e_depth p0.toNatClampNeg := ⟨_, rfl⟩
  have h := h x1 e_x1
  rw [← e_x1]
  refine EV.mask (ls' := [some (.ref 0), none, some (.int p1), some (.int p0), some (.int x1)]) rfl rfl ?_
  exact (ok_X5_leapOf_10  N) _ _ _ h
abbrev po_X5_within (e_many : Int32) (e_spring : Int32) (e_leapable : Nat → Int32) (e_found : Int32) (e_whereOf : Nat → Int32) (e_rows : Nat → Int32) (e_from : Nat → Int32) (e_depth : Nat → Int32) (e_order : Nat → Int32) (e_places : Nat → Int32) (e_lesser : Nat → Int32) (Q : Int32 → Prop) : ax_E → Prop := fun out => ∃ (r : Int32), out = (some (.int r), (w_e e_many e_spring e_leapable e_found e_whereOf e_rows e_from e_depth e_order e_places e_lesser), [], 0) ∧ Q r
theorem ok_X5_within_28 {X : Nat × (Nat → Int32)} {N : Nat} {e_many : Int32} {e_spring : Int32} {e_leapable : Nat → Int32} {e_found : Int32} {e_whereOf : Nat → Int32} {e_rows : Nat → Int32} {e_from : Nat → Int32} {e_depth : Nat → Int32} {e_order : Nat → Int32} {e_places : Nat → Int32} {e_lesser : Nat → Int32} {K4 : (Int32) → (Int32) → (Int32) → Prop} {Q : Int32 → Prop} (hK4 : ∀ (v1 : Int32) (v2 : Int32) (v3 : Int32), K4 v1 v2 v3 → EV (ax_GG X) m_X5_within (po_X5_within e_many e_spring e_leapable e_found e_whereOf e_rows e_from e_depth e_order e_places e_lesser Q) (4, [some (.ref 0), some (.int v1), some (.int v2), some (.int v3)], [], (w_e e_many e_spring e_leapable e_found e_whereOf e_rows e_from e_depth e_order e_places e_lesser), [], 0)) : ∀ (v1 : Int32) (v3 : Int32) (s0 : Int32) (s1 : Int32), wp_X5_within_28 N e_found e_depth K4 Q  v1 v3 s0 s1 → EV (ax_GG X) m_X5_within (po_X5_within e_many e_spring e_leapable e_found e_whereOf e_rows e_from e_depth e_order e_places e_lesser Q) (28, [some (.ref 0), some (.int v1), none, some (.int v3)], [.int s0, .int s1], (w_e e_many e_spring e_leapable e_found e_whereOf e_rows e_from e_depth e_order e_places e_lesser), [], 0) := by
  intro v1 v3 s0 s1 h
  unfold wp_X5_within_28 at h
  refine EV.seg (c' := (30, [some (.ref 0), some (.int v1), some (.int (s1 + s0)), some (.int v3)], [], (w_e e_many e_spring e_leapable e_found e_whereOf e_rows e_from e_depth e_order e_places e_lesser), [], 0)) 2 rfl trivial ?_
  obtain ⟨x1, e_x1⟩ : ∃ z : Int32, z = s1 + s0 := ⟨_, rfl⟩
  have h := h x1 e_x1
  rw [← e_x1]
  refine EV.seg (c' := (4, [some (.ref 0), some (.int v1), some (.int x1), some (.int (v3 + 1))], [], (w_e e_many e_spring e_leapable e_found e_whereOf e_rows e_from e_depth e_order e_places e_lesser), [], 0)) 2 rfl trivial ?_
  exact hK4 _ _ _ h
theorem ok_X5_within_4 {X : Nat × (Nat → Int32)} {N : Nat} {e_many : Int32} {e_spring : Int32} {e_leapable : Nat → Int32} {e_found : Int32} {e_whereOf : Nat → Int32} {e_rows : Nat → Int32} {e_from : Nat → Int32} {e_depth : Nat → Int32} {e_order : Nat → Int32} {e_places : Nat → Int32} {e_lesser : Nat → Int32}  {Q : Int32 → Prop}  : ∀ (n : Nat) (v1 : Int32) (v2 : Int32) (v3 : Int32), wp_X5_within_4 N e_found e_depth  Q n v1 v2 v3 → EV (ax_GG X) m_X5_within (po_X5_within e_many e_spring e_leapable e_found e_whereOf e_rows e_from e_depth e_order e_places e_lesser Q) (4, [some (.ref 0), some (.int v1), some (.int v2), some (.int v3)], [], (w_e e_many e_spring e_leapable e_found e_whereOf e_rows e_from e_depth e_order e_places e_lesser), [], 0) := by
  intro n
  induction n with
  | zero => intro _ _ _ h; exact h.elim
  | succ n ih =>
    intro v1 v2 v3 h
    unfold wp_X5_within_4 at h
    refine EV.seg (c' := (9, [some (.ref 0), some (.int v1), some (.int v2), some (.int v3)], [.int e_found, .int v3], (w_e e_many e_spring e_leapable e_found e_whereOf e_rows e_from e_depth e_order e_places e_lesser), [], 0)) 3 rfl trivial ?_
    refine EV.br (c1 := (36, [some (.ref 0), some (.int v1), some (.int v2), some (.int v3)], [], (w_e e_many e_spring e_leapable e_found e_whereOf e_rows e_from e_depth e_order e_places e_lesser), [], 0)) (c2 := (12, [some (.ref 0), some (.int v1), some (.int v2), some (.int v3)], [], (w_e e_many e_spring e_leapable e_found e_whereOf e_rows e_from e_depth e_order e_places e_lesser), [], 0)) rfl (fun hc => ?_) (fun hc => ?_)
    · have h := h.1 hc
      refine EV.seg (c' := (37, [some (.ref 0), some (.int v1), some (.int v2), some (.int v3)], [.int v2], (w_e e_many e_spring e_leapable e_found e_whereOf e_rows e_from e_depth e_order e_places e_lesser), [], 0)) 1 rfl trivial ?_
      exact EV.ret rfl trivial ⟨_, rfl, h⟩
    · have h := h.2 hc
      obtain ⟨g1, h⟩ := h
      refine EV.seg (c' := (20, [some (.ref 0), some (.int v1), some (.int v2), some (.int v3)], [.int v1, .int (e_depth v3.toNatClampNeg), .int v2], (w_e e_many e_spring e_leapable e_found e_whereOf e_rows e_from e_depth e_order e_places e_lesser), [], 0)) 6 rfl (And.intro g1 trivial) ?_
      refine EV.br (c1 := (27, [some (.ref 0), some (.int v1), some (.int v2), some (.int v3)], [.int v2], (w_e e_many e_spring e_leapable e_found e_whereOf e_rows e_from e_depth e_order e_places e_lesser), [], 0)) (c2 := (23, [some (.ref 0), some (.int v1), some (.int v2), some (.int v3)], [.int v2], (w_e e_many e_spring e_leapable e_found e_whereOf e_rows e_from e_depth e_order e_places e_lesser), [], 0)) rfl (fun hc => ?_) (fun hc => ?_)
      · have h := h.1 hc
        refine EV.seg (c' := (28, [some (.ref 0), some (.int v1), some (.int v2), some (.int v3)], [.int (0 : Int32), .int v2], (w_e e_many e_spring e_leapable e_found e_whereOf e_rows e_from e_depth e_order e_places e_lesser), [], 0)) 1 rfl trivial ?_
        refine EV.mask (ls' := [some (.ref 0), some (.int v1), none, some (.int v3)]) rfl rfl ?_
        exact (ok_X5_within_28 ih) _ _ _ _ h
      · have h := h.2 hc
        refine EV.seg (c' := (28, [some (.ref 0), some (.int v1), some (.int v2), some (.int v3)], [.int (1 : Int32), .int v2], (w_e e_many e_spring e_leapable e_found e_whereOf e_rows e_from e_depth e_order e_places e_lesser), [], 0)) 2 rfl trivial ?_
        refine EV.mask (ls' := [some (.ref 0), some (.int v1), none, some (.int v3)]) rfl rfl ?_
        exact (ok_X5_within_28 ih) _ _ _ _ h
theorem em_X5_within {X : Nat × (Nat → Int32)} {N : Nat} {e_many : Int32} {e_spring : Int32} {e_leapable : Nat → Int32} {e_found : Int32} {e_whereOf : Nat → Int32} {e_rows : Nat → Int32} {e_from : Nat → Int32} {e_depth : Nat → Int32} {e_order : Nat → Int32} {e_places : Nat → Int32} {e_lesser : Nat → Int32} {p0 : Int32} {Q : Int32 → Prop} (h : wp_X5_within N e_found e_depth Q p0) : EM (ax_GG X) m_X5_within [.ref 0, .int p0] (w_e e_many e_spring e_leapable e_found e_whereOf e_rows e_from e_depth e_order e_places e_lesser) (po_X5_within e_many e_spring e_leapable e_found e_whereOf e_rows e_from e_depth e_order e_places e_lesser Q) := by
  unfold wp_X5_within at h
  show EV _ _ _ (0, [some (.ref 0), some (.int p0), none, none], [], (w_e e_many e_spring e_leapable e_found e_whereOf e_rows e_from e_depth e_order e_places e_lesser), [], 0)
  refine EV.seg (c' := (4, [some (.ref 0), some (.int p0), some (.int (0 : Int32)), some (.int (0 : Int32))], [], (w_e e_many e_spring e_leapable e_found e_whereOf e_rows e_from e_depth e_order e_places e_lesser), [], 0)) 4 rfl trivial ?_
  exact (ok_X5_within_4  N) _ _ _ h
abbrev po_X5_most (e_many : Int32) (e_spring : Int32) (e_leapable : Nat → Int32) (e_found : Int32) (e_whereOf : Nat → Int32) (e_rows : Nat → Int32) (e_from : Nat → Int32) (e_depth : Nat → Int32) (e_order : Nat → Int32) (e_places : Nat → Int32) (e_lesser : Nat → Int32) (Q : Int32 → Prop) : ax_E → Prop := fun out => ∃ (r : Int32), out = (some (.int r), (w_e e_many e_spring e_leapable e_found e_whereOf e_rows e_from e_depth e_order e_places e_lesser), [], 0) ∧ Q r
theorem ok_X5_most_22 {X : Nat × (Nat → Int32)} {N : Nat} {e_many : Int32} {e_spring : Int32} {e_leapable : Nat → Int32} {e_found : Int32} {e_whereOf : Nat → Int32} {e_rows : Nat → Int32} {e_from : Nat → Int32} {e_depth : Nat → Int32} {e_order : Nat → Int32} {e_places : Nat → Int32} {e_lesser : Nat → Int32}  {Q : Int32 → Prop}  : ∀ (s0 : Int32), wp_X5_most_22 N e_found e_depth  Q  s0 → EV (ax_GG X) m_X5_most (po_X5_most e_many e_spring e_leapable e_found e_whereOf e_rows e_from e_depth e_order e_places e_lesser Q) (22, [none], [.int s0], (w_e e_many e_spring e_leapable e_found e_whereOf e_rows e_from e_depth e_order e_places e_lesser), [], 0) := by
  intro s0 h
  unfold wp_X5_most_22 at h
  exact EV.ret rfl trivial ⟨_, rfl, h⟩
theorem em_X5_most {X : Nat × (Nat → Int32)} {N : Nat} {e_many : Int32} {e_spring : Int32} {e_leapable : Nat → Int32} {e_found : Int32} {e_whereOf : Nat → Int32} {e_rows : Nat → Int32} {e_from : Nat → Int32} {e_depth : Nat → Int32} {e_order : Nat → Int32} {e_places : Nat → Int32} {e_lesser : Nat → Int32}  {Q : Int32 → Prop} (h : wp_X5_most N e_found e_depth Q ) : EM (ax_GG X) m_X5_most [.ref 0] (w_e e_many e_spring e_leapable e_found e_whereOf e_rows e_from e_depth e_order e_places e_lesser) (po_X5_most e_many e_spring e_leapable e_found e_whereOf e_rows e_from e_depth e_order e_places e_lesser Q) := by
  unfold wp_X5_most at h
  show EV _ _ _ (0, [some (.ref 0)], [], (w_e e_many e_spring e_leapable e_found e_whereOf e_rows e_from e_depth e_order e_places e_lesser), [], 0)
  refine EV.seg (c' := (4, [some (.ref 0)], [.int e_found], (w_e e_many e_spring e_leapable e_found e_whereOf e_rows e_from e_depth e_order e_places e_lesser), [], 0)) 2 rfl trivial ?_
  refine EV.br (c1 := (21, [some (.ref 0)], [], (w_e e_many e_spring e_leapable e_found e_whereOf e_rows e_from e_depth e_order e_places e_lesser), [], 0)) (c2 := (7, [some (.ref 0)], [], (w_e e_many e_spring e_leapable e_found e_whereOf e_rows e_from e_depth e_order e_places e_lesser), [], 0)) rfl (fun hc => ?_) (fun hc => ?_)
  · have h := h.1 hc
    refine EV.seg (c' := (22, [some (.ref 0)], [.int (0 : Int32)], (w_e e_many e_spring e_leapable e_found e_whereOf e_rows e_from e_depth e_order e_places e_lesser), [], 0)) 1 rfl trivial ?_
    refine EV.mask (ls' := [none]) rfl rfl ?_
    exact (ok_X5_most_22 ) _ h
  · have h := h.2 hc
    obtain ⟨g1, h⟩ := h
    refine EV.seg (c' := (22, [some (.ref 0)], [.int (e_depth (e_found - (1 : Int32)).toNatClampNeg)], (w_e e_many e_spring e_leapable e_found e_whereOf e_rows e_from e_depth e_order e_places e_lesser), [], 0)) 8 rfl (And.intro g1 trivial) ?_
    refine EV.mask (ls' := [none]) rfl rfl ?_
    exact (ok_X5_most_22 ) _ h
abbrev po_X5_numberOf (e_many : Int32) (e_spring : Int32) (e_leapable : Nat → Int32) (e_found : Int32) (e_whereOf : Nat → Int32) (e_rows : Nat → Int32) (e_from : Nat → Int32) (e_depth : Nat → Int32) (e_order : Nat → Int32) (e_places : Nat → Int32) (e_lesser : Nat → Int32) (Q : Int32 → Prop) : ax_E → Prop := fun out => ∃ (r : Int32), out = (some (.int r), (w_e e_many e_spring e_leapable e_found e_whereOf e_rows e_from e_depth e_order e_places e_lesser), [], 0) ∧ Q r
theorem ok_X5_numberOf_4 {X : Nat × (Nat → Int32)} {N : Nat} {e_many : Int32} {e_spring : Int32} {e_leapable : Nat → Int32} {e_found : Int32} {e_whereOf : Nat → Int32} {e_rows : Nat → Int32} {e_from : Nat → Int32} {e_depth : Nat → Int32} {e_order : Nat → Int32} {e_places : Nat → Int32} {e_lesser : Nat → Int32}  {Q : Int32 → Prop}  : ∀ (n : Nat) (v1 : Int32) (v2 : Int32) (v3 : Int32), wp_X5_numberOf_4 N e_many  Q n v1 v2 v3 → EV (ax_GG X) m_X5_numberOf (po_X5_numberOf e_many e_spring e_leapable e_found e_whereOf e_rows e_from e_depth e_order e_places e_lesser Q) (4, [some (.ref 0), some (.int v1), some (.int v2), some (.int v3)], [], (w_e e_many e_spring e_leapable e_found e_whereOf e_rows e_from e_depth e_order e_places e_lesser), [], 0) := by
  intro n
  induction n with
  | zero => intro _ _ _ h; exact h.elim
  | succ n ih =>
    intro v1 v2 v3 h
    unfold wp_X5_numberOf_4 at h
    refine EV.seg (c' := (9, [some (.ref 0), some (.int v1), some (.int v2), some (.int v3)], [.int e_many, .int v3], (w_e e_many e_spring e_leapable e_found e_whereOf e_rows e_from e_depth e_order e_places e_lesser), [], 0)) 3 rfl trivial ?_
    refine EV.br (c1 := (34, [some (.ref 0), some (.int v1), some (.int v2), some (.int v3)], [], (w_e e_many e_spring e_leapable e_found e_whereOf e_rows e_from e_depth e_order e_places e_lesser), [], 0)) (c2 := (12, [some (.ref 0), some (.int v1), some (.int v2), some (.int v3)], [], (w_e e_many e_spring e_leapable e_found e_whereOf e_rows e_from e_depth e_order e_places e_lesser), [], 0)) rfl (fun hc => ?_) (fun hc => ?_)
    · have h := h.1 hc
      refine EV.seg (c' := (35, [some (.ref 0), some (.int v1), some (.int v2), some (.int v3)], [.int v2], (w_e e_many e_spring e_leapable e_found e_whereOf e_rows e_from e_depth e_order e_places e_lesser), [], 0)) 1 rfl trivial ?_
      exact EV.ret rfl trivial ⟨_, rfl, h⟩
    · have h := h.2 hc
      refine EV.seg (c' := (28, [some (.ref 0), some (.int v1), some (.int ((((10 : Int32) * v2) + ((v1 >>> (((3 : Int32) * v3) &&& 31)) &&& (7 : Int32))) + (1 : Int32))), some (.int v3)], [], (w_e e_many e_spring e_leapable e_found e_whereOf e_rows e_from e_depth e_order e_places e_lesser), [], 0)) 14 rfl trivial ?_
      obtain ⟨x1, e_x1⟩ : ∃ z : Int32, z = (((10 : Int32) * v2) + ((v1 >>> (((3 : Int32) * v3) &&& 31)) &&& (7 : Int32))) + (1 : Int32) := ⟨_, rfl⟩
      have h := h x1 e_x1
      rw [← e_x1]
      refine EV.seg (c' := (4, [some (.ref 0), some (.int v1), some (.int x1), some (.int (v3 + 1))], [], (w_e e_many e_spring e_leapable e_found e_whereOf e_rows e_from e_depth e_order e_places e_lesser), [], 0)) 2 rfl trivial ?_
      exact ih _ _ _ h
theorem em_X5_numberOf {X : Nat × (Nat → Int32)} {N : Nat} {e_many : Int32} {e_spring : Int32} {e_leapable : Nat → Int32} {e_found : Int32} {e_whereOf : Nat → Int32} {e_rows : Nat → Int32} {e_from : Nat → Int32} {e_depth : Nat → Int32} {e_order : Nat → Int32} {e_places : Nat → Int32} {e_lesser : Nat → Int32} {p0 : Int32} {Q : Int32 → Prop} (h : wp_X5_numberOf N e_many Q p0) : EM (ax_GG X) m_X5_numberOf [.ref 0, .int p0] (w_e e_many e_spring e_leapable e_found e_whereOf e_rows e_from e_depth e_order e_places e_lesser) (po_X5_numberOf e_many e_spring e_leapable e_found e_whereOf e_rows e_from e_depth e_order e_places e_lesser Q) := by
  unfold wp_X5_numberOf at h
  show EV _ _ _ (0, [some (.ref 0), some (.int p0), none, none], [], (w_e e_many e_spring e_leapable e_found e_whereOf e_rows e_from e_depth e_order e_places e_lesser), [], 0)
  refine EV.seg (c' := (4, [some (.ref 0), some (.int p0), some (.int (0 : Int32)), some (.int (0 : Int32))], [], (w_e e_many e_spring e_leapable e_found e_whereOf e_rows e_from e_depth e_order e_places e_lesser), [], 0)) 4 rfl trivial ?_
  exact (ok_X5_numberOf_4  N) _ _ _ h
abbrev po_X5_farthestOrder (e_many : Int32) (e_spring : Int32) (e_leapable : Nat → Int32) (e_found : Int32) (e_whereOf : Nat → Int32) (e_rows : Nat → Int32) (e_from : Nat → Int32) (e_depth : Nat → Int32) (e_order : Nat → Int32) (e_places : Nat → Int32) (e_lesser : Nat → Int32) (Q : Int32 → Prop) : ax_E → Prop := fun out => ∃ (r : Int32), out = (some (.int r), (w_e e_many e_spring e_leapable e_found e_whereOf e_rows e_from e_depth e_order e_places e_lesser), [], 0) ∧ Q r
theorem ok_X5_farthestOrder_41 {X : Nat × (Nat → Int32)} {N : Nat} {e_many : Int32} {e_spring : Int32} {e_leapable : Nat → Int32} {e_found : Int32} {e_whereOf : Nat → Int32} {e_rows : Nat → Int32} {e_from : Nat → Int32} {e_depth : Nat → Int32} {e_order : Nat → Int32} {e_places : Nat → Int32} {e_lesser : Nat → Int32} {K5 : (Int32) → (Int32) → Prop} {Q : Int32 → Prop} (hK5 : ∀ (v1 : Int32) (v2 : Int32), K5 v1 v2 → EV (ax_GG X) m_X5_farthestOrder (po_X5_farthestOrder e_many e_spring e_leapable e_found e_whereOf e_rows e_from e_depth e_order e_places e_lesser Q) (5, [some (.ref 0), some (.int v1), some (.int v2)], [], (w_e e_many e_spring e_leapable e_found e_whereOf e_rows e_from e_depth e_order e_places e_lesser), [], 0)) : ∀ (v1 : Int32) (v2 : Int32), wp_X5_farthestOrder_41 N e_many e_found e_rows e_depth K5 Q  v1 v2 → EV (ax_GG X) m_X5_farthestOrder (po_X5_farthestOrder e_many e_spring e_leapable e_found e_whereOf e_rows e_from e_depth e_order e_places e_lesser Q) (41, [some (.ref 0), some (.int v1), some (.int v2)], [], (w_e e_many e_spring e_leapable e_found e_whereOf e_rows e_from e_depth e_order e_places e_lesser), [], 0) := by
  intro v1 v2 h
  unfold wp_X5_farthestOrder_41 at h
  refine EV.seg (c' := (5, [some (.ref 0), some (.int v1), some (.int (v2 + 1))], [], (w_e e_many e_spring e_leapable e_found e_whereOf e_rows e_from e_depth e_order e_places e_lesser), [], 0)) 2 rfl trivial ?_
  exact hK5 _ _ h
theorem ok_X5_farthestOrder_5 {X : Nat × (Nat → Int32)} {N : Nat} {e_many : Int32} {e_spring : Int32} {e_leapable : Nat → Int32} {e_found : Int32} {e_whereOf : Nat → Int32} {e_rows : Nat → Int32} {e_from : Nat → Int32} {e_depth : Nat → Int32} {e_order : Nat → Int32} {e_places : Nat → Int32} {e_lesser : Nat → Int32}  {Q : Int32 → Prop}  : ∀ (n : Nat) (v1 : Int32) (v2 : Int32), wp_X5_farthestOrder_5 N e_many e_found e_rows e_depth  Q n v1 v2 → EV (ax_GG X) m_X5_farthestOrder (po_X5_farthestOrder e_many e_spring e_leapable e_found e_whereOf e_rows e_from e_depth e_order e_places e_lesser Q) (5, [some (.ref 0), some (.int v1), some (.int v2)], [], (w_e e_many e_spring e_leapable e_found e_whereOf e_rows e_from e_depth e_order e_places e_lesser), [], 0) := by
  intro n
  induction n with
  | zero => intro _ _ h; exact h.elim
  | succ n ih =>
    intro v1 v2 h
    unfold wp_X5_farthestOrder_5 at h
    refine EV.seg (c' := (10, [some (.ref 0), some (.int v1), some (.int v2)], [.int e_found, .int v2], (w_e e_many e_spring e_leapable e_found e_whereOf e_rows e_from e_depth e_order e_places e_lesser), [], 0)) 3 rfl trivial ?_
    refine EV.br (c1 := (47, [some (.ref 0), some (.int v1), some (.int v2)], [], (w_e e_many e_spring e_leapable e_found e_whereOf e_rows e_from e_depth e_order e_places e_lesser), [], 0)) (c2 := (13, [some (.ref 0), some (.int v1), some (.int v2)], [], (w_e e_many e_spring e_leapable e_found e_whereOf e_rows e_from e_depth e_order e_places e_lesser), [], 0)) rfl (fun hc => ?_) (fun hc => ?_)
    · have h := h.1 hc
      refine EV.seg (c' := (48, [some (.ref 0), some (.int v1), some (.int v2)], [.int v1], (w_e e_many e_spring e_leapable e_found e_whereOf e_rows e_from e_depth e_order e_places e_lesser), [], 0)) 1 rfl trivial ?_
      exact EV.ret rfl trivial ⟨_, rfl, h⟩
    · have h := h.2 hc
      obtain ⟨g1, h⟩ := h
      refine EV.seg (c' := (20, [some (.ref 0), some (.int v1), some (.int v2)], [.ref 0, .int (e_depth v2.toNatClampNeg)], (w_e e_many e_spring e_leapable e_found e_whereOf e_rows e_from e_depth e_order e_places e_lesser), [], 0)) 5 rfl (And.intro g1 trivial) ?_
      refine EV.call (M' := m_X5_most) rfl rfl (Nat.le_of_ble_eq_true rfl) (em_X5_most (e_many := e_many) (e_spring := e_spring) (e_leapable := e_leapable) (e_found := e_found) (e_whereOf := e_whereOf) (e_rows := e_rows) (e_from := e_from) (e_depth := e_depth) (e_order := e_order) (e_places := e_places) (e_lesser := e_lesser)  h) (fun out ho => ?_)
      obtain ⟨r1, rfl, h⟩ := ho
      show EV _ _ _ (23, [some (.ref 0), some (.int v1), some (.int v2)], [.int r1, .int (e_depth v2.toNatClampNeg)], (w_e e_many e_spring e_leapable e_found e_whereOf e_rows e_from e_depth e_order e_places e_lesser), [], 0)
      refine EV.br (c1 := (26, [some (.ref 0), some (.int v1), some (.int v2)], [], (w_e e_many e_spring e_leapable e_found e_whereOf e_rows e_from e_depth e_order e_places e_lesser), [], 0)) (c2 := (41, [some (.ref 0), some (.int v1), some (.int v2)], [], (w_e e_many e_spring e_leapable e_found e_whereOf e_rows e_from e_depth e_order e_places e_lesser), [], 0)) rfl (fun hc => ?_) (fun hc => ?_)
      · have h := h.1 hc
        obtain ⟨g1, h⟩ := h
        refine EV.seg (c' := (34, [some (.ref 0), some (.int v1), some (.int v2)], [.int (e_rows v2.toNatClampNeg), .ref 0, .int v1], (w_e e_many e_spring e_leapable e_found e_whereOf e_rows e_from e_depth e_order e_places e_lesser), [], 0)) 6 rfl (And.intro g1 trivial) ?_
        refine EV.call (M' := m_X5_numberOf) rfl rfl (Nat.le_of_ble_eq_true rfl) (em_X5_numberOf (e_many := e_many) (e_spring := e_spring) (e_leapable := e_leapable) (e_found := e_found) (e_whereOf := e_whereOf) (e_rows := e_rows) (e_from := e_from) (e_depth := e_depth) (e_order := e_order) (e_places := e_places) (e_lesser := e_lesser)  h) (fun out ho => ?_)
        obtain ⟨r2, rfl, h⟩ := ho
        show EV _ _ _ (37, [some (.ref 0), some (.int v1), some (.int v2)], [.int r2, .int v1], (w_e e_many e_spring e_leapable e_found e_whereOf e_rows e_from e_depth e_order e_places e_lesser), [], 0)
        refine EV.call (M' := m_J9_min_7cf53) rfl rfl (Nat.le_of_ble_eq_true rfl) (em_J9_min_7cf53  h) (fun out ho => ?_)
        obtain ⟨r3, rfl, h⟩ := ho
        show EV _ _ _ (40, [some (.ref 0), some (.int v1), some (.int v2)], [.int r3], (w_e e_many e_spring e_leapable e_found e_whereOf e_rows e_from e_depth e_order e_places e_lesser), [], 0)
        refine EV.seg (c' := (41, [some (.ref 0), some (.int r3), some (.int v2)], [], (w_e e_many e_spring e_leapable e_found e_whereOf e_rows e_from e_depth e_order e_places e_lesser), [], 0)) 1 rfl trivial ?_
        exact (ok_X5_farthestOrder_41 ih) _ _ h
      · have h := h.2 hc
        exact (ok_X5_farthestOrder_41 ih) _ _ h
theorem em_X5_farthestOrder {X : Nat × (Nat → Int32)} {N : Nat} {e_many : Int32} {e_spring : Int32} {e_leapable : Nat → Int32} {e_found : Int32} {e_whereOf : Nat → Int32} {e_rows : Nat → Int32} {e_from : Nat → Int32} {e_depth : Nat → Int32} {e_order : Nat → Int32} {e_places : Nat → Int32} {e_lesser : Nat → Int32}  {Q : Int32 → Prop} (h : wp_X5_farthestOrder N e_many e_found e_rows e_depth Q ) : EM (ax_GG X) m_X5_farthestOrder [.ref 0] (w_e e_many e_spring e_leapable e_found e_whereOf e_rows e_from e_depth e_order e_places e_lesser) (po_X5_farthestOrder e_many e_spring e_leapable e_found e_whereOf e_rows e_from e_depth e_order e_places e_lesser Q) := by
  unfold wp_X5_farthestOrder at h
  show EV _ _ _ (0, [some (.ref 0), none, none], [], (w_e e_many e_spring e_leapable e_found e_whereOf e_rows e_from e_depth e_order e_places e_lesser), [], 0)
  refine EV.seg (c' := (5, [some (.ref 0), some (.int (7654321 : Int32)), some (.int (0 : Int32))], [], (w_e e_many e_spring e_leapable e_found e_whereOf e_rows e_from e_depth e_order e_places e_lesser), [], 0)) 4 rfl trivial ?_
  exact (ok_X5_farthestOrder_5  N) _ _ h
abbrev po_X5_soonestFirst (e_many : Int32) (e_spring : Int32) (e_leapable : Nat → Int32) (e_found : Int32) (e_whereOf : Nat → Int32) (e_rows : Nat → Int32) (e_from : Nat → Int32) (e_depth : Nat → Int32) (e_order : Nat → Int32) (e_places : Nat → Int32) (e_lesser : Nat → Int32) (Q : Int32 → Prop) : ax_E → Prop := fun out => ∃ (r : Int32), out = (some (.int r), (w_e e_many e_spring e_leapable e_found e_whereOf e_rows e_from e_depth e_order e_places e_lesser), [], 0) ∧ Q r
theorem ok_X5_soonestFirst_2 {X : Nat × (Nat → Int32)} {N : Nat} {e_many : Int32} {e_spring : Int32} {e_leapable : Nat → Int32} {e_found : Int32} {e_whereOf : Nat → Int32} {e_rows : Nat → Int32} {e_from : Nat → Int32} {e_depth : Nat → Int32} {e_order : Nat → Int32} {e_places : Nat → Int32} {e_lesser : Nat → Int32}  {Q : Int32 → Prop}  : ∀ (n : Nat) (v1 : Int32) (v2 : Int32), wp_X5_soonestFirst_2 N e_found e_rows e_depth  Q n v1 v2 → EV (ax_GG X) m_X5_soonestFirst (po_X5_soonestFirst e_many e_spring e_leapable e_found e_whereOf e_rows e_from e_depth e_order e_places e_lesser Q) (2, [some (.ref 0), some (.int v1), some (.int v2)], [], (w_e e_many e_spring e_leapable e_found e_whereOf e_rows e_from e_depth e_order e_places e_lesser), [], 0) := by
  intro n
  induction n with
  | zero => intro _ _ h; exact h.elim
  | succ n ih =>
    intro v1 v2 h
    unfold wp_X5_soonestFirst_2 at h
    refine EV.seg (c' := (7, [some (.ref 0), some (.int v1), some (.int v2)], [.int e_found, .int v2], (w_e e_many e_spring e_leapable e_found e_whereOf e_rows e_from e_depth e_order e_places e_lesser), [], 0)) 3 rfl trivial ?_
    refine EV.br (c1 := (36, [some (.ref 0), some (.int v1), some (.int v2)], [], (w_e e_many e_spring e_leapable e_found e_whereOf e_rows e_from e_depth e_order e_places e_lesser), [], 0)) (c2 := (10, [some (.ref 0), some (.int v1), some (.int v2)], [], (w_e e_many e_spring e_leapable e_found e_whereOf e_rows e_from e_depth e_order e_places e_lesser), [], 0)) rfl (fun hc => ?_) (fun hc => ?_)
    · have h := h.1 hc
      refine EV.seg (c' := (38, [some (.ref 0), some (.int v1), some (.int v2)], [.int (-2 : Int32)], (w_e e_many e_spring e_leapable e_found e_whereOf e_rows e_from e_depth e_order e_places e_lesser), [], 0)) 1 rfl trivial ?_
      exact EV.ret rfl trivial ⟨_, rfl, h⟩
    · have h := h.2 hc
      obtain ⟨g1, h⟩ := h
      refine EV.seg (c' := (20, [some (.ref 0), some (.int v1), some (.int v2)], [.int v1, .int ((e_rows v2.toNatClampNeg) &&& (7 : Int32))], (w_e e_many e_spring e_leapable e_found e_whereOf e_rows e_from e_depth e_order e_places e_lesser), [], 0)) 7 rfl (And.intro g1 trivial) ?_
      refine EV.br (c1 := (23, [some (.ref 0), some (.int v1), some (.int v2)], [], (w_e e_many e_spring e_leapable e_found e_whereOf e_rows e_from e_depth e_order e_places e_lesser), [], 0)) (c2 := (30, [some (.ref 0), some (.int v1), some (.int v2)], [], (w_e e_many e_spring e_leapable e_found e_whereOf e_rows e_from e_depth e_order e_places e_lesser), [], 0)) rfl (fun hc => ?_) (fun hc => ?_)
      · have h := h.1 hc
        obtain ⟨g1, h⟩ := h
        refine EV.seg (c' := (29, [some (.ref 0), some (.int v1), some (.int v2)], [.int (e_depth v2.toNatClampNeg)], (w_e e_many e_spring e_leapable e_found e_whereOf e_rows e_from e_depth e_order e_places e_lesser), [], 0)) 4 rfl (And.intro g1 trivial) ?_
        exact EV.ret rfl trivial ⟨_, rfl, h⟩
      · have h := h.2 hc
        refine EV.seg (c' := (2, [some (.ref 0), some (.int v1), some (.int (v2 + 1))], [], (w_e e_many e_spring e_leapable e_found e_whereOf e_rows e_from e_depth e_order e_places e_lesser), [], 0)) 2 rfl trivial ?_
        exact ih _ _ h
theorem em_X5_soonestFirst {X : Nat × (Nat → Int32)} {N : Nat} {e_many : Int32} {e_spring : Int32} {e_leapable : Nat → Int32} {e_found : Int32} {e_whereOf : Nat → Int32} {e_rows : Nat → Int32} {e_from : Nat → Int32} {e_depth : Nat → Int32} {e_order : Nat → Int32} {e_places : Nat → Int32} {e_lesser : Nat → Int32} {p0 : Int32} {Q : Int32 → Prop} (h : wp_X5_soonestFirst N e_found e_rows e_depth Q p0) : EM (ax_GG X) m_X5_soonestFirst [.ref 0, .int p0] (w_e e_many e_spring e_leapable e_found e_whereOf e_rows e_from e_depth e_order e_places e_lesser) (po_X5_soonestFirst e_many e_spring e_leapable e_found e_whereOf e_rows e_from e_depth e_order e_places e_lesser Q) := by
  unfold wp_X5_soonestFirst at h
  show EV _ _ _ (0, [some (.ref 0), some (.int p0), none], [], (w_e e_many e_spring e_leapable e_found e_whereOf e_rows e_from e_depth e_order e_places e_lesser), [], 0)
  refine EV.seg (c' := (2, [some (.ref 0), some (.int p0), some (.int (0 : Int32))], [], (w_e e_many e_spring e_leapable e_found e_whereOf e_rows e_from e_depth e_order e_places e_lesser), [], 0)) 2 rfl trivial ?_
  exact (ok_X5_soonestFirst_2  N) _ _ h
abbrev po_X5_aheadIn (e_many : Int32) (e_spring : Int32) (e_leapable : Nat → Int32) (e_found : Int32) (e_whereOf : Nat → Int32) (e_rows : Nat → Int32) (e_from : Nat → Int32) (e_depth : Nat → Int32) (e_order : Nat → Int32) (e_places : Nat → Int32) (e_lesser : Nat → Int32) (Q : Int32 → Prop) : ax_E → Prop := fun out => ∃ (r : Int32), out = (some (.int r), (w_e e_many e_spring e_leapable e_found e_whereOf e_rows e_from e_depth e_order e_places e_lesser), [], 0) ∧ Q r
theorem ok_X5_aheadIn_5 {X : Nat × (Nat → Int32)} {N : Nat} {e_many : Int32} {e_spring : Int32} {e_leapable : Nat → Int32} {e_found : Int32} {e_whereOf : Nat → Int32} {e_rows : Nat → Int32} {e_from : Nat → Int32} {e_depth : Nat → Int32} {e_order : Nat → Int32} {e_places : Nat → Int32} {e_lesser : Nat → Int32}  {Q : Int32 → Prop}  : ∀ (n : Nat) (v1 : Int32) (v2 : Int32) (v3 : Int32) (v4 : Int32), wp_X5_aheadIn_5 N e_many  Q n v1 v2 v3 v4 → EV (ax_GG X) m_X5_aheadIn (po_X5_aheadIn e_many e_spring e_leapable e_found e_whereOf e_rows e_from e_depth e_order e_places e_lesser Q) (5, [some (.ref 0), some (.int v1), some (.int v2), some (.int v3), some (.int v4), none], [], (w_e e_many e_spring e_leapable e_found e_whereOf e_rows e_from e_depth e_order e_places e_lesser), [], 0) := by
  intro n
  induction n with
  | zero => intro _ _ _ _ h; exact h.elim
  | succ n ih =>
    intro v1 v2 v3 v4 h
    unfold wp_X5_aheadIn_5 at h
    refine EV.seg (c' := (11, [some (.ref 0), some (.int v1), some (.int v2), some (.int v3), some (.int v4), none], [.int e_many, .int v4], (w_e e_many e_spring e_leapable e_found e_whereOf e_rows e_from e_depth e_order e_places e_lesser), [], 0)) 3 rfl trivial ?_
    refine EV.br (c1 := (46, [some (.ref 0), some (.int v1), some (.int v2), some (.int v3), some (.int v4), none], [], (w_e e_many e_spring e_leapable e_found e_whereOf e_rows e_from e_depth e_order e_places e_lesser), [], 0)) (c2 := (14, [some (.ref 0), some (.int v1), some (.int v2), some (.int v3), some (.int v4), none], [], (w_e e_many e_spring e_leapable e_found e_whereOf e_rows e_from e_depth e_order e_places e_lesser), [], 0)) rfl (fun hc => ?_) (fun hc => ?_)
    · have h := h.1 hc
      refine EV.seg (c' := (47, [some (.ref 0), some (.int v1), some (.int v2), some (.int v3), some (.int v4), none], [.int v3], (w_e e_many e_spring e_leapable e_found e_whereOf e_rows e_from e_depth e_order e_places e_lesser), [], 0)) 1 rfl trivial ?_
      exact EV.ret rfl trivial ⟨_, rfl, h⟩
    · have h := h.2 hc
      refine EV.seg (c' := (25, [some (.ref 0), some (.int v1), some (.int v2), some (.int v3), some (.int v4), some (.int ((v1 >>> (((3 : Int32) * v4) &&& 31)) &&& (7 : Int32)))], [], (w_e e_many e_spring e_leapable e_found e_whereOf e_rows e_from e_depth e_order e_places e_lesser), [], 0)) 8 rfl trivial ?_
      obtain ⟨x1, e_x1⟩ : ∃ z : Int32, z = (v1 >>> (((3 : Int32) * v4) &&& 31)) &&& (7 : Int32) := ⟨_, rfl⟩
      have h := h x1 e_x1
      rw [← e_x1]
      refine EV.seg (c' := (28, [some (.ref 0), some (.int v1), some (.int v2), some (.int v3), some (.int v4), some (.int x1)], [.int v2, .int x1], (w_e e_many e_spring e_leapable e_found e_whereOf e_rows e_from e_depth e_order e_places e_lesser), [], 0)) 2 rfl trivial ?_
      refine EV.br (c1 := (31, [some (.ref 0), some (.int v1), some (.int v2), some (.int v3), some (.int v4), some (.int x1)], [], (w_e e_many e_spring e_leapable e_found e_whereOf e_rows e_from e_depth e_order e_places e_lesser), [], 0)) (c2 := (33, [some (.ref 0), some (.int v1), some (.int v2), some (.int v3), some (.int v4), some (.int x1)], [], (w_e e_many e_spring e_leapable e_found e_whereOf e_rows e_from e_depth e_order e_places e_lesser), [], 0)) rfl (fun hc => ?_) (fun hc => ?_)
      · have h := h.1 hc
        refine EV.seg (c' := (32, [some (.ref 0), some (.int v1), some (.int v2), some (.int v3), some (.int v4), some (.int x1)], [.int v3], (w_e e_many e_spring e_leapable e_found e_whereOf e_rows e_from e_depth e_order e_places e_lesser), [], 0)) 1 rfl trivial ?_
        exact EV.ret rfl trivial ⟨_, rfl, h⟩
      · have h := h.2 hc
        refine EV.seg (c' := (40, [some (.ref 0), some (.int v1), some (.int v2), some (.int (v3 ||| ((1 : Int32) <<< (x1 &&& 31)))), some (.int v4), some (.int x1)], [], (w_e e_many e_spring e_leapable e_found e_whereOf e_rows e_from e_depth e_order e_places e_lesser), [], 0)) 6 rfl trivial ?_
        obtain ⟨x2, e_x2⟩ : ∃ z : Int32, z = v3 ||| ((1 : Int32) <<< (x1 &&& 31)) := ⟨_, rfl⟩
        have h := h x2 e_x2
        rw [← e_x2]
        refine EV.seg (c' := (5, [some (.ref 0), some (.int v1), some (.int v2), some (.int x2), some (.int (v4 + 1)), some (.int x1)], [], (w_e e_many e_spring e_leapable e_found e_whereOf e_rows e_from e_depth e_order e_places e_lesser), [], 0)) 2 rfl trivial ?_
        refine EV.mask (ls' := [some (.ref 0), some (.int v1), some (.int v2), some (.int x2), some (.int (v4 + 1)), none]) rfl rfl ?_
        exact ih _ _ _ _ h
theorem em_X5_aheadIn {X : Nat × (Nat → Int32)} {N : Nat} {e_many : Int32} {e_spring : Int32} {e_leapable : Nat → Int32} {e_found : Int32} {e_whereOf : Nat → Int32} {e_rows : Nat → Int32} {e_from : Nat → Int32} {e_depth : Nat → Int32} {e_order : Nat → Int32} {e_places : Nat → Int32} {e_lesser : Nat → Int32} {p0 : Int32} {p1 : Int32} {Q : Int32 → Prop} (h : wp_X5_aheadIn N e_many Q p0 p1) : EM (ax_GG X) m_X5_aheadIn [.ref 0, .int p0, .int p1] (w_e e_many e_spring e_leapable e_found e_whereOf e_rows e_from e_depth e_order e_places e_lesser) (po_X5_aheadIn e_many e_spring e_leapable e_found e_whereOf e_rows e_from e_depth e_order e_places e_lesser Q) := by
  unfold wp_X5_aheadIn at h
  show EV _ _ _ (0, [some (.ref 0), some (.int p0), some (.int p1), none, none, none], [], (w_e e_many e_spring e_leapable e_found e_whereOf e_rows e_from e_depth e_order e_places e_lesser), [], 0)
  refine EV.seg (c' := (5, [some (.ref 0), some (.int p0), some (.int p1), some (.int (0 : Int32)), some (.int (0 : Int32)), none], [], (w_e e_many e_spring e_leapable e_found e_whereOf e_rows e_from e_depth e_order e_places e_lesser), [], 0)) 4 rfl trivial ?_
  exact (ok_X5_aheadIn_5  N) _ _ _ _ h
abbrev po_X5_alwaysAhead (e_many : Int32) (e_spring : Int32) (e_leapable : Nat → Int32) (e_found : Int32) (e_whereOf : Nat → Int32) (e_rows : Nat → Int32) (e_from : Nat → Int32) (e_depth : Nat → Int32) (e_order : Nat → Int32) (e_places : Nat → Int32) (e_lesser : Nat → Int32) (Q : Int32 → Prop) : ax_E → Prop := fun out => ∃ (r : Int32), out = (some (.int r), (w_e e_many e_spring e_leapable e_found e_whereOf e_rows e_from e_depth e_order e_places e_lesser), [], 0) ∧ Q r
theorem ok_X5_alwaysAhead_11 {X : Nat × (Nat → Int32)} {N : Nat} {e_many : Int32} {e_spring : Int32} {e_leapable : Nat → Int32} {e_found : Int32} {e_whereOf : Nat → Int32} {e_rows : Nat → Int32} {e_from : Nat → Int32} {e_depth : Nat → Int32} {e_order : Nat → Int32} {e_places : Nat → Int32} {e_lesser : Nat → Int32}  {Q : Int32 → Prop}  : ∀ (n : Nat) (v1 : Int32) (v2 : Int32) (v3 : Int32), wp_X5_alwaysAhead_11 N e_many e_found e_rows  Q n v1 v2 v3 → EV (ax_GG X) m_X5_alwaysAhead (po_X5_alwaysAhead e_many e_spring e_leapable e_found e_whereOf e_rows e_from e_depth e_order e_places e_lesser Q) (11, [some (.ref 0), some (.int v1), some (.int v2), some (.int v3)], [], (w_e e_many e_spring e_leapable e_found e_whereOf e_rows e_from e_depth e_order e_places e_lesser), [], 0) := by
  intro n
  induction n with
  | zero => intro _ _ _ h; exact h.elim
  | succ n ih =>
    intro v1 v2 v3 h
    unfold wp_X5_alwaysAhead_11 at h
    refine EV.seg (c' := (16, [some (.ref 0), some (.int v1), some (.int v2), some (.int v3)], [.int e_found, .int v3], (w_e e_many e_spring e_leapable e_found e_whereOf e_rows e_from e_depth e_order e_places e_lesser), [], 0)) 3 rfl trivial ?_
    refine EV.br (c1 := (39, [some (.ref 0), some (.int v1), some (.int v2), some (.int v3)], [], (w_e e_many e_spring e_leapable e_found e_whereOf e_rows e_from e_depth e_order e_places e_lesser), [], 0)) (c2 := (19, [some (.ref 0), some (.int v1), some (.int v2), some (.int v3)], [], (w_e e_many e_spring e_leapable e_found e_whereOf e_rows e_from e_depth e_order e_places e_lesser), [], 0)) rfl (fun hc => ?_) (fun hc => ?_)
    · have h := h.1 hc
      refine EV.seg (c' := (40, [some (.ref 0), some (.int v1), some (.int v2), some (.int v3)], [.int v2], (w_e e_many e_spring e_leapable e_found e_whereOf e_rows e_from e_depth e_order e_places e_lesser), [], 0)) 1 rfl trivial ?_
      exact EV.ret rfl trivial ⟨_, rfl, h⟩
    · have h := h.2 hc
      obtain ⟨g1, h⟩ := h
      refine EV.seg (c' := (28, [some (.ref 0), some (.int v1), some (.int v2), some (.int v3)], [.int v1, .int (e_rows v3.toNatClampNeg), .ref 0, .int v2], (w_e e_many e_spring e_leapable e_found e_whereOf e_rows e_from e_depth e_order e_places e_lesser), [], 0)) 7 rfl (And.intro g1 trivial) ?_
      refine EV.call (M' := m_X5_aheadIn) rfl rfl (Nat.le_of_ble_eq_true rfl) (em_X5_aheadIn (e_many := e_many) (e_spring := e_spring) (e_leapable := e_leapable) (e_found := e_found) (e_whereOf := e_whereOf) (e_rows := e_rows) (e_from := e_from) (e_depth := e_depth) (e_order := e_order) (e_places := e_places) (e_lesser := e_lesser)  h) (fun out ho => ?_)
      obtain ⟨r2, rfl, h⟩ := ho
      show EV _ _ _ (31, [some (.ref 0), some (.int v1), some (.int v2), some (.int v3)], [.int r2, .int v2], (w_e e_many e_spring e_leapable e_found e_whereOf e_rows e_from e_depth e_order e_places e_lesser), [], 0)
      refine EV.seg (c' := (33, [some (.ref 0), some (.int v1), some (.int (v2 &&& r2)), some (.int v3)], [], (w_e e_many e_spring e_leapable e_found e_whereOf e_rows e_from e_depth e_order e_places e_lesser), [], 0)) 2 rfl trivial ?_
      obtain ⟨x3, e_x3⟩ : ∃ z : Int32, z = v2 &&& r2 := ⟨_, rfl⟩
      have h := h x3 e_x3
      rw [← e_x3]
      refine EV.seg (c' := (11, [some (.ref 0), some (.int v1), some (.int x3), some (.int (v3 + 1))], [], (w_e e_many e_spring e_leapable e_found e_whereOf e_rows e_from e_depth e_order e_places e_lesser), [], 0)) 2 rfl trivial ?_
      exact ih _ _ _ h
theorem em_X5_alwaysAhead {X : Nat × (Nat → Int32)} {N : Nat} {e_many : Int32} {e_spring : Int32} {e_leapable : Nat → Int32} {e_found : Int32} {e_whereOf : Nat → Int32} {e_rows : Nat → Int32} {e_from : Nat → Int32} {e_depth : Nat → Int32} {e_order : Nat → Int32} {e_places : Nat → Int32} {e_lesser : Nat → Int32} {p0 : Int32} {Q : Int32 → Prop} (h : wp_X5_alwaysAhead N e_many e_found e_rows Q p0) : EM (ax_GG X) m_X5_alwaysAhead [.ref 0, .int p0] (w_e e_many e_spring e_leapable e_found e_whereOf e_rows e_from e_depth e_order e_places e_lesser) (po_X5_alwaysAhead e_many e_spring e_leapable e_found e_whereOf e_rows e_from e_depth e_order e_places e_lesser Q) := by
  unfold wp_X5_alwaysAhead at h
  show EV _ _ _ (0, [some (.ref 0), some (.int p0), none, none], [], (w_e e_many e_spring e_leapable e_found e_whereOf e_rows e_from e_depth e_order e_places e_lesser), [], 0)
  refine EV.seg (c' := (9, [some (.ref 0), some (.int p0), some (.int (((1 : Int32) <<< (e_many &&& 31)) - (1 : Int32))), none], [], (w_e e_many e_spring e_leapable e_found e_whereOf e_rows e_from e_depth e_order e_places e_lesser), [], 0)) 7 rfl trivial ?_
  obtain ⟨x1, e_x1⟩ : ∃ z : Int32, z = ((1 : Int32) <<< (e_many &&& 31)) - (1 : Int32) := ⟨_, rfl⟩
  have h := h x1 e_x1
  rw [← e_x1]
  refine EV.seg (c' := (11, [some (.ref 0), some (.int p0), some (.int x1), some (.int (0 : Int32))], [], (w_e e_many e_spring e_leapable e_found e_whereOf e_rows e_from e_depth e_order e_places e_lesser), [], 0)) 2 rfl trivial ?_
  exact (ok_X5_alwaysAhead_11  N) _ _ _ h
abbrev po_X6_valueOf (y0_a : Nat → Int64) (Q : Int64 → Prop) : ax_E → Prop := fun out => ∃ (r : Int64), out = (some (.long r), (w_y110 y0_a), [], 0) ∧ Q r
theorem ok_X6_valueOf_31 {X : Nat × (Nat → Int32)} {N : Nat} {y0_a : Nat → Int64}  {Q : Int64 → Prop}  : ∀ (s0 : Int64), wp_X6_valueOf_31 N y0_a  Q  s0 → EV (ax_GG X) m_X6_valueOf (po_X6_valueOf y0_a Q) (31, [none, none, none], [.long s0], (w_y110 y0_a), [], 0) := by
  intro s0 h
  unfold wp_X6_valueOf_31 at h
  exact EV.ret rfl trivial ⟨_, rfl, h⟩
theorem ok_X6_valueOf_30 {X : Nat × (Nat → Int32)} {N : Nat} {y0_a : Nat → Int64} {K31 : (Int64) → Prop} {Q : Int64 → Prop} (hK31 : ∀ (s0 : Int64), K31 s0 → EV (ax_GG X) m_X6_valueOf (po_X6_valueOf y0_a Q) (31, [none, none, none], [.long s0], (w_y110 y0_a), [], 0)) : wp_X6_valueOf_30 N y0_a K31 Q   → EV (ax_GG X) m_X6_valueOf (po_X6_valueOf y0_a Q) (30, [none, none, none], [], (w_y110 y0_a), [], 0) := by
  intro  h
  unfold wp_X6_valueOf_30 at h
  refine EV.seg (c' := (31, [none, none, none], [.long (0 : Int64)], (w_y110 y0_a), [], 0)) 1 rfl trivial ?_
  exact hK31 _ h
theorem em_X6_valueOf {X : Nat × (Nat → Int32)} {N : Nat} {y0_a : Nat → Int64} {p0 : Int32} {Q : Int64 → Prop} (h : wp_X6_valueOf N y0_a Q p0) : EM (ax_GG X) m_X6_valueOf [.int p0, .ref 0] (w_y110 y0_a) (po_X6_valueOf y0_a Q) := by
  unfold wp_X6_valueOf at h
  show EV _ _ _ (0, [some (.int p0), some (.ref 0), none], [], (w_y110 y0_a), [], 0)
  refine EV.seg (c' := (4, [some (.int p0), some (.ref 0), some (.int (p0 >>> ((5 : Int32) &&& 31)))], [], (w_y110 y0_a), [], 0)) 4 rfl trivial ?_
  obtain ⟨x1, e_x1⟩ : ∃ z : Int32, z = p0 >>> ((5 : Int32) &&& 31) := ⟨_, rfl⟩
  have h := h x1 e_x1
  rw [← e_x1]
  refine EV.seg (c' := (8, [some (.int p0), some (.ref 0), some (.int x1)], [.int (p0 &&& (31 : Int32))], (w_y110 y0_a), [], 0)) 3 rfl trivial ?_
  refine EV.br (c1 := (11, [some (.int p0), some (.ref 0), some (.int x1)], [], (w_y110 y0_a), [], 0)) (c2 := (14, [some (.int p0), some (.ref 0), some (.int x1)], [], (w_y110 y0_a), [], 0)) rfl (fun hc => ?_) (fun hc => ?_)
  · have h := h.1 hc
    refine EV.seg (c' := (13, [some (.int p0), some (.ref 0), some (.int x1)], [.long x1.toInt64], (w_y110 y0_a), [], 0)) 2 rfl trivial ?_
    exact EV.ret rfl trivial ⟨_, rfl, h⟩
  · have h := h.2 hc
    refine EV.seg (c' := (15, [some (.int p0), some (.ref 0), some (.int x1)], [.int x1], (w_y110 y0_a), [], 0)) 1 rfl trivial ?_
    refine EV.br (c1 := (30, [some (.int p0), some (.ref 0), some (.int x1)], [], (w_y110 y0_a), [], 0)) (c2 := (18, [some (.int p0), some (.ref 0), some (.int x1)], [], (w_y110 y0_a), [], 0)) rfl (fun hc => ?_) (fun hc => ?_)
    · have h := h.1 hc
      refine EV.mask (ls' := [none, none, none]) rfl rfl ?_
      exact (ok_X6_valueOf_30 (ok_X6_valueOf_31 ))  h
    · have h := h.2 hc
      refine EV.seg (c' := (21, [some (.int p0), some (.ref 0), some (.int x1)], [.int (Int32.ofNat 10), .int x1], (w_y110 y0_a), [], 0)) 3 rfl trivial ?_
      refine EV.br (c1 := (30, [some (.int p0), some (.ref 0), some (.int x1)], [], (w_y110 y0_a), [], 0)) (c2 := (24, [some (.int p0), some (.ref 0), some (.int x1)], [], (w_y110 y0_a), [], 0)) rfl (fun hc => ?_) (fun hc => ?_)
      · have h := h.1 hc
        refine EV.mask (ls' := [none, none, none]) rfl rfl ?_
        exact (ok_X6_valueOf_30 (ok_X6_valueOf_31 ))  h
      · have h := h.2 hc
        obtain ⟨g1, h⟩ := h
        refine EV.seg (c' := (31, [some (.int p0), some (.ref 0), some (.int x1)], [.long (y0_a x1.toNatClampNeg)], (w_y110 y0_a), [], 0)) 4 rfl (And.intro g1 trivial) ?_
        refine EV.mask (ls' := [none, none, none]) rfl rfl ?_
        exact (ok_X6_valueOf_31 ) _ h
abbrev po_X6_worked (w0 : ax_W) (Q : Int64 → Prop) : ax_E → Prop := fun out => ∃ (r : Int64), out = (some (.long r), w0, [], 0) ∧ Q r
theorem ok_X6_worked_175 {X : Nat × (Nat → Int32)} {N : Nat} {w0 : ax_W}  {Q : Int64 → Prop}  : ∀ (s0 : Int64), wp_X6_worked_175 N   Q  s0 → EV (ax_GG X) m_X6_worked (po_X6_worked w0 Q) (175, [none, none, none, none, none], [.long s0], w0, [], 0) := by
  intro s0 h
  unfold wp_X6_worked_175 at h
  exact EV.ret rfl trivial ⟨_, rfl, h⟩
theorem ok_X6_worked_163 {X : Nat × (Nat → Int32)} {N : Nat} {w0 : ax_W}  {Q : Int64 → Prop}  : ∀ (s0 : Int64), wp_X6_worked_163 N   Q  s0 → EV (ax_GG X) m_X6_worked (po_X6_worked w0 Q) (163, [none, none, none, none, none], [.long s0], w0, [], 0) := by
  intro s0 h
  unfold wp_X6_worked_163 at h
  exact EV.ret rfl trivial ⟨_, rfl, h⟩
theorem ok_X6_worked_151 {X : Nat × (Nat → Int32)} {N : Nat} {w0 : ax_W}  {Q : Int64 → Prop}  : ∀ (s0 : Int64), wp_X6_worked_151 N   Q  s0 → EV (ax_GG X) m_X6_worked (po_X6_worked w0 Q) (151, [none, none, none, none, none], [.long s0], w0, [], 0) := by
  intro s0 h
  unfold wp_X6_worked_151 at h
  exact EV.ret rfl trivial ⟨_, rfl, h⟩
theorem ok_X6_worked_139 {X : Nat × (Nat → Int32)} {N : Nat} {w0 : ax_W}  {Q : Int64 → Prop}  : ∀ (s0 : Int64), wp_X6_worked_139 N   Q  s0 → EV (ax_GG X) m_X6_worked (po_X6_worked w0 Q) (139, [none, none, none, none, none], [.long s0], w0, [], 0) := by
  intro s0 h
  unfold wp_X6_worked_139 at h
  exact EV.ret rfl trivial ⟨_, rfl, h⟩
theorem ok_X6_worked_127 {X : Nat × (Nat → Int32)} {N : Nat} {w0 : ax_W}  {Q : Int64 → Prop}  : ∀ (s0 : Int64), wp_X6_worked_127 N   Q  s0 → EV (ax_GG X) m_X6_worked (po_X6_worked w0 Q) (127, [none, none, none, none, none], [.long s0], w0, [], 0) := by
  intro s0 h
  unfold wp_X6_worked_127 at h
  exact EV.ret rfl trivial ⟨_, rfl, h⟩
theorem ok_X6_worked_99 {X : Nat × (Nat → Int32)} {N : Nat} {w0 : ax_W}  {Q : Int64 → Prop}  : ∀ (s0 : Int64), wp_X6_worked_99 N   Q  s0 → EV (ax_GG X) m_X6_worked (po_X6_worked w0 Q) (99, [none, none, none, none, none], [.long s0], w0, [], 0) := by
  intro s0 h
  unfold wp_X6_worked_99 at h
  exact EV.ret rfl trivial ⟨_, rfl, h⟩
theorem ok_X6_worked_85 {X : Nat × (Nat → Int32)} {N : Nat} {w0 : ax_W}  {Q : Int64 → Prop}  : ∀ (s0 : Int64), wp_X6_worked_85 N   Q  s0 → EV (ax_GG X) m_X6_worked (po_X6_worked w0 Q) (85, [none, none, none, none, none], [.long s0], w0, [], 0) := by
  intro s0 h
  unfold wp_X6_worked_85 at h
  exact EV.ret rfl trivial ⟨_, rfl, h⟩
theorem em_X6_worked {X : Nat × (Nat → Int32)} {N : Nat} {w0 : ax_W} {p0 : Int32} {p1 : Int64} {p2 : Int64} {Q : Int64 → Prop} (h : wp_X6_worked N  Q p0 p1 p2) : EM (ax_GG X) m_X6_worked [.int p0, .long p1, .long p2] w0 (po_X6_worked w0 Q) := by
  unfold wp_X6_worked at h
  show EV _ _ _ (0, [some (.int p0), some (.long p1), none, some (.long p2), none], [], w0, [], 0)
  refine EV.seg (c' := (1, [some (.int p0), some (.long p1), none, some (.long p2), none], [.int p0], w0, [], 0)) 1 rfl trivial ?_
  refine EV.sw rfl ?_
  show EV _ _ _ (ax_ch [(p0 = 2, (68, [some (.int p0), some (.long p1), none, some (.long p2), none], [], w0, [], 0)), (p0 = 3, (72, [some (.int p0), some (.long p1), none, some (.long p2), none], [], w0, [], 0)), (p0 = 4, (86, [some (.int p0), some (.long p1), none, some (.long p2), none], [], w0, [], 0)), (p0 = 5, (100, [some (.int p0), some (.long p1), none, some (.long p2), none], [], w0, [], 0)), (p0 = 6, (104, [some (.int p0), some (.long p1), none, some (.long p2), none], [], w0, [], 0)), (p0 = 7, (116, [some (.int p0), some (.long p1), none, some (.long p2), none], [], w0, [], 0)), (p0 = 8, (128, [some (.int p0), some (.long p1), none, some (.long p2), none], [], w0, [], 0)), (p0 = 9, (140, [some (.int p0), some (.long p1), none, some (.long p2), none], [], w0, [], 0)), (p0 = 10, (152, [some (.int p0), some (.long p1), none, some (.long p2), none], [], w0, [], 0)), (p0 = 11, (164, [some (.int p0), some (.long p1), none, some (.long p2), none], [], w0, [], 0)), (p0 = 12, (164, [some (.int p0), some (.long p1), none, some (.long p2), none], [], w0, [], 0)), (p0 = 13, (108, [some (.int p0), some (.long p1), none, some (.long p2), none], [], w0, [], 0)), (p0 = 14, (112, [some (.int p0), some (.long p1), none, some (.long p2), none], [], w0, [], 0))] (164, [some (.int p0), some (.long p1), none, some (.long p2), none], [], w0, [], 0))
  refine EV.ch (fun hc => ?_) (fun hc => ?_)
  · have h := h.1 hc
    refine EV.seg (c' := (71, [some (.int p0), some (.long p1), none, some (.long p2), none], [.long (p1 * p2)], w0, [], 0)) 3 rfl trivial ?_
    exact EV.ret rfl trivial ⟨_, rfl, h⟩
  have h := h.2 hc
  refine EV.ch (fun hc => ?_) (fun hc => ?_)
  · have h := h.1 hc
    refine EV.seg (c' := (75, [some (.int p0), some (.long p1), none, some (.long p2), none], [.int (lg_cmp p2 (0 : Int64))], w0, [], 0)) 3 rfl trivial ?_
    refine EV.br (c1 := (78, [some (.int p0), some (.long p1), none, some (.long p2), none], [], w0, [], 0)) (c2 := (82, [some (.int p0), some (.long p1), none, some (.long p2), none], [], w0, [], 0)) rfl (fun hc => ?_) (fun hc => ?_)
    · have h := h.1 hc
      refine EV.seg (c' := (85, [some (.int p0), some (.long p1), none, some (.long p2), none], [.long (0 : Int64)], w0, [], 0)) 2 rfl trivial ?_
      refine EV.mask (ls' := [none, none, none, none, none]) rfl rfl ?_
      exact (ok_X6_worked_85 ) _ h
    · have h := h.2 hc
      obtain ⟨g1, h⟩ := h
      refine EV.seg (c' := (85, [some (.int p0), some (.long p1), none, some (.long p2), none], [.long (p1 / p2)], w0, [], 0)) 3 rfl (And.intro g1 trivial) ?_
      refine EV.mask (ls' := [none, none, none, none, none]) rfl rfl ?_
      exact (ok_X6_worked_85 ) _ h
  have h := h.2 hc
  refine EV.ch (fun hc => ?_) (fun hc => ?_)
  · have h := h.1 hc
    refine EV.seg (c' := (89, [some (.int p0), some (.long p1), none, some (.long p2), none], [.int (lg_cmp p2 (0 : Int64))], w0, [], 0)) 3 rfl trivial ?_
    refine EV.br (c1 := (92, [some (.int p0), some (.long p1), none, some (.long p2), none], [], w0, [], 0)) (c2 := (96, [some (.int p0), some (.long p1), none, some (.long p2), none], [], w0, [], 0)) rfl (fun hc => ?_) (fun hc => ?_)
    · have h := h.1 hc
      refine EV.seg (c' := (99, [some (.int p0), some (.long p1), none, some (.long p2), none], [.long (0 : Int64)], w0, [], 0)) 2 rfl trivial ?_
      refine EV.mask (ls' := [none, none, none, none, none]) rfl rfl ?_
      exact (ok_X6_worked_99 ) _ h
    · have h := h.2 hc
      obtain ⟨g1, h⟩ := h
      refine EV.seg (c' := (99, [some (.int p0), some (.long p1), none, some (.long p2), none], [.long (p1 - p1 / p2 * p2)], w0, [], 0)) 3 rfl (And.intro g1 trivial) ?_
      refine EV.mask (ls' := [none, none, none, none, none]) rfl rfl ?_
      exact (ok_X6_worked_99 ) _ h
  have h := h.2 hc
  refine EV.ch (fun hc => ?_) (fun hc => ?_)
  · have h := h.1 hc
    refine EV.seg (c' := (103, [some (.int p0), some (.long p1), none, some (.long p2), none], [.long (p1 + p2)], w0, [], 0)) 3 rfl trivial ?_
    exact EV.ret rfl trivial ⟨_, rfl, h⟩
  have h := h.2 hc
  refine EV.ch (fun hc => ?_) (fun hc => ?_)
  · have h := h.1 hc
    refine EV.seg (c' := (107, [some (.int p0), some (.long p1), none, some (.long p2), none], [.long (p1 - p2)], w0, [], 0)) 3 rfl trivial ?_
    exact EV.ret rfl trivial ⟨_, rfl, h⟩
  have h := h.2 hc
  refine EV.ch (fun hc => ?_) (fun hc => ?_)
  · have h := h.1 hc
    refine EV.seg (c' := (119, [some (.int p0), some (.long p1), none, some (.long p2), none], [.int (lg_cmp p1 p2)], w0, [], 0)) 3 rfl trivial ?_
    refine EV.br (c1 := (126, [some (.int p0), some (.long p1), none, some (.long p2), none], [], w0, [], 0)) (c2 := (122, [some (.int p0), some (.long p1), none, some (.long p2), none], [], w0, [], 0)) rfl (fun hc => ?_) (fun hc => ?_)
    · have h := h.1 hc
      refine EV.seg (c' := (127, [some (.int p0), some (.long p1), none, some (.long p2), none], [.long (0 : Int64)], w0, [], 0)) 1 rfl trivial ?_
      refine EV.mask (ls' := [none, none, none, none, none]) rfl rfl ?_
      exact (ok_X6_worked_127 ) _ h
    · have h := h.2 hc
      refine EV.seg (c' := (127, [some (.int p0), some (.long p1), none, some (.long p2), none], [.long (1 : Int64)], w0, [], 0)) 2 rfl trivial ?_
      refine EV.mask (ls' := [none, none, none, none, none]) rfl rfl ?_
      exact (ok_X6_worked_127 ) _ h
  have h := h.2 hc
  refine EV.ch (fun hc => ?_) (fun hc => ?_)
  · have h := h.1 hc
    refine EV.seg (c' := (131, [some (.int p0), some (.long p1), none, some (.long p2), none], [.int (lg_cmp p1 p2)], w0, [], 0)) 3 rfl trivial ?_
    refine EV.br (c1 := (138, [some (.int p0), some (.long p1), none, some (.long p2), none], [], w0, [], 0)) (c2 := (134, [some (.int p0), some (.long p1), none, some (.long p2), none], [], w0, [], 0)) rfl (fun hc => ?_) (fun hc => ?_)
    · have h := h.1 hc
      refine EV.seg (c' := (139, [some (.int p0), some (.long p1), none, some (.long p2), none], [.long (0 : Int64)], w0, [], 0)) 1 rfl trivial ?_
      refine EV.mask (ls' := [none, none, none, none, none]) rfl rfl ?_
      exact (ok_X6_worked_139 ) _ h
    · have h := h.2 hc
      refine EV.seg (c' := (139, [some (.int p0), some (.long p1), none, some (.long p2), none], [.long (1 : Int64)], w0, [], 0)) 2 rfl trivial ?_
      refine EV.mask (ls' := [none, none, none, none, none]) rfl rfl ?_
      exact (ok_X6_worked_139 ) _ h
  have h := h.2 hc
  refine EV.ch (fun hc => ?_) (fun hc => ?_)
  · have h := h.1 hc
    refine EV.seg (c' := (143, [some (.int p0), some (.long p1), none, some (.long p2), none], [.int (lg_cmp p1 p2)], w0, [], 0)) 3 rfl trivial ?_
    refine EV.br (c1 := (146, [some (.int p0), some (.long p1), none, some (.long p2), none], [], w0, [], 0)) (c2 := (150, [some (.int p0), some (.long p1), none, some (.long p2), none], [], w0, [], 0)) rfl (fun hc => ?_) (fun hc => ?_)
    · have h := h.1 hc
      refine EV.seg (c' := (151, [some (.int p0), some (.long p1), none, some (.long p2), none], [.long (1 : Int64)], w0, [], 0)) 2 rfl trivial ?_
      refine EV.mask (ls' := [none, none, none, none, none]) rfl rfl ?_
      exact (ok_X6_worked_151 ) _ h
    · have h := h.2 hc
      refine EV.seg (c' := (151, [some (.int p0), some (.long p1), none, some (.long p2), none], [.long (0 : Int64)], w0, [], 0)) 1 rfl trivial ?_
      refine EV.mask (ls' := [none, none, none, none, none]) rfl rfl ?_
      exact (ok_X6_worked_151 ) _ h
  have h := h.2 hc
  refine EV.ch (fun hc => ?_) (fun hc => ?_)
  · have h := h.1 hc
    refine EV.seg (c' := (155, [some (.int p0), some (.long p1), none, some (.long p2), none], [.int (lg_cmp p1 p2)], w0, [], 0)) 3 rfl trivial ?_
    refine EV.br (c1 := (162, [some (.int p0), some (.long p1), none, some (.long p2), none], [], w0, [], 0)) (c2 := (158, [some (.int p0), some (.long p1), none, some (.long p2), none], [], w0, [], 0)) rfl (fun hc => ?_) (fun hc => ?_)
    · have h := h.1 hc
      refine EV.seg (c' := (163, [some (.int p0), some (.long p1), none, some (.long p2), none], [.long (0 : Int64)], w0, [], 0)) 1 rfl trivial ?_
      refine EV.mask (ls' := [none, none, none, none, none]) rfl rfl ?_
      exact (ok_X6_worked_163 ) _ h
    · have h := h.2 hc
      refine EV.seg (c' := (163, [some (.int p0), some (.long p1), none, some (.long p2), none], [.long (1 : Int64)], w0, [], 0)) 2 rfl trivial ?_
      refine EV.mask (ls' := [none, none, none, none, none]) rfl rfl ?_
      exact (ok_X6_worked_163 ) _ h
  have h := h.2 hc
  refine EV.ch (fun hc => ?_) (fun hc => ?_)
  · have h := h.1 hc
    refine EV.seg (c' := (167, [some (.int p0), some (.long p1), none, some (.long p2), none], [.int (lg_cmp p1 p2)], w0, [], 0)) 3 rfl trivial ?_
    refine EV.br (c1 := (174, [some (.int p0), some (.long p1), none, some (.long p2), none], [], w0, [], 0)) (c2 := (170, [some (.int p0), some (.long p1), none, some (.long p2), none], [], w0, [], 0)) rfl (fun hc => ?_) (fun hc => ?_)
    · have h := h.1 hc
      refine EV.seg (c' := (175, [some (.int p0), some (.long p1), none, some (.long p2), none], [.long (0 : Int64)], w0, [], 0)) 1 rfl trivial ?_
      refine EV.mask (ls' := [none, none, none, none, none]) rfl rfl ?_
      exact (ok_X6_worked_175 ) _ h
    · have h := h.2 hc
      refine EV.seg (c' := (175, [some (.int p0), some (.long p1), none, some (.long p2), none], [.long (1 : Int64)], w0, [], 0)) 2 rfl trivial ?_
      refine EV.mask (ls' := [none, none, none, none, none]) rfl rfl ?_
      exact (ok_X6_worked_175 ) _ h
  have h := h.2 hc
  refine EV.ch (fun hc => ?_) (fun hc => ?_)
  · have h := h.1 hc
    refine EV.seg (c' := (167, [some (.int p0), some (.long p1), none, some (.long p2), none], [.int (lg_cmp p1 p2)], w0, [], 0)) 3 rfl trivial ?_
    refine EV.br (c1 := (174, [some (.int p0), some (.long p1), none, some (.long p2), none], [], w0, [], 0)) (c2 := (170, [some (.int p0), some (.long p1), none, some (.long p2), none], [], w0, [], 0)) rfl (fun hc => ?_) (fun hc => ?_)
    · have h := h.1 hc
      refine EV.seg (c' := (175, [some (.int p0), some (.long p1), none, some (.long p2), none], [.long (0 : Int64)], w0, [], 0)) 1 rfl trivial ?_
      refine EV.mask (ls' := [none, none, none, none, none]) rfl rfl ?_
      exact (ok_X6_worked_175 ) _ h
    · have h := h.2 hc
      refine EV.seg (c' := (175, [some (.int p0), some (.long p1), none, some (.long p2), none], [.long (1 : Int64)], w0, [], 0)) 2 rfl trivial ?_
      refine EV.mask (ls' := [none, none, none, none, none]) rfl rfl ?_
      exact (ok_X6_worked_175 ) _ h
  have h := h.2 hc
  refine EV.ch (fun hc => ?_) (fun hc => ?_)
  · have h := h.1 hc
    refine EV.seg (c' := (111, [some (.int p0), some (.long p1), none, some (.long p2), none], [.long (p1 &&& p2)], w0, [], 0)) 3 rfl trivial ?_
    exact EV.ret rfl trivial ⟨_, rfl, h⟩
  have h := h.2 hc
  refine EV.ch (fun hc => ?_) (fun hc => ?_)
  · have h := h.1 hc
    refine EV.seg (c' := (115, [some (.int p0), some (.long p1), none, some (.long p2), none], [.long (p1 ||| p2)], w0, [], 0)) 3 rfl trivial ?_
    exact EV.ret rfl trivial ⟨_, rfl, h⟩
  have h := h.2 hc
  refine EV.seg (c' := (167, [some (.int p0), some (.long p1), none, some (.long p2), none], [.int (lg_cmp p1 p2)], w0, [], 0)) 3 rfl trivial ?_
  refine EV.br (c1 := (174, [some (.int p0), some (.long p1), none, some (.long p2), none], [], w0, [], 0)) (c2 := (170, [some (.int p0), some (.long p1), none, some (.long p2), none], [], w0, [], 0)) rfl (fun hc => ?_) (fun hc => ?_)
  · have h := h.1 hc
    refine EV.seg (c' := (175, [some (.int p0), some (.long p1), none, some (.long p2), none], [.long (0 : Int64)], w0, [], 0)) 1 rfl trivial ?_
    refine EV.mask (ls' := [none, none, none, none, none]) rfl rfl ?_
    exact (ok_X6_worked_175 ) _ h
  · have h := h.2 hc
    refine EV.seg (c' := (175, [some (.int p0), some (.long p1), none, some (.long p2), none], [.long (1 : Int64)], w0, [], 0)) 2 rfl trivial ?_
    refine EV.mask (ls' := [none, none, none, none, none]) rfl rfl ?_
    exact (ok_X6_worked_175 ) _ h
abbrev po_X6_worth (r_len : Nat) (r_code : Nat → Int32) (y0_a : Nat → Int64) (Q : Int64 → (Nat → Int64) → Prop) : ax_E → Prop := fun out => ∃ (r : Int64) (y1_a' : Nat → Int64), out = (some (.long r), (w_ry110y140 r_len r_code y0_a y1_a'), [], 0) ∧ Q r y1_a'
theorem ok_X6_worth_151 {X : Nat × (Nat → Int32)} {N : Nat} {r_len : Nat} {r_code : Nat → Int32} {y0_a : Nat → Int64} {K5 : (Int32) → (Int32) → (Nat → Int64) → Prop} {Q : Int64 → (Nat → Int64) → Prop} (hK5 : ∀ (v3 : Int32) (v4 : Int32) (y1_a : Nat → Int64), K5 v3 v4 y1_a → EV (ax_GG X) m_X6_worth (po_X6_worth r_len r_code y0_a Q) (5, [some (.ref 0), some (.ref 2), some (.ref 3), some (.int v3), some (.int v4), none], [], (w_ry110y140 r_len r_code y0_a y1_a), [], 0)) : ∀ (v3 : Int32) (v4 : Int32) (y1_a : Nat → Int64), wp_X6_worth_151 N r_code y0_a r_len K5 Q  v3 v4 y1_a → EV (ax_GG X) m_X6_worth (po_X6_worth r_len r_code y0_a Q) (151, [some (.ref 0), some (.ref 2), some (.ref 3), some (.int v3), some (.int v4), none], [], (w_ry110y140 r_len r_code y0_a y1_a), [], 0) := by
  intro v3 v4 y1_a h
  unfold wp_X6_worth_151 at h
  refine EV.seg (c' := (5, [some (.ref 0), some (.ref 2), some (.ref 3), some (.int v3), some (.int (v4 + 1)), none], [], (w_ry110y140 r_len r_code y0_a y1_a), [], 0)) 2 rfl trivial ?_
  exact hK5 _ _ _ h
theorem ok_X6_worth_125 {X : Nat × (Nat → Int32)} {N : Nat} {r_len : Nat} {r_code : Nat → Int32} {y0_a : Nat → Int64} {K151 : (Int32) → (Int32) → (Nat → Int64) → Prop} {Q : Int64 → (Nat → Int64) → Prop} (hK151 : ∀ (v3 : Int32) (v4 : Int32) (y1_a : Nat → Int64), K151 v3 v4 y1_a → EV (ax_GG X) m_X6_worth (po_X6_worth r_len r_code y0_a Q) (151, [some (.ref 0), some (.ref 2), some (.ref 3), some (.int v3), some (.int v4), none], [], (w_ry110y140 r_len r_code y0_a y1_a), [], 0)) : ∀ (v3 : Int32) (v4 : Int32) (v5 : Int32) (y1_a : Nat → Int64), wp_X6_worth_125 N r_code y0_a r_len K151 Q  v3 v4 v5 y1_a → EV (ax_GG X) m_X6_worth (po_X6_worth r_len r_code y0_a Q) (125, [some (.ref 0), some (.ref 2), some (.ref 3), some (.int v3), some (.int v4), some (.int v5)], [], (w_ry110y140 r_len r_code y0_a y1_a), [], 0) := by
  intro v3 v4 v5 y1_a h
  unfold wp_X6_worth_125 at h
  refine EV.seg (c' := (127, [some (.ref 0), some (.ref 2), some (.ref 3), some (.int v3), some (.int v4), some (.int v5)], [.int (1 : Int32), .int v3], (w_ry110y140 r_len r_code y0_a y1_a), [], 0)) 2 rfl trivial ?_
  refine EV.br (c1 := (151, [some (.ref 0), some (.ref 2), some (.ref 3), some (.int v3), some (.int v4), some (.int v5)], [], (w_ry110y140 r_len r_code y0_a y1_a), [], 0)) (c2 := (130, [some (.ref 0), some (.ref 2), some (.ref 3), some (.int v3), some (.int v4), some (.int v5)], [], (w_ry110y140 r_len r_code y0_a y1_a), [], 0)) rfl (fun hc => ?_) (fun hc => ?_)
  · have h := h.1 hc
    refine EV.mask (ls' := [some (.ref 0), some (.ref 2), some (.ref 3), some (.int v3), some (.int v4), none]) rfl rfl ?_
    exact hK151 _ _ _ h
  · have h := h.2 hc
    obtain ⟨g1, g2, h⟩ := h
    refine EV.seg (c' := (147, [some (.ref 0), some (.ref 2), some (.ref 3), some (.int (v3 + (-1))), some (.int v4), some (.int v5)], [.long (y1_a (v3 + (-1)).toNatClampNeg), .long (y1_a ((v3 + (-1)) - (1 : Int32)).toNatClampNeg), .int v5, .int ((v3 + (-1)) - (1 : Int32)), .ref 3], (w_ry110y140 r_len r_code y0_a y1_a), [], 0)) 14 rfl (And.intro g1 (And.intro g2 trivial)) ?_
    refine EV.call (M' := m_X6_worked) rfl rfl (Nat.le_of_ble_eq_true rfl) (em_X6_worked  h) (fun out ho => ?_)
    obtain ⟨r5, rfl, h⟩ := ho
    show EV _ _ _ (150, [some (.ref 0), some (.ref 2), some (.ref 3), some (.int (v3 + (-1))), some (.int v4), some (.int v5)], [.long r5, .int ((v3 + (-1)) - (1 : Int32)), .ref 3], (w_ry110y140 r_len r_code y0_a y1_a), [], 0)
    obtain ⟨g1, h⟩ := h
    refine EV.seg (c' := (151, [some (.ref 0), some (.ref 2), some (.ref 3), some (.int (v3 + (-1))), some (.int v4), some (.int v5)], [], (w_ry110y140 r_len r_code y0_a (vp_updL y1_a ((v3 + (-1)) - (1 : Int32)).toNatClampNeg r5)), [], 0)) 1 rfl (And.intro g1 trivial) ?_
    obtain ⟨a6, e_a6⟩ : ∃ z : Nat → Int64, z = vp_updL y1_a ((v3 + (-1)) - (1 : Int32)).toNatClampNeg r5 := ⟨_, rfl⟩
    have h := h a6 e_a6
    rw [← e_a6]
    refine EV.mask (ls' := [some (.ref 0), some (.ref 2), some (.ref 3), some (.int (v3 + (-1))), some (.int v4), none]) rfl rfl ?_
    exact hK151 _ _ _ h
theorem ok_X6_worth_90 {X : Nat × (Nat → Int32)} {N : Nat} {r_len : Nat} {r_code : Nat → Int32} {y0_a : Nat → Int64} {K151 : (Int32) → (Int32) → (Nat → Int64) → Prop} {Q : Int64 → (Nat → Int64) → Prop} (hK151 : ∀ (v3 : Int32) (v4 : Int32) (y1_a : Nat → Int64), K151 v3 v4 y1_a → EV (ax_GG X) m_X6_worth (po_X6_worth r_len r_code y0_a Q) (151, [some (.ref 0), some (.ref 2), some (.ref 3), some (.int v3), some (.int v4), none], [], (w_ry110y140 r_len r_code y0_a y1_a), [], 0)) : ∀ (v3 : Int32) (v4 : Int32) (v5 : Int32) (y1_a : Nat → Int64), wp_X6_worth_90 N r_code y0_a r_len K151 Q  v3 v4 v5 y1_a → EV (ax_GG X) m_X6_worth (po_X6_worth r_len r_code y0_a Q) (90, [some (.ref 0), some (.ref 2), some (.ref 3), some (.int v3), some (.int v4), some (.int v5)], [], (w_ry110y140 r_len r_code y0_a y1_a), [], 0) := by
  intro v3 v4 v5 y1_a h
  unfold wp_X6_worth_90 at h
  refine EV.seg (c' := (94, [some (.ref 0), some (.ref 2), some (.ref 3), some (.int v3), some (.int v4), some (.int v5)], [.int (17 : Int32), .int v5], (w_ry110y140 r_len r_code y0_a y1_a), [], 0)) 2 rfl trivial ?_
  refine EV.br (c1 := (97, [some (.ref 0), some (.ref 2), some (.ref 3), some (.int v3), some (.int v4), some (.int v5)], [], (w_ry110y140 r_len r_code y0_a y1_a), [], 0)) (c2 := (102, [some (.ref 0), some (.ref 2), some (.ref 3), some (.int v3), some (.int v4), some (.int v5)], [], (w_ry110y140 r_len r_code y0_a y1_a), [], 0)) rfl (fun hc => ?_) (fun hc => ?_)
  · have h := h.1 hc
    refine EV.seg (c' := (151, [some (.ref 0), some (.ref 2), some (.ref 3), some (.int (0 : Int32)), some (.int v4), some (.int v5)], [], (w_ry110y140 r_len r_code y0_a y1_a), [], 0)) 3 rfl trivial ?_
    refine EV.mask (ls' := [some (.ref 0), some (.ref 2), some (.ref 3), some (.int (0 : Int32)), some (.int v4), none]) rfl rfl ?_
    exact hK151 _ _ _ h
  · have h := h.2 hc
    refine EV.seg (c' := (106, [some (.ref 0), some (.ref 2), some (.ref 3), some (.int v3), some (.int v4), some (.int v5)], [.int (12 : Int32), .int v5], (w_ry110y140 r_len r_code y0_a y1_a), [], 0)) 2 rfl trivial ?_
    refine EV.br (c1 := (109, [some (.ref 0), some (.ref 2), some (.ref 3), some (.int v3), some (.int v4), some (.int v5)], [], (w_ry110y140 r_len r_code y0_a y1_a), [], 0)) (c2 := (125, [some (.ref 0), some (.ref 2), some (.ref 3), some (.int v3), some (.int v4), some (.int v5)], [], (w_ry110y140 r_len r_code y0_a y1_a), [], 0)) rfl (fun hc => ?_) (fun hc => ?_)
    · have h := h.1 hc
      refine EV.seg (c' := (110, [some (.ref 0), some (.ref 2), some (.ref 3), some (.int v3), some (.int v4), some (.int v5)], [.int v3], (w_ry110y140 r_len r_code y0_a y1_a), [], 0)) 1 rfl trivial ?_
      refine EV.br (c1 := (125, [some (.ref 0), some (.ref 2), some (.ref 3), some (.int v3), some (.int v4), some (.int v5)], [], (w_ry110y140 r_len r_code y0_a y1_a), [], 0)) (c2 := (113, [some (.ref 0), some (.ref 2), some (.ref 3), some (.int v3), some (.int v4), some (.int v5)], [], (w_ry110y140 r_len r_code y0_a y1_a), [], 0)) rfl (fun hc => ?_) (fun hc => ?_)
      · have h := h.1 hc
        exact (ok_X6_worth_125 hK151) _ _ _ _ h
      · have h := h.2 hc
        obtain ⟨g1, g2, h⟩ := h
        refine EV.seg (c' := (122, [some (.ref 0), some (.ref 2), some (.ref 3), some (.int v3), some (.int v4), some (.int v5)], [], (w_ry110y140 r_len r_code y0_a (vp_updL y1_a (v3 - (1 : Int32)).toNatClampNeg ((y1_a (v3 - (1 : Int32)).toNatClampNeg) ^^^ (1 : Int64)))), [], 0)) 9 rfl (And.intro g1 (And.intro g2 trivial)) ?_
        obtain ⟨a4, e_a4⟩ : ∃ z : Nat → Int64, z = vp_updL y1_a (v3 - (1 : Int32)).toNatClampNeg ((y1_a (v3 - (1 : Int32)).toNatClampNeg) ^^^ (1 : Int64)) := ⟨_, rfl⟩
        have h := h a4 e_a4
        rw [← e_a4]
        refine EV.seg (c' := (151, [some (.ref 0), some (.ref 2), some (.ref 3), some (.int v3), some (.int v4), some (.int v5)], [], (w_ry110y140 r_len r_code y0_a a4), [], 0)) 1 rfl trivial ?_
        refine EV.mask (ls' := [some (.ref 0), some (.ref 2), some (.ref 3), some (.int v3), some (.int v4), none]) rfl rfl ?_
        exact hK151 _ _ _ h
    · have h := h.2 hc
      exact (ok_X6_worth_125 hK151) _ _ _ _ h
theorem ok_X6_worth_86 {X : Nat × (Nat → Int32)} {N : Nat} {r_len : Nat} {r_code : Nat → Int32} {y0_a : Nat → Int64}  {Q : Int64 → (Nat → Int64) → Prop}  : ∀ (y1_a : Nat → Int64), wp_X6_worth_86 N r_code y0_a r_len  Q  y1_a → EV (ax_GG X) m_X6_worth (po_X6_worth r_len r_code y0_a Q) (86, [none, none, some (.ref 3), none, none, none], [], (w_ry110y140 r_len r_code y0_a y1_a), [], 0) := by
  intro y1_a h
  unfold wp_X6_worth_86 at h
  obtain ⟨g1, h⟩ := h
  refine EV.seg (c' := (89, [none, none, some (.ref 3), none, none, none], [.long (y1_a (0 : Int32).toNatClampNeg)], (w_ry110y140 r_len r_code y0_a y1_a), [], 0)) 3 rfl (And.intro g1 trivial) ?_
  exact EV.ret rfl trivial ⟨_, _, rfl, h⟩
theorem ok_X6_worth_38 {X : Nat × (Nat → Int32)} {N : Nat} {r_len : Nat} {r_code : Nat → Int32} {y0_a : Nat → Int64} {K151 : (Int32) → (Int32) → (Nat → Int64) → Prop} {Q : Int64 → (Nat → Int64) → Prop} (hK151 : ∀ (v3 : Int32) (v4 : Int32) (y1_a : Nat → Int64), K151 v3 v4 y1_a → EV (ax_GG X) m_X6_worth (po_X6_worth r_len r_code y0_a Q) (151, [some (.ref 0), some (.ref 2), some (.ref 3), some (.int v3), some (.int v4), none], [], (w_ry110y140 r_len r_code y0_a y1_a), [], 0)) : ∀ (v3 : Int32) (v4 : Int32) (y1_a : Nat → Int64), wp_X6_worth_38 N r_code y0_a r_len K151 Q  v3 v4 y1_a → EV (ax_GG X) m_X6_worth (po_X6_worth r_len r_code y0_a Q) (38, [some (.ref 0), some (.ref 2), some (.ref 3), some (.int v3), some (.int v4), none], [], (w_ry110y140 r_len r_code y0_a y1_a), [], 0) := by
  intro v3 v4 y1_a h
  unfold wp_X6_worth_38 at h
  refine EV.seg (c' := (41, [some (.ref 0), some (.ref 2), some (.ref 3), some (.int v3), some (.int v4), none], [.int (Int32.ofNat 40), .int v3], (w_ry110y140 r_len r_code y0_a y1_a), [], 0)) 3 rfl trivial ?_
  refine EV.br (c1 := (151, [some (.ref 0), some (.ref 2), some (.ref 3), some (.int v3), some (.int v4), none], [], (w_ry110y140 r_len r_code y0_a y1_a), [], 0)) (c2 := (44, [some (.ref 0), some (.ref 2), some (.ref 3), some (.int v3), some (.int v4), none], [], (w_ry110y140 r_len r_code y0_a y1_a), [], 0)) rfl (fun hc => ?_) (fun hc => ?_)
  · have h := h.1 hc
    exact hK151 _ _ _ h
  · have h := h.2 hc
    obtain ⟨g1, h⟩ := h
    refine EV.seg (c' := (57, [some (.ref 0), some (.ref 2), some (.ref 3), some (.int (v3 + 1)), some (.int v4), none], [.ref 2, .int (r_code v4.toNatClampNeg), .int v3, .ref 3], (w_ry110y140 r_len r_code y0_a y1_a), [], 0)) 8 rfl (And.intro g1 trivial) ?_
    refine EV.callL (M' := m_X6_valueOf) (L := [2]) rfl rfl ⟨rfl, Nat.le_of_ble_eq_true rfl⟩ rfl rfl (em_X6_valueOf (y0_a := y0_a)  h) (fun out ho => ?_)
    obtain ⟨r2, rfl, h⟩ := ho
    show EV _ _ _ (60, [some (.ref 0), some (.ref 2), some (.ref 3), some (.int (v3 + 1)), some (.int v4), none], [.long r2, .int v3, .ref 3], (w_ry110y140 r_len r_code y0_a y1_a), [], 0)
    obtain ⟨g1, h⟩ := h
    refine EV.seg (c' := (61, [some (.ref 0), some (.ref 2), some (.ref 3), some (.int (v3 + 1)), some (.int v4), none], [], (w_ry110y140 r_len r_code y0_a (vp_updL y1_a v3.toNatClampNeg r2)), [], 0)) 1 rfl (And.intro g1 trivial) ?_
    obtain ⟨a3, e_a3⟩ : ∃ z : Nat → Int64, z = vp_updL y1_a v3.toNatClampNeg r2 := ⟨_, rfl⟩
    have h := h a3 e_a3
    rw [← e_a3]
    refine EV.seg (c' := (151, [some (.ref 0), some (.ref 2), some (.ref 3), some (.int (v3 + 1)), some (.int v4), none], [], (w_ry110y140 r_len r_code y0_a a3), [], 0)) 1 rfl trivial ?_
    exact hK151 _ _ _ h
theorem ok_X6_worth_5 {X : Nat × (Nat → Int32)} {N : Nat} {r_len : Nat} {r_code : Nat → Int32} {y0_a : Nat → Int64}  {Q : Int64 → (Nat → Int64) → Prop}  : ∀ (n : Nat) (v3 : Int32) (v4 : Int32) (y1_a : Nat → Int64), wp_X6_worth_5 N r_code y0_a r_len  Q n v3 v4 y1_a → EV (ax_GG X) m_X6_worth (po_X6_worth r_len r_code y0_a Q) (5, [some (.ref 0), some (.ref 2), some (.ref 3), some (.int v3), some (.int v4), none], [], (w_ry110y140 r_len r_code y0_a y1_a), [], 0) := by
  intro n
  induction n with
  | zero => intro _ _ _ h; exact h.elim
  | succ n ih =>
    intro v3 v4 y1_a h
    unfold wp_X6_worth_5 at h
    refine EV.seg (c' := (12, [some (.ref 0), some (.ref 2), some (.ref 3), some (.int v3), some (.int v4), none], [.int (Int32.ofNat r_len), .int v4], (w_ry110y140 r_len r_code y0_a y1_a), [], 0)) 4 rfl trivial ?_
    refine EV.br (c1 := (157, [some (.ref 0), some (.ref 2), some (.ref 3), some (.int v3), some (.int v4), none], [], (w_ry110y140 r_len r_code y0_a y1_a), [], 0)) (c2 := (15, [some (.ref 0), some (.ref 2), some (.ref 3), some (.int v3), some (.int v4), none], [], (w_ry110y140 r_len r_code y0_a y1_a), [], 0)) rfl (fun hc => ?_) (fun hc => ?_)
    · have h := h.1 hc
      refine EV.seg (c' := (158, [some (.ref 0), some (.ref 2), some (.ref 3), some (.int v3), some (.int v4), none], [.long (0 : Int64)], (w_ry110y140 r_len r_code y0_a y1_a), [], 0)) 1 rfl trivial ?_
      exact EV.ret rfl trivial ⟨_, _, rfl, h⟩
    · have h := h.2 hc
      obtain ⟨g1, h⟩ := h
      refine EV.seg (c' := (27, [some (.ref 0), some (.ref 2), some (.ref 3), some (.int v3), some (.int v4), some (.int ((r_code v4.toNatClampNeg) &&& (31 : Int32)))], [], (w_ry110y140 r_len r_code y0_a y1_a), [], 0)) 7 rfl (And.intro g1 trivial) ?_
      obtain ⟨x1, e_x1⟩ : ∃ z : Int32, z = (r_code v4.toNatClampNeg) &&& (31 : Int32) := ⟨_, rfl⟩
      have h := h x1 e_x1
      rw [← e_x1]
      refine EV.seg (c' := (29, [some (.ref 0), some (.ref 2), some (.ref 3), some (.int v3), some (.int v4), some (.int x1)], [.int x1], (w_ry110y140 r_len r_code y0_a y1_a), [], 0)) 1 rfl trivial ?_
      refine EV.br (c1 := (38, [some (.ref 0), some (.ref 2), some (.ref 3), some (.int v3), some (.int v4), some (.int x1)], [], (w_ry110y140 r_len r_code y0_a y1_a), [], 0)) (c2 := (32, [some (.ref 0), some (.ref 2), some (.ref 3), some (.int v3), some (.int v4), some (.int x1)], [], (w_ry110y140 r_len r_code y0_a y1_a), [], 0)) rfl (fun hc => ?_) (fun hc => ?_)
      · have h := h.1 hc
        refine EV.mask (ls' := [some (.ref 0), some (.ref 2), some (.ref 3), some (.int v3), some (.int v4), none]) rfl rfl ?_
        exact (ok_X6_worth_38 (ok_X6_worth_151 ih)) _ _ _ h
      · have h := h.2 hc
        refine EV.seg (c' := (35, [some (.ref 0), some (.ref 2), some (.ref 3), some (.int v3), some (.int v4), some (.int x1)], [.int (1 : Int32), .int x1], (w_ry110y140 r_len r_code y0_a y1_a), [], 0)) 2 rfl trivial ?_
        refine EV.br (c1 := (38, [some (.ref 0), some (.ref 2), some (.ref 3), some (.int v3), some (.int v4), some (.int x1)], [], (w_ry110y140 r_len r_code y0_a y1_a), [], 0)) (c2 := (64, [some (.ref 0), some (.ref 2), some (.ref 3), some (.int v3), some (.int v4), some (.int x1)], [], (w_ry110y140 r_len r_code y0_a y1_a), [], 0)) rfl (fun hc => ?_) (fun hc => ?_)
        · have h := h.1 hc
          refine EV.mask (ls' := [some (.ref 0), some (.ref 2), some (.ref 3), some (.int v3), some (.int v4), none]) rfl rfl ?_
          exact (ok_X6_worth_38 (ok_X6_worth_151 ih)) _ _ _ h
        · have h := h.2 hc
          refine EV.seg (c' := (68, [some (.ref 0), some (.ref 2), some (.ref 3), some (.int v3), some (.int v4), some (.int x1)], [.int (16 : Int32), .int x1], (w_ry110y140 r_len r_code y0_a y1_a), [], 0)) 2 rfl trivial ?_
          refine EV.br (c1 := (86, [some (.ref 0), some (.ref 2), some (.ref 3), some (.int v3), some (.int v4), some (.int x1)], [], (w_ry110y140 r_len r_code y0_a y1_a), [], 0)) (c2 := (71, [some (.ref 0), some (.ref 2), some (.ref 3), some (.int v3), some (.int v4), some (.int x1)], [], (w_ry110y140 r_len r_code y0_a y1_a), [], 0)) rfl (fun hc => ?_) (fun hc => ?_)
          · have h := h.1 hc
            refine EV.mask (ls' := [none, none, some (.ref 3), none, none, none]) rfl rfl ?_
            exact (ok_X6_worth_86 ) _ h
          · have h := h.2 hc
            refine EV.seg (c' := (75, [some (.ref 0), some (.ref 2), some (.ref 3), some (.int v3), some (.int v4), some (.int x1)], [.int (17 : Int32), .int x1], (w_ry110y140 r_len r_code y0_a y1_a), [], 0)) 2 rfl trivial ?_
            refine EV.br (c1 := (78, [some (.ref 0), some (.ref 2), some (.ref 3), some (.int v3), some (.int v4), some (.int x1)], [], (w_ry110y140 r_len r_code y0_a y1_a), [], 0)) (c2 := (90, [some (.ref 0), some (.ref 2), some (.ref 3), some (.int v3), some (.int v4), some (.int x1)], [], (w_ry110y140 r_len r_code y0_a y1_a), [], 0)) rfl (fun hc => ?_) (fun hc => ?_)
            · have h := h.1 hc
              obtain ⟨g1, h⟩ := h
              refine EV.seg (c' := (83, [some (.ref 0), some (.ref 2), some (.ref 3), some (.int v3), some (.int v4), some (.int x1)], [.int (lg_cmp (y1_a (1 : Int32).toNatClampNeg) (0 : Int64))], (w_ry110y140 r_len r_code y0_a y1_a), [], 0)) 5 rfl (And.intro g1 trivial) ?_
              refine EV.br (c1 := (90, [some (.ref 0), some (.ref 2), some (.ref 3), some (.int v3), some (.int v4), some (.int x1)], [], (w_ry110y140 r_len r_code y0_a y1_a), [], 0)) (c2 := (86, [some (.ref 0), some (.ref 2), some (.ref 3), some (.int v3), some (.int v4), some (.int x1)], [], (w_ry110y140 r_len r_code y0_a y1_a), [], 0)) rfl (fun hc => ?_) (fun hc => ?_)
              · have h := h.1 hc
                exact (ok_X6_worth_90 (ok_X6_worth_151 ih)) _ _ _ _ h
              · have h := h.2 hc
                refine EV.mask (ls' := [none, none, some (.ref 3), none, none, none]) rfl rfl ?_
                exact (ok_X6_worth_86 ) _ h
            · have h := h.2 hc
              exact (ok_X6_worth_90 (ok_X6_worth_151 ih)) _ _ _ _ h
theorem em_X6_worth {X : Nat × (Nat → Int32)} {N : Nat} {r_len : Nat} {r_code : Nat → Int32} {y0_a : Nat → Int64} {y1_a : Nat → Int64} {Q : Int64 → (Nat → Int64) → Prop} (h : wp_X6_worth N r_code y0_a r_len Q y1_a) : EM (ax_GG X) m_X6_worth [.ref 0, .ref 2, .ref 3] (w_ry110y140 r_len r_code y0_a y1_a) (po_X6_worth r_len r_code y0_a Q) := by
  unfold wp_X6_worth at h
  show EV _ _ _ (0, [some (.ref 0), some (.ref 2), some (.ref 3), none, none, none], [], (w_ry110y140 r_len r_code y0_a y1_a), [], 0)
  refine EV.seg (c' := (5, [some (.ref 0), some (.ref 2), some (.ref 3), some (.int (0 : Int32)), some (.int (0 : Int32)), none], [], (w_ry110y140 r_len r_code y0_a y1_a), [], 0)) 4 rfl trivial ?_
  exact (ok_X6_worth_5  N) _ _ _ h
abbrev po_X7_isWord (q_state : Int32) (q_sum : Int32) (q_clauses : Int32) (q_values : Int32) (q_tested : Int32) (q_code : Nat → Int32) (q_length : Int32) (q_pile : Nat → Int32) (q_top : Int32) (q_depth : Int32) (q_open : Int32) (p_bytes : Nat → Int32) (p_length : Int32) (p_at : Int32) (p_sign : Int32) (p_place : Int32) (p_number : Int32) (p_fault : Int32) (Q : Int32 → Prop) : ax_E → Prop := fun out => ∃ (r : Int32), out = (some (.int r), (w_qp (.ref 3) q_state q_sum q_clauses q_values q_tested q_code q_length q_pile q_top q_depth q_open p_bytes p_length p_at p_sign p_place p_number p_fault), [], 0) ∧ Q r
theorem ok_X7_isWord_20 {X : Nat × (Nat → Int32)} {N : Nat} {q_state : Int32} {q_sum : Int32} {q_clauses : Int32} {q_values : Int32} {q_tested : Int32} {q_code : Nat → Int32} {q_length : Int32} {q_pile : Nat → Int32} {q_top : Int32} {q_depth : Int32} {q_open : Int32} {p_bytes : Nat → Int32} {p_length : Int32} {p_at : Int32} {p_sign : Int32} {p_place : Int32} {p_number : Int32} {p_fault : Int32}  {Q : Int32 → Prop}  : ∀ (s0 : Int32), wp_X7_isWord_20 N p_sign  Q  s0 → EV (ax_GG X) m_X7_isWord (po_X7_isWord q_state q_sum q_clauses q_values q_tested q_code q_length q_pile q_top q_depth q_open p_bytes p_length p_at p_sign p_place p_number p_fault Q) (20, [none, none], [.int s0], (w_qp (.ref 3) q_state q_sum q_clauses q_values q_tested q_code q_length q_pile q_top q_depth q_open p_bytes p_length p_at p_sign p_place p_number p_fault), [], 0) := by
  intro s0 h
  unfold wp_X7_isWord_20 at h
  exact EV.ret rfl h.1 ⟨_, rfl, h.2⟩
theorem em_X7_isWord {X : Nat × (Nat → Int32)} {N : Nat} {q_state : Int32} {q_sum : Int32} {q_clauses : Int32} {q_values : Int32} {q_tested : Int32} {q_code : Nat → Int32} {q_length : Int32} {q_pile : Nat → Int32} {q_top : Int32} {q_depth : Int32} {q_open : Int32} {p_bytes : Nat → Int32} {p_length : Int32} {p_at : Int32} {p_sign : Int32} {p_place : Int32} {p_number : Int32} {p_fault : Int32} {p0 : Int32} {Q : Int32 → Prop} (h : wp_X7_isWord N p_sign Q p0) : EM (ax_GG X) m_X7_isWord [.ref 0, .int p0] (w_qp (.ref 3) q_state q_sum q_clauses q_values q_tested q_code q_length q_pile q_top q_depth q_open p_bytes p_length p_at p_sign p_place p_number p_fault) (po_X7_isWord q_state q_sum q_clauses q_values q_tested q_code q_length q_pile q_top q_depth q_open p_bytes p_length p_at p_sign p_place p_number p_fault Q) := by
  unfold wp_X7_isWord at h
  show EV _ _ _ (0, [some (.ref 0), some (.int p0)], [], (w_qp (.ref 3) q_state q_sum q_clauses q_values q_tested q_code q_length q_pile q_top q_depth q_open p_bytes p_length p_at p_sign p_place p_number p_fault), [], 0)
  refine EV.seg (c' := (12, [some (.ref 0), some (.int p0)], [.int ((300 : Int32) + p0), .int p_sign], (w_qp (.ref 3) q_state q_sum q_clauses q_values q_tested q_code q_length q_pile q_top q_depth q_open p_bytes p_length p_at p_sign p_place p_number p_fault), [], 0)) 6 rfl trivial ?_
  refine EV.br (c1 := (15, [some (.ref 0), some (.int p0)], [], (w_qp (.ref 3) q_state q_sum q_clauses q_values q_tested q_code q_length q_pile q_top q_depth q_open p_bytes p_length p_at p_sign p_place p_number p_fault), [], 0)) (c2 := (19, [some (.ref 0), some (.int p0)], [], (w_qp (.ref 3) q_state q_sum q_clauses q_values q_tested q_code q_length q_pile q_top q_depth q_open p_bytes p_length p_at p_sign p_place p_number p_fault), [], 0)) rfl (fun hc => ?_) (fun hc => ?_)
  · have h := h.1 hc
    refine EV.seg (c' := (20, [some (.ref 0), some (.int p0)], [.int (1 : Int32)], (w_qp (.ref 3) q_state q_sum q_clauses q_values q_tested q_code q_length q_pile q_top q_depth q_open p_bytes p_length p_at p_sign p_place p_number p_fault), [], 0)) 2 rfl trivial ?_
    refine EV.mask (ls' := [none, none]) rfl rfl ?_
    exact (ok_X7_isWord_20 ) _ h
  · have h := h.2 hc
    refine EV.seg (c' := (20, [some (.ref 0), some (.int p0)], [.int (0 : Int32)], (w_qp (.ref 3) q_state q_sum q_clauses q_values q_tested q_code q_length q_pile q_top q_depth q_open p_bytes p_length p_at p_sign p_place p_number p_fault), [], 0)) 1 rfl trivial ?_
    refine EV.mask (ls' := [none, none]) rfl rfl ?_
    exact (ok_X7_isWord_20 ) _ h
abbrev po_X7_takeClause (q_values : Int32) (q_code : Nat → Int32) (q_length : Int32) (q_pile : Nat → Int32) (q_top : Int32) (q_depth : Int32) (q_open : Int32) (p_bytes : Nat → Int32) (p_length : Int32) (p_at : Int32) (p_sign : Int32) (p_place : Int32) (p_number : Int32) (Q : (Int32) → (Int32) → (Int32) → (Int32) → (Int32) → Prop) : ax_E → Prop := fun out => ∃ (q_state' : Int32) (q_sum' : Int32) (q_clauses' : Int32) (q_tested' : Int32) (p_fault' : Int32), out = (none, (w_qp (.ref 3) q_state' q_sum' q_clauses' q_values q_tested' q_code q_length q_pile q_top q_depth q_open p_bytes p_length p_at p_sign p_place p_number p_fault'), [], 0) ∧ Q q_state' q_sum' q_clauses' q_tested' p_fault'
theorem ok_X7_takeClause_64 {X : Nat × (Nat → Int32)} {N : Nat} {q_values : Int32} {q_code : Nat → Int32} {q_length : Int32} {q_pile : Nat → Int32} {q_top : Int32} {q_depth : Int32} {q_open : Int32} {p_bytes : Nat → Int32} {p_length : Int32} {p_at : Int32} {p_sign : Int32} {p_place : Int32} {p_number : Int32}  {Q : (Int32) → (Int32) → (Int32) → (Int32) → (Int32) → Prop}  : ∀ (q_state : Int32) (q_sum : Int32) (q_clauses : Int32) (q_tested : Int32) (p_fault : Int32), wp_X7_takeClause_64 N p_sign p_place  Q  q_state q_sum q_clauses q_tested p_fault → EV (ax_GG X) m_X7_takeClause (po_X7_takeClause q_values q_code q_length q_pile q_top q_depth q_open p_bytes p_length p_at p_sign p_place p_number Q) (64, [none], [], (w_qp (.ref 3) q_state q_sum q_clauses q_values q_tested q_code q_length q_pile q_top q_depth q_open p_bytes p_length p_at p_sign p_place p_number p_fault), [], 0) := by
  intro q_state q_sum q_clauses q_tested p_fault h
  unfold wp_X7_takeClause_64 at h
  exact EV.ret rfl trivial ⟨_, _, _, _, _, rfl, h⟩
theorem em_X7_takeClause {X : Nat × (Nat → Int32)} {N : Nat} {q_values : Int32} {q_code : Nat → Int32} {q_length : Int32} {q_pile : Nat → Int32} {q_top : Int32} {q_depth : Int32} {q_open : Int32} {p_bytes : Nat → Int32} {p_length : Int32} {p_at : Int32} {p_sign : Int32} {p_place : Int32} {p_number : Int32} {q_state : Int32} {q_sum : Int32} {q_clauses : Int32} {q_tested : Int32} {p_fault : Int32} {Q : (Int32) → (Int32) → (Int32) → (Int32) → (Int32) → Prop} (h : wp_X7_takeClause N p_sign p_place Q q_state q_sum q_clauses q_tested p_fault) : EM (ax_GG X) m_X7_takeClause [.ref 0] (w_qp (.ref 3) q_state q_sum q_clauses q_values q_tested q_code q_length q_pile q_top q_depth q_open p_bytes p_length p_at p_sign p_place p_number p_fault) (po_X7_takeClause q_values q_code q_length q_pile q_top q_depth q_open p_bytes p_length p_at p_sign p_place p_number Q) := by
  unfold wp_X7_takeClause at h
  show EV _ _ _ (0, [some (.ref 0)], [], (w_qp (.ref 3) q_state q_sum q_clauses q_values q_tested q_code q_length q_pile q_top q_depth q_open p_bytes p_length p_at p_sign p_place p_number p_fault), [], 0)
  refine EV.seg (c' := (2, [some (.ref 0)], [.int (3 : Int32), .ref 0], (w_qp (.ref 3) q_state q_sum q_clauses q_values q_tested q_code q_length q_pile q_top q_depth q_open p_bytes p_length p_at p_sign p_place p_number p_fault), [], 0)) 2 rfl trivial ?_
  refine EV.call (M' := m_X7_isWord) rfl rfl (Nat.le_of_ble_eq_true rfl) (em_X7_isWord (q_state := q_state) (q_sum := q_sum) (q_clauses := q_clauses) (q_values := q_values) (q_tested := q_tested) (q_code := q_code) (q_length := q_length) (q_pile := q_pile) (q_top := q_top) (q_depth := q_depth) (q_open := q_open) (p_bytes := p_bytes) (p_length := p_length) (p_at := p_at) (p_sign := p_sign) (p_place := p_place) (p_number := p_number) (p_fault := p_fault)  h) (fun out ho => ?_)
  obtain ⟨r1, rfl, h⟩ := ho
  show EV _ _ _ (5, [some (.ref 0)], [.int r1], (w_qp (.ref 3) q_state q_sum q_clauses q_values q_tested q_code q_length q_pile q_top q_depth q_open p_bytes p_length p_at p_sign p_place p_number p_fault), [], 0)
  refine EV.br (c1 := (8, [some (.ref 0)], [], (w_qp (.ref 3) q_state q_sum q_clauses q_values q_tested q_code q_length q_pile q_top q_depth q_open p_bytes p_length p_at p_sign p_place p_number p_fault), [], 0)) (c2 := (19, [some (.ref 0)], [], (w_qp (.ref 3) q_state q_sum q_clauses q_values q_tested q_code q_length q_pile q_top q_depth q_open p_bytes p_length p_at p_sign p_place p_number p_fault), [], 0)) rfl (fun hc => ?_) (fun hc => ?_)
  · have h := h.1 hc
    refine EV.seg (c' := (13, [some (.ref 0)], [.int (0 : Int32), .ref 3], (w_qp (.ref 3) q_state q_sum q_clauses q_values q_tested q_code q_length q_pile q_top q_depth q_open p_bytes p_length p_at p_sign p_place p_number p_fault), [], 0)) 3 rfl trivial ?_
    refine EV.callL (M' := m_X9_fail) (L := [3, 4]) rfl rfl ⟨rfl, Nat.le_of_ble_eq_true rfl⟩ rfl rfl (em_X9_fail (p_bytes := p_bytes) (p_length := p_length) (p_at := p_at) (p_sign := p_sign) (p_place := p_place) (p_number := p_number) (p_fault := p_fault) h) (fun out ho => ?_)
    obtain ⟨m2, rfl, h⟩ := ho
    show EV _ _ _ (16, [some (.ref 0)], [], (w_qp (.ref 3) q_state q_sum q_clauses q_values q_tested q_code q_length q_pile q_top q_depth q_open p_bytes p_length p_at p_sign p_place p_number m2), [], 0)
    refine EV.seg (c' := (64, [some (.ref 0)], [], (w_qp (.ref 3) q_state q_sum q_clauses q_values q_tested q_code q_length q_pile q_top q_depth q_open p_bytes p_length p_at p_sign p_place p_number m2), [], 0)) 1 rfl trivial ?_
    refine EV.mask (ls' := [none]) rfl rfl ?_
    exact (ok_X7_takeClause_64 ) _ _ _ _ _ h
  · have h := h.2 hc
    refine EV.seg (c' := (25, [some (.ref 0)], [.int (12 : Int32), .int q_clauses], (w_qp (.ref 3) q_state q_sum q_clauses q_values q_tested q_code q_length q_pile q_top q_depth q_open p_bytes p_length p_at p_sign p_place p_number p_fault), [], 0)) 3 rfl trivial ?_
    refine EV.br (c1 := (39, [some (.ref 0)], [], (w_qp (.ref 3) q_state q_sum q_clauses q_values q_tested q_code q_length q_pile q_top q_depth q_open p_bytes p_length p_at p_sign p_place p_number p_fault), [], 0)) (c2 := (28, [some (.ref 0)], [], (w_qp (.ref 3) q_state q_sum q_clauses q_values q_tested q_code q_length q_pile q_top q_depth q_open p_bytes p_length p_at p_sign p_place p_number p_fault), [], 0)) rfl (fun hc => ?_) (fun hc => ?_)
    · have h := h.1 hc
      refine EV.seg (c' := (64, [some (.ref 0)], [], (w_qp (.ref 3) (1 : Int32) (0 : Int32) (q_clauses + (1 : Int32)) q_values (0 : Int32) q_code q_length q_pile q_top q_depth q_open p_bytes p_length p_at p_sign p_place p_number p_fault), [], 0)) 15 rfl (And.intro (Or.inl rfl) trivial) ?_
      refine EV.mask (ls' := [none]) rfl rfl ?_
      exact (ok_X7_takeClause_64 ) _ _ _ _ _ h
    · have h := h.2 hc
      refine EV.seg (c' := (33, [some (.ref 0)], [.int (4 : Int32), .ref 3], (w_qp (.ref 3) q_state q_sum q_clauses q_values q_tested q_code q_length q_pile q_top q_depth q_open p_bytes p_length p_at p_sign p_place p_number p_fault), [], 0)) 3 rfl trivial ?_
      refine EV.callL (M' := m_X9_fail) (L := [3, 4]) rfl rfl ⟨rfl, Nat.le_of_ble_eq_true rfl⟩ rfl rfl (em_X9_fail (p_bytes := p_bytes) (p_length := p_length) (p_at := p_at) (p_sign := p_sign) (p_place := p_place) (p_number := p_number) (p_fault := p_fault) h) (fun out ho => ?_)
      obtain ⟨m3, rfl, h⟩ := ho
      show EV _ _ _ (36, [some (.ref 0)], [], (w_qp (.ref 3) q_state q_sum q_clauses q_values q_tested q_code q_length q_pile q_top q_depth q_open p_bytes p_length p_at p_sign p_place p_number m3), [], 0)
      refine EV.seg (c' := (64, [some (.ref 0)], [], (w_qp (.ref 3) q_state q_sum q_clauses q_values q_tested q_code q_length q_pile q_top q_depth q_open p_bytes p_length p_at p_sign p_place p_number m3), [], 0)) 1 rfl trivial ?_
      refine EV.mask (ls' := [none]) rfl rfl ?_
      exact (ok_X7_takeClause_64 ) _ _ _ _ _ h
abbrev po_X7_write (q_state : Int32) (q_sum : Int32) (q_clauses : Int32) (q_values : Int32) (q_tested : Int32) (q_pile : Nat → Int32) (q_top : Int32) (q_depth : Int32) (q_open : Int32) (p_bytes : Nat → Int32) (p_length : Int32) (p_at : Int32) (p_sign : Int32) (p_place : Int32) (p_number : Int32) (p_fault : Int32) (Q : (Nat → Int32) → (Int32) → Prop) : ax_E → Prop := fun out => ∃ (q_code' : Nat → Int32) (q_length' : Int32), out = (none, (w_qp (.ref 3) q_state q_sum q_clauses q_values q_tested q_code' q_length' q_pile q_top q_depth q_open p_bytes p_length p_at p_sign p_place p_number p_fault), [], 0) ∧ Q q_code' q_length'
theorem ok_X7_write_29 {X : Nat × (Nat → Int32)} {N : Nat} {q_state : Int32} {q_sum : Int32} {q_clauses : Int32} {q_values : Int32} {q_tested : Int32} {q_pile : Nat → Int32} {q_top : Int32} {q_depth : Int32} {q_open : Int32} {p_bytes : Nat → Int32} {p_length : Int32} {p_at : Int32} {p_sign : Int32} {p_place : Int32} {p_number : Int32} {p_fault : Int32}  {Q : (Nat → Int32) → (Int32) → Prop}  : ∀ (q_code : Nat → Int32) (q_length : Int32), wp_X7_write_29 N   Q  q_code q_length → EV (ax_GG X) m_X7_write (po_X7_write q_state q_sum q_clauses q_values q_tested q_pile q_top q_depth q_open p_bytes p_length p_at p_sign p_place p_number p_fault Q) (29, [none, none], [], (w_qp (.ref 3) q_state q_sum q_clauses q_values q_tested q_code q_length q_pile q_top q_depth q_open p_bytes p_length p_at p_sign p_place p_number p_fault), [], 0) := by
  intro q_code q_length h
  unfold wp_X7_write_29 at h
  exact EV.ret rfl trivial ⟨_, _, rfl, h⟩
theorem em_X7_write {X : Nat × (Nat → Int32)} {N : Nat} {q_state : Int32} {q_sum : Int32} {q_clauses : Int32} {q_values : Int32} {q_tested : Int32} {q_pile : Nat → Int32} {q_top : Int32} {q_depth : Int32} {q_open : Int32} {p_bytes : Nat → Int32} {p_length : Int32} {p_at : Int32} {p_sign : Int32} {p_place : Int32} {p_number : Int32} {p_fault : Int32} {p0 : Int32} {q_code : Nat → Int32} {q_length : Int32} {Q : (Nat → Int32) → (Int32) → Prop} (h : wp_X7_write N  Q p0 q_code q_length) : EM (ax_GG X) m_X7_write [.ref 0, .int p0] (w_qp (.ref 3) q_state q_sum q_clauses q_values q_tested q_code q_length q_pile q_top q_depth q_open p_bytes p_length p_at p_sign p_place p_number p_fault) (po_X7_write q_state q_sum q_clauses q_values q_tested q_pile q_top q_depth q_open p_bytes p_length p_at p_sign p_place p_number p_fault Q) := by
  unfold wp_X7_write at h
  show EV _ _ _ (0, [some (.ref 0), some (.int p0)], [], (w_qp (.ref 3) q_state q_sum q_clauses q_values q_tested q_code q_length q_pile q_top q_depth q_open p_bytes p_length p_at p_sign p_place p_number p_fault), [], 0)
  refine EV.seg (c' := (9, [some (.ref 0), some (.int p0)], [.int (Int32.ofNat 400), .int q_length], (w_qp (.ref 3) q_state q_sum q_clauses q_values q_tested q_code q_length q_pile q_top q_depth q_open p_bytes p_length p_at p_sign p_place p_number p_fault), [], 0)) 5 rfl trivial ?_
  refine EV.br (c1 := (29, [some (.ref 0), some (.int p0)], [], (w_qp (.ref 3) q_state q_sum q_clauses q_values q_tested q_code q_length q_pile q_top q_depth q_open p_bytes p_length p_at p_sign p_place p_number p_fault), [], 0)) (c2 := (12, [some (.ref 0), some (.int p0)], [], (w_qp (.ref 3) q_state q_sum q_clauses q_values q_tested q_code q_length q_pile q_top q_depth q_open p_bytes p_length p_at p_sign p_place p_number p_fault), [], 0)) rfl (fun hc => ?_) (fun hc => ?_)
  · have h := h.1 hc
    refine EV.mask (ls' := [none, none]) rfl rfl ?_
    exact (ok_X7_write_29 ) _ _ h
  · have h := h.2 hc
    obtain ⟨g1, h⟩ := h
    refine EV.seg (c' := (29, [some (.ref 0), some (.int p0)], [], (w_qp (.ref 3) q_state q_sum q_clauses q_values q_tested (upd q_code q_length.toNatClampNeg p0) (q_length + (1 : Int32)) q_pile q_top q_depth q_open p_bytes p_length p_at p_sign p_place p_number p_fault), [], 0)) 11 rfl (And.intro g1 trivial) ?_
    obtain ⟨a1, e_a1⟩ : ∃ z : Nat → Int32, z = upd q_code q_length.toNatClampNeg p0 := ⟨_, rfl⟩
    have h := h a1 e_a1
    rw [← e_a1]
    refine EV.mask (ls' := [none, none]) rfl rfl ?_
    exact (ok_X7_write_29 ) _ _ h
abbrev po_X7_takeValue (q_sum : Int32) (q_clauses : Int32) (q_tested : Int32) (q_pile : Nat → Int32) (q_top : Int32) (q_depth : Int32) (q_open : Int32) (p_bytes : Nat → Int32) (p_length : Int32) (p_at : Int32) (p_sign : Int32) (p_place : Int32) (p_number : Int32) (Q : (Int32) → (Int32) → (Nat → Int32) → (Int32) → (Int32) → Prop) : ax_E → Prop := fun out => ∃ (q_state' : Int32) (q_values' : Int32) (q_code' : Nat → Int32) (q_length' : Int32) (p_fault' : Int32), out = (none, (w_qp (.ref 3) q_state' q_sum q_clauses q_values' q_tested q_code' q_length' q_pile q_top q_depth q_open p_bytes p_length p_at p_sign p_place p_number p_fault'), [], 0) ∧ Q q_state' q_values' q_code' q_length' p_fault'
theorem ok_X7_takeValue_144 {X : Nat × (Nat → Int32)} {N : Nat} {q_sum : Int32} {q_clauses : Int32} {q_tested : Int32} {q_pile : Nat → Int32} {q_top : Int32} {q_depth : Int32} {q_open : Int32} {p_bytes : Nat → Int32} {p_length : Int32} {p_at : Int32} {p_sign : Int32} {p_place : Int32} {p_number : Int32}  {Q : (Int32) → (Int32) → (Nat → Int32) → (Int32) → (Int32) → Prop}  : ∀ (q_state : Int32) (q_values : Int32) (q_code : Nat → Int32) (q_length : Int32) (p_fault : Int32), wp_X7_takeValue_144 N p_sign p_place p_number  Q  q_state q_values q_code q_length p_fault → EV (ax_GG X) m_X7_takeValue (po_X7_takeValue q_sum q_clauses q_tested q_pile q_top q_depth q_open p_bytes p_length p_at p_sign p_place p_number Q) (144, [none, none, none], [], (w_qp (.ref 3) q_state q_sum q_clauses q_values q_tested q_code q_length q_pile q_top q_depth q_open p_bytes p_length p_at p_sign p_place p_number p_fault), [], 0) := by
  intro q_state q_values q_code q_length p_fault h
  unfold wp_X7_takeValue_144 at h
  exact EV.ret rfl trivial ⟨_, _, _, _, _, rfl, h⟩
theorem ok_X7_takeValue_136 {X : Nat × (Nat → Int32)} {N : Nat} {q_sum : Int32} {q_clauses : Int32} {q_tested : Int32} {q_pile : Nat → Int32} {q_top : Int32} {q_depth : Int32} {q_open : Int32} {p_bytes : Nat → Int32} {p_length : Int32} {p_at : Int32} {p_sign : Int32} {p_place : Int32} {p_number : Int32} {K144 : (Int32) → (Int32) → (Nat → Int32) → (Int32) → (Int32) → Prop} {Q : (Int32) → (Int32) → (Nat → Int32) → (Int32) → (Int32) → Prop} (hK144 : ∀ (q_state : Int32) (q_values : Int32) (q_code : Nat → Int32) (q_length : Int32) (p_fault : Int32), K144 q_state q_values q_code q_length p_fault → EV (ax_GG X) m_X7_takeValue (po_X7_takeValue q_sum q_clauses q_tested q_pile q_top q_depth q_open p_bytes p_length p_at p_sign p_place p_number Q) (144, [none, none, none], [], (w_qp (.ref 3) q_state q_sum q_clauses q_values q_tested q_code q_length q_pile q_top q_depth q_open p_bytes p_length p_at p_sign p_place p_number p_fault), [], 0)) : ∀ (s0 : Int32) (q_state : Int32) (q_values : Int32) (q_code : Nat → Int32) (q_length : Int32) (p_fault : Int32), wp_X7_takeValue_136 N p_sign p_place p_number K144 Q  s0 q_state q_values q_code q_length p_fault → EV (ax_GG X) m_X7_takeValue (po_X7_takeValue q_sum q_clauses q_tested q_pile q_top q_depth q_open p_bytes p_length p_at p_sign p_place p_number Q) (136, [some (.ref 0), none, none], [.int s0, .ref 0], (w_qp (.ref 3) q_state q_sum q_clauses q_values q_tested q_code q_length q_pile q_top q_depth q_open p_bytes p_length p_at p_sign p_place p_number p_fault), [], 0) := by
  intro s0 q_state q_values q_code q_length p_fault h
  unfold wp_X7_takeValue_136 at h
  refine EV.call (M' := m_X7_write) rfl rfl (Nat.le_of_ble_eq_true rfl) (em_X7_write (q_state := q_state) (q_sum := q_sum) (q_clauses := q_clauses) (q_values := q_values) (q_tested := q_tested) (q_pile := q_pile) (q_top := q_top) (q_depth := q_depth) (q_open := q_open) (p_bytes := p_bytes) (p_length := p_length) (p_at := p_at) (p_sign := p_sign) (p_place := p_place) (p_number := p_number) (p_fault := p_fault) (q_code := q_code) (q_length := q_length) h) (fun out ho => ?_)
  obtain ⟨m5, m6, rfl, h⟩ := ho
  show EV _ _ _ (139, [some (.ref 0), none, none], [], (w_qp (.ref 3) q_state q_sum q_clauses q_values q_tested m5 m6 q_pile q_top q_depth q_open p_bytes p_length p_at p_sign p_place p_number p_fault), [], 0)
  refine EV.seg (c' := (144, [some (.ref 0), none, none], [], (w_qp (.ref 3) (3 : Int32) q_sum q_clauses q_values q_tested m5 m6 q_pile q_top q_depth q_open p_bytes p_length p_at p_sign p_place p_number p_fault), [], 0)) 3 rfl trivial ?_
  refine EV.mask (ls' := [none, none, none]) rfl rfl ?_
  exact hK144 _ _ _ _ _ h
theorem ok_X7_takeValue_82 {X : Nat × (Nat → Int32)} {N : Nat} {q_sum : Int32} {q_clauses : Int32} {q_tested : Int32} {q_pile : Nat → Int32} {q_top : Int32} {q_depth : Int32} {q_open : Int32} {p_bytes : Nat → Int32} {p_length : Int32} {p_at : Int32} {p_sign : Int32} {p_place : Int32} {p_number : Int32} {K144 : (Int32) → (Int32) → (Nat → Int32) → (Int32) → (Int32) → Prop} {Q : (Int32) → (Int32) → (Nat → Int32) → (Int32) → (Int32) → Prop} (hK144 : ∀ (q_state : Int32) (q_values : Int32) (q_code : Nat → Int32) (q_length : Int32) (p_fault : Int32), K144 q_state q_values q_code q_length p_fault → EV (ax_GG X) m_X7_takeValue (po_X7_takeValue q_sum q_clauses q_tested q_pile q_top q_depth q_open p_bytes p_length p_at p_sign p_place p_number Q) (144, [none, none, none], [], (w_qp (.ref 3) q_state q_sum q_clauses q_values q_tested q_code q_length q_pile q_top q_depth q_open p_bytes p_length p_at p_sign p_place p_number p_fault), [], 0)) : ∀ (v1 : Int32) (v2 : Int32) (q_state : Int32) (q_values : Int32) (q_code : Nat → Int32) (q_length : Int32) (p_fault : Int32), wp_X7_takeValue_82 N p_sign p_place p_number K144 Q  v1 v2 q_state q_values q_code q_length p_fault → EV (ax_GG X) m_X7_takeValue (po_X7_takeValue q_sum q_clauses q_tested q_pile q_top q_depth q_open p_bytes p_length p_at p_sign p_place p_number Q) (82, [some (.ref 0), some (.int v1), some (.int v2)], [], (w_qp (.ref 3) q_state q_sum q_clauses q_values q_tested q_code q_length q_pile q_top q_depth q_open p_bytes p_length p_at p_sign p_place p_number p_fault), [], 0) := by
  intro v1 v2 q_state q_values q_code q_length p_fault h
  unfold wp_X7_takeValue_82 at h
  refine EV.seg (c' := (88, [some (.ref 0), some (.int v1), some (.int v2)], [.int (60 : Int32), .int q_values], (w_qp (.ref 3) q_state q_sum q_clauses q_values q_tested q_code q_length q_pile q_top q_depth q_open p_bytes p_length p_at p_sign p_place p_number p_fault), [], 0)) 3 rfl trivial ?_
  refine EV.br (c1 := (102, [some (.ref 0), some (.int v1), some (.int v2)], [], (w_qp (.ref 3) q_state q_sum q_clauses q_values q_tested q_code q_length q_pile q_top q_depth q_open p_bytes p_length p_at p_sign p_place p_number p_fault), [], 0)) (c2 := (91, [some (.ref 0), some (.int v1), some (.int v2)], [], (w_qp (.ref 3) q_state q_sum q_clauses q_values q_tested q_code q_length q_pile q_top q_depth q_open p_bytes p_length p_at p_sign p_place p_number p_fault), [], 0)) rfl (fun hc => ?_) (fun hc => ?_)
  · have h := h.1 hc
    refine EV.seg (c' := (114, [some (.ref 0), some (.int v1), some (.int v2)], [.int v1, .ref 0], (w_qp (.ref 3) q_state q_sum q_clauses (q_values + (1 : Int32)) q_tested q_code q_length q_pile q_top q_depth q_open p_bytes p_length p_at p_sign p_place p_number p_fault), [], 0)) 8 rfl trivial ?_
    refine EV.br (c1 := (131, [some (.ref 0), some (.int v1), some (.int v2)], [.ref 0], (w_qp (.ref 3) q_state q_sum q_clauses (q_values + (1 : Int32)) q_tested q_code q_length q_pile q_top q_depth q_open p_bytes p_length p_at p_sign p_place p_number p_fault), [], 0)) (c2 := (117, [some (.ref 0), some (.int v1), some (.int v2)], [.ref 0], (w_qp (.ref 3) q_state q_sum q_clauses (q_values + (1 : Int32)) q_tested q_code q_length q_pile q_top q_depth q_open p_bytes p_length p_at p_sign p_place p_number p_fault), [], 0)) rfl (fun hc => ?_) (fun hc => ?_)
    · have h := h.1 hc
      refine EV.seg (c' := (136, [some (.ref 0), some (.int v1), some (.int v2)], [.int ((1 : Int32) ||| (v2 <<< ((5 : Int32) &&& 31))), .ref 0], (w_qp (.ref 3) q_state q_sum q_clauses (q_values + (1 : Int32)) q_tested q_code q_length q_pile q_top q_depth q_open p_bytes p_length p_at p_sign p_place p_number p_fault), [], 0)) 5 rfl trivial ?_
      refine EV.mask (ls' := [some (.ref 0), none, none]) rfl rfl ?_
      exact (ok_X7_takeValue_136 hK144) _ _ _ _ _ _ h
    · have h := h.2 hc
      refine EV.seg (c' := (136, [some (.ref 0), some (.int v1), some (.int v2)], [.int ((0 : Int32) ||| (p_number <<< ((5 : Int32) &&& 31))), .ref 0], (w_qp (.ref 3) q_state q_sum q_clauses (q_values + (1 : Int32)) q_tested q_code q_length q_pile q_top q_depth q_open p_bytes p_length p_at p_sign p_place p_number p_fault), [], 0)) 8 rfl trivial ?_
      refine EV.mask (ls' := [some (.ref 0), none, none]) rfl rfl ?_
      exact (ok_X7_takeValue_136 hK144) _ _ _ _ _ _ h
  · have h := h.2 hc
    refine EV.seg (c' := (96, [some (.ref 0), some (.int v1), some (.int v2)], [.int (3 : Int32), .ref 3], (w_qp (.ref 3) q_state q_sum q_clauses q_values q_tested q_code q_length q_pile q_top q_depth q_open p_bytes p_length p_at p_sign p_place p_number p_fault), [], 0)) 3 rfl trivial ?_
    refine EV.callL (M' := m_X9_fail) (L := [3, 4]) rfl rfl ⟨rfl, Nat.le_of_ble_eq_true rfl⟩ rfl rfl (em_X9_fail (p_bytes := p_bytes) (p_length := p_length) (p_at := p_at) (p_sign := p_sign) (p_place := p_place) (p_number := p_number) (p_fault := p_fault) h) (fun out ho => ?_)
    obtain ⟨m4, rfl, h⟩ := ho
    show EV _ _ _ (99, [some (.ref 0), some (.int v1), some (.int v2)], [], (w_qp (.ref 3) q_state q_sum q_clauses q_values q_tested q_code q_length q_pile q_top q_depth q_open p_bytes p_length p_at p_sign p_place p_number m4), [], 0)
    refine EV.seg (c' := (144, [some (.ref 0), some (.int v1), some (.int v2)], [], (w_qp (.ref 3) q_state q_sum q_clauses q_values q_tested q_code q_length q_pile q_top q_depth q_open p_bytes p_length p_at p_sign p_place p_number m4), [], 0)) 1 rfl trivial ?_
    refine EV.mask (ls' := [none, none, none]) rfl rfl ?_
    exact hK144 _ _ _ _ _ h
theorem ok_X7_takeValue_56 {X : Nat × (Nat → Int32)} {N : Nat} {q_sum : Int32} {q_clauses : Int32} {q_tested : Int32} {q_pile : Nat → Int32} {q_top : Int32} {q_depth : Int32} {q_open : Int32} {p_bytes : Nat → Int32} {p_length : Int32} {p_at : Int32} {p_sign : Int32} {p_place : Int32} {p_number : Int32} {K144 : (Int32) → (Int32) → (Nat → Int32) → (Int32) → (Int32) → Prop} {Q : (Int32) → (Int32) → (Nat → Int32) → (Int32) → (Int32) → Prop} (hK144 : ∀ (q_state : Int32) (q_values : Int32) (q_code : Nat → Int32) (q_length : Int32) (p_fault : Int32), K144 q_state q_values q_code q_length p_fault → EV (ax_GG X) m_X7_takeValue (po_X7_takeValue q_sum q_clauses q_tested q_pile q_top q_depth q_open p_bytes p_length p_at p_sign p_place p_number Q) (144, [none, none, none], [], (w_qp (.ref 3) q_state q_sum q_clauses q_values q_tested q_code q_length q_pile q_top q_depth q_open p_bytes p_length p_at p_sign p_place p_number p_fault), [], 0)) : ∀ (v1 : Int32) (v2 : Int32) (q_state : Int32) (q_values : Int32) (q_code : Nat → Int32) (q_length : Int32) (p_fault : Int32), wp_X7_takeValue_56 N p_sign p_place p_number K144 Q  v1 v2 q_state q_values q_code q_length p_fault → EV (ax_GG X) m_X7_takeValue (po_X7_takeValue q_sum q_clauses q_tested q_pile q_top q_depth q_open p_bytes p_length p_at p_sign p_place p_number Q) (56, [some (.ref 0), some (.int v1), some (.int v2)], [], (w_qp (.ref 3) q_state q_sum q_clauses q_values q_tested q_code q_length q_pile q_top q_depth q_open p_bytes p_length p_at p_sign p_place p_number p_fault), [], 0) := by
  intro v1 v2 q_state q_values q_code q_length p_fault h
  unfold wp_X7_takeValue_56 at h
  refine EV.seg (c' := (57, [some (.ref 0), some (.int v1), some (.int v2)], [.int v1], (w_qp (.ref 3) q_state q_sum q_clauses q_values q_tested q_code q_length q_pile q_top q_depth q_open p_bytes p_length p_at p_sign p_place p_number p_fault), [], 0)) 1 rfl trivial ?_
  refine EV.br (c1 := (82, [some (.ref 0), some (.int v1), some (.int v2)], [], (w_qp (.ref 3) q_state q_sum q_clauses q_values q_tested q_code q_length q_pile q_top q_depth q_open p_bytes p_length p_at p_sign p_place p_number p_fault), [], 0)) (c2 := (60, [some (.ref 0), some (.int v1), some (.int v2)], [], (w_qp (.ref 3) q_state q_sum q_clauses q_values q_tested q_code q_length q_pile q_top q_depth q_open p_bytes p_length p_at p_sign p_place p_number p_fault), [], 0)) rfl (fun hc => ?_) (fun hc => ?_)
  · have h := h.1 hc
    exact (ok_X7_takeValue_82 hK144) _ _ _ _ _ _ _ h
  · have h := h.2 hc
    refine EV.seg (c' := (68, [some (.ref 0), some (.int v1), some (.int v2)], [.int (-1 : Int32), .int p_number], (w_qp (.ref 3) q_state q_sum q_clauses q_values q_tested q_code q_length q_pile q_top q_depth q_open p_bytes p_length p_at p_sign p_place p_number p_fault), [], 0)) 4 rfl trivial ?_
    refine EV.br (c1 := (71, [some (.ref 0), some (.int v1), some (.int v2)], [], (w_qp (.ref 3) q_state q_sum q_clauses q_values q_tested q_code q_length q_pile q_top q_depth q_open p_bytes p_length p_at p_sign p_place p_number p_fault), [], 0)) (c2 := (82, [some (.ref 0), some (.int v1), some (.int v2)], [], (w_qp (.ref 3) q_state q_sum q_clauses q_values q_tested q_code q_length q_pile q_top q_depth q_open p_bytes p_length p_at p_sign p_place p_number p_fault), [], 0)) rfl (fun hc => ?_) (fun hc => ?_)
    · have h := h.1 hc
      refine EV.seg (c' := (76, [some (.ref 0), some (.int v1), some (.int v2)], [.int (1 : Int32), .ref 3], (w_qp (.ref 3) q_state q_sum q_clauses q_values q_tested q_code q_length q_pile q_top q_depth q_open p_bytes p_length p_at p_sign p_place p_number p_fault), [], 0)) 3 rfl trivial ?_
      refine EV.callL (M' := m_X9_fail) (L := [3, 4]) rfl rfl ⟨rfl, Nat.le_of_ble_eq_true rfl⟩ rfl rfl (em_X9_fail (p_bytes := p_bytes) (p_length := p_length) (p_at := p_at) (p_sign := p_sign) (p_place := p_place) (p_number := p_number) (p_fault := p_fault) h) (fun out ho => ?_)
      obtain ⟨m3, rfl, h⟩ := ho
      show EV _ _ _ (79, [some (.ref 0), some (.int v1), some (.int v2)], [], (w_qp (.ref 3) q_state q_sum q_clauses q_values q_tested q_code q_length q_pile q_top q_depth q_open p_bytes p_length p_at p_sign p_place p_number m3), [], 0)
      refine EV.seg (c' := (144, [some (.ref 0), some (.int v1), some (.int v2)], [], (w_qp (.ref 3) q_state q_sum q_clauses q_values q_tested q_code q_length q_pile q_top q_depth q_open p_bytes p_length p_at p_sign p_place p_number m3), [], 0)) 1 rfl trivial ?_
      refine EV.mask (ls' := [none, none, none]) rfl rfl ?_
      exact hK144 _ _ _ _ _ h
    · have h := h.2 hc
      exact (ok_X7_takeValue_82 hK144) _ _ _ _ _ _ _ h
theorem ok_X7_takeValue_45 {X : Nat × (Nat → Int32)} {N : Nat} {q_sum : Int32} {q_clauses : Int32} {q_tested : Int32} {q_pile : Nat → Int32} {q_top : Int32} {q_depth : Int32} {q_open : Int32} {p_bytes : Nat → Int32} {p_length : Int32} {p_at : Int32} {p_sign : Int32} {p_place : Int32} {p_number : Int32} {K144 : (Int32) → (Int32) → (Nat → Int32) → (Int32) → (Int32) → Prop} {Q : (Int32) → (Int32) → (Nat → Int32) → (Int32) → (Int32) → Prop} (hK144 : ∀ (q_state : Int32) (q_values : Int32) (q_code : Nat → Int32) (q_length : Int32) (p_fault : Int32), K144 q_state q_values q_code q_length p_fault → EV (ax_GG X) m_X7_takeValue (po_X7_takeValue q_sum q_clauses q_tested q_pile q_top q_depth q_open p_bytes p_length p_at p_sign p_place p_number Q) (144, [none, none, none], [], (w_qp (.ref 3) q_state q_sum q_clauses q_values q_tested q_code q_length q_pile q_top q_depth q_open p_bytes p_length p_at p_sign p_place p_number p_fault), [], 0)) : ∀ (q_state : Int32) (q_values : Int32) (q_code : Nat → Int32) (q_length : Int32) (p_fault : Int32), wp_X7_takeValue_45 N p_sign p_place p_number K144 Q  q_state q_values q_code q_length p_fault → EV (ax_GG X) m_X7_takeValue (po_X7_takeValue q_sum q_clauses q_tested q_pile q_top q_depth q_open p_bytes p_length p_at p_sign p_place p_number Q) (45, [some (.ref 0), none, none], [], (w_qp (.ref 3) q_state q_sum q_clauses q_values q_tested q_code q_length q_pile q_top q_depth q_open p_bytes p_length p_at p_sign p_place p_number p_fault), [], 0) := by
  intro q_state q_values q_code q_length p_fault h
  unfold wp_X7_takeValue_45 at h
  refine EV.seg (c' := (50, [some (.ref 0), none, none], [.int (0 : Int32), .ref 3], (w_qp (.ref 3) q_state q_sum q_clauses q_values q_tested q_code q_length q_pile q_top q_depth q_open p_bytes p_length p_at p_sign p_place p_number p_fault), [], 0)) 3 rfl trivial ?_
  refine EV.callL (M' := m_X9_fail) (L := [3, 4]) rfl rfl ⟨rfl, Nat.le_of_ble_eq_true rfl⟩ rfl rfl (em_X9_fail (p_bytes := p_bytes) (p_length := p_length) (p_at := p_at) (p_sign := p_sign) (p_place := p_place) (p_number := p_number) (p_fault := p_fault) h) (fun out ho => ?_)
  obtain ⟨m2, rfl, h⟩ := ho
  show EV _ _ _ (53, [some (.ref 0), none, none], [], (w_qp (.ref 3) q_state q_sum q_clauses q_values q_tested q_code q_length q_pile q_top q_depth q_open p_bytes p_length p_at p_sign p_place p_number m2), [], 0)
  refine EV.seg (c' := (144, [some (.ref 0), none, none], [], (w_qp (.ref 3) q_state q_sum q_clauses q_values q_tested q_code q_length q_pile q_top q_depth q_open p_bytes p_length p_at p_sign p_place p_number m2), [], 0)) 1 rfl trivial ?_
  refine EV.mask (ls' := [none, none, none]) rfl rfl ?_
  exact hK144 _ _ _ _ _ h
theorem ok_X7_takeValue_18 {X : Nat × (Nat → Int32)} {N : Nat} {q_sum : Int32} {q_clauses : Int32} {q_tested : Int32} {q_pile : Nat → Int32} {q_top : Int32} {q_depth : Int32} {q_open : Int32} {p_bytes : Nat → Int32} {p_length : Int32} {p_at : Int32} {p_sign : Int32} {p_place : Int32} {p_number : Int32}  {Q : (Int32) → (Int32) → (Nat → Int32) → (Int32) → (Int32) → Prop}  : ∀ (s0 : Int32) (q_state : Int32) (q_values : Int32) (q_code : Nat → Int32) (q_length : Int32) (p_fault : Int32), wp_X7_takeValue_18 N p_sign p_place p_number  Q  s0 q_state q_values q_code q_length p_fault → EV (ax_GG X) m_X7_takeValue (po_X7_takeValue q_sum q_clauses q_tested q_pile q_top q_depth q_open p_bytes p_length p_at p_sign p_place p_number Q) (18, [some (.ref 0), none, none], [.int s0], (w_qp (.ref 3) q_state q_sum q_clauses q_values q_tested q_code q_length q_pile q_top q_depth q_open p_bytes p_length p_at p_sign p_place p_number p_fault), [], 0) := by
  intro s0 q_state q_values q_code q_length p_fault h
  unfold wp_X7_takeValue_18 at h
  refine EV.seg (c' := (31, [some (.ref 0), some (.int s0), some (.int (p_sign - (300 : Int32)))], [], (w_qp (.ref 3) q_state q_sum q_clauses q_values q_tested q_code q_length q_pile q_top q_depth q_open p_bytes p_length p_at p_sign p_place p_number p_fault), [], 0)) 7 rfl trivial ?_
  obtain ⟨x1, e_x1⟩ : ∃ z : Int32, z = p_sign - (300 : Int32) := ⟨_, rfl⟩
  have h := h x1 e_x1
  rw [← e_x1]
  refine EV.seg (c' := (32, [some (.ref 0), some (.int s0), some (.int x1)], [.int s0], (w_qp (.ref 3) q_state q_sum q_clauses q_values q_tested q_code q_length q_pile q_top q_depth q_open p_bytes p_length p_at p_sign p_place p_number p_fault), [], 0)) 1 rfl trivial ?_
  refine EV.br (c1 := (35, [some (.ref 0), some (.int s0), some (.int x1)], [], (w_qp (.ref 3) q_state q_sum q_clauses q_values q_tested q_code q_length q_pile q_top q_depth q_open p_bytes p_length p_at p_sign p_place p_number p_fault), [], 0)) (c2 := (56, [some (.ref 0), some (.int s0), some (.int x1)], [], (w_qp (.ref 3) q_state q_sum q_clauses q_values q_tested q_code q_length q_pile q_top q_depth q_open p_bytes p_length p_at p_sign p_place p_number p_fault), [], 0)) rfl (fun hc => ?_) (fun hc => ?_)
  · have h := h.1 hc
    refine EV.seg (c' := (36, [some (.ref 0), some (.int s0), some (.int x1)], [.int x1], (w_qp (.ref 3) q_state q_sum q_clauses q_values q_tested q_code q_length q_pile q_top q_depth q_open p_bytes p_length p_at p_sign p_place p_number p_fault), [], 0)) 1 rfl trivial ?_
    refine EV.br (c1 := (45, [some (.ref 0), some (.int s0), some (.int x1)], [], (w_qp (.ref 3) q_state q_sum q_clauses q_values q_tested q_code q_length q_pile q_top q_depth q_open p_bytes p_length p_at p_sign p_place p_number p_fault), [], 0)) (c2 := (39, [some (.ref 0), some (.int s0), some (.int x1)], [], (w_qp (.ref 3) q_state q_sum q_clauses q_values q_tested q_code q_length q_pile q_top q_depth q_open p_bytes p_length p_at p_sign p_place p_number p_fault), [], 0)) rfl (fun hc => ?_) (fun hc => ?_)
    · have h := h.1 hc
      refine EV.mask (ls' := [some (.ref 0), none, none]) rfl rfl ?_
      exact (ok_X7_takeValue_45 (ok_X7_takeValue_144 )) _ _ _ _ _ h
    · have h := h.2 hc
      refine EV.seg (c' := (42, [some (.ref 0), some (.int s0), some (.int x1)], [.int (10 : Int32), .int x1], (w_qp (.ref 3) q_state q_sum q_clauses q_values q_tested q_code q_length q_pile q_top q_depth q_open p_bytes p_length p_at p_sign p_place p_number p_fault), [], 0)) 2 rfl trivial ?_
      refine EV.br (c1 := (56, [some (.ref 0), some (.int s0), some (.int x1)], [], (w_qp (.ref 3) q_state q_sum q_clauses q_values q_tested q_code q_length q_pile q_top q_depth q_open p_bytes p_length p_at p_sign p_place p_number p_fault), [], 0)) (c2 := (45, [some (.ref 0), some (.int s0), some (.int x1)], [], (w_qp (.ref 3) q_state q_sum q_clauses q_values q_tested q_code q_length q_pile q_top q_depth q_open p_bytes p_length p_at p_sign p_place p_number p_fault), [], 0)) rfl (fun hc => ?_) (fun hc => ?_)
      · have h := h.1 hc
        exact (ok_X7_takeValue_56 (ok_X7_takeValue_144 )) _ _ _ _ _ _ _ h
      · have h := h.2 hc
        refine EV.mask (ls' := [some (.ref 0), none, none]) rfl rfl ?_
        exact (ok_X7_takeValue_45 (ok_X7_takeValue_144 )) _ _ _ _ _ h
  · have h := h.2 hc
    exact (ok_X7_takeValue_56 (ok_X7_takeValue_144 )) _ _ _ _ _ _ _ h
theorem em_X7_takeValue {X : Nat × (Nat → Int32)} {N : Nat} {q_sum : Int32} {q_clauses : Int32} {q_tested : Int32} {q_pile : Nat → Int32} {q_top : Int32} {q_depth : Int32} {q_open : Int32} {p_bytes : Nat → Int32} {p_length : Int32} {p_at : Int32} {p_sign : Int32} {p_place : Int32} {p_number : Int32} {q_state : Int32} {q_values : Int32} {q_code : Nat → Int32} {q_length : Int32} {p_fault : Int32} {Q : (Int32) → (Int32) → (Nat → Int32) → (Int32) → (Int32) → Prop} (h : wp_X7_takeValue N p_sign p_place p_number Q q_state q_values q_code q_length p_fault) : EM (ax_GG X) m_X7_takeValue [.ref 0] (w_qp (.ref 3) q_state q_sum q_clauses q_values q_tested q_code q_length q_pile q_top q_depth q_open p_bytes p_length p_at p_sign p_place p_number p_fault) (po_X7_takeValue q_sum q_clauses q_tested q_pile q_top q_depth q_open p_bytes p_length p_at p_sign p_place p_number Q) := by
  unfold wp_X7_takeValue at h
  show EV _ _ _ (0, [some (.ref 0), none, none], [], (w_qp (.ref 3) q_state q_sum q_clauses q_values q_tested q_code q_length q_pile q_top q_depth q_open p_bytes p_length p_at p_sign p_place p_number p_fault), [], 0)
  refine EV.seg (c' := (10, [some (.ref 0), none, none], [.int (257 : Int32), .int p_sign], (w_qp (.ref 3) q_state q_sum q_clauses q_values q_tested q_code q_length q_pile q_top q_depth q_open p_bytes p_length p_at p_sign p_place p_number p_fault), [], 0)) 4 rfl trivial ?_
  refine EV.br (c1 := (13, [some (.ref 0), none, none], [], (w_qp (.ref 3) q_state q_sum q_clauses q_values q_tested q_code q_length q_pile q_top q_depth q_open p_bytes p_length p_at p_sign p_place p_number p_fault), [], 0)) (c2 := (17, [some (.ref 0), none, none], [], (w_qp (.ref 3) q_state q_sum q_clauses q_values q_tested q_code q_length q_pile q_top q_depth q_open p_bytes p_length p_at p_sign p_place p_number p_fault), [], 0)) rfl (fun hc => ?_) (fun hc => ?_)
  · have h := h.1 hc
    refine EV.seg (c' := (18, [some (.ref 0), none, none], [.int (1 : Int32)], (w_qp (.ref 3) q_state q_sum q_clauses q_values q_tested q_code q_length q_pile q_top q_depth q_open p_bytes p_length p_at p_sign p_place p_number p_fault), [], 0)) 2 rfl trivial ?_
    exact (ok_X7_takeValue_18 ) _ _ _ _ _ _ h
  · have h := h.2 hc
    refine EV.seg (c' := (18, [some (.ref 0), none, none], [.int (0 : Int32)], (w_qp (.ref 3) q_state q_sum q_clauses q_values q_tested q_code q_length q_pile q_top q_depth q_open p_bytes p_length p_at p_sign p_place p_number p_fault), [], 0)) 1 rfl trivial ?_
    exact (ok_X7_takeValue_18 ) _ _ _ _ _ _ h
abbrev po_X7_lay (q_state : Int32) (q_sum : Int32) (q_clauses : Int32) (q_values : Int32) (q_tested : Int32) (q_code : Nat → Int32) (q_length : Int32) (q_depth : Int32) (q_open : Int32) (p_bytes : Nat → Int32) (p_length : Int32) (p_at : Int32) (p_sign : Int32) (p_place : Int32) (p_number : Int32) (p_fault : Int32) (Q : (Nat → Int32) → (Int32) → Prop) : ax_E → Prop := fun out => ∃ (q_pile' : Nat → Int32) (q_top' : Int32), out = (none, (w_qp (.ref 3) q_state q_sum q_clauses q_values q_tested q_code q_length q_pile' q_top' q_depth q_open p_bytes p_length p_at p_sign p_place p_number p_fault), [], 0) ∧ Q q_pile' q_top'
theorem ok_X7_lay_29 {X : Nat × (Nat → Int32)} {N : Nat} {q_state : Int32} {q_sum : Int32} {q_clauses : Int32} {q_values : Int32} {q_tested : Int32} {q_code : Nat → Int32} {q_length : Int32} {q_depth : Int32} {q_open : Int32} {p_bytes : Nat → Int32} {p_length : Int32} {p_at : Int32} {p_sign : Int32} {p_place : Int32} {p_number : Int32} {p_fault : Int32}  {Q : (Nat → Int32) → (Int32) → Prop}  : ∀ (q_pile : Nat → Int32) (q_top : Int32), wp_X7_lay_29 N   Q  q_pile q_top → EV (ax_GG X) m_X7_lay (po_X7_lay q_state q_sum q_clauses q_values q_tested q_code q_length q_depth q_open p_bytes p_length p_at p_sign p_place p_number p_fault Q) (29, [none, none], [], (w_qp (.ref 3) q_state q_sum q_clauses q_values q_tested q_code q_length q_pile q_top q_depth q_open p_bytes p_length p_at p_sign p_place p_number p_fault), [], 0) := by
  intro q_pile q_top h
  unfold wp_X7_lay_29 at h
  exact EV.ret rfl trivial ⟨_, _, rfl, h⟩
theorem em_X7_lay {X : Nat × (Nat → Int32)} {N : Nat} {q_state : Int32} {q_sum : Int32} {q_clauses : Int32} {q_values : Int32} {q_tested : Int32} {q_code : Nat → Int32} {q_length : Int32} {q_depth : Int32} {q_open : Int32} {p_bytes : Nat → Int32} {p_length : Int32} {p_at : Int32} {p_sign : Int32} {p_place : Int32} {p_number : Int32} {p_fault : Int32} {p0 : Int32} {q_pile : Nat → Int32} {q_top : Int32} {Q : (Nat → Int32) → (Int32) → Prop} (h : wp_X7_lay N  Q p0 q_pile q_top) : EM (ax_GG X) m_X7_lay [.ref 0, .int p0] (w_qp (.ref 3) q_state q_sum q_clauses q_values q_tested q_code q_length q_pile q_top q_depth q_open p_bytes p_length p_at p_sign p_place p_number p_fault) (po_X7_lay q_state q_sum q_clauses q_values q_tested q_code q_length q_depth q_open p_bytes p_length p_at p_sign p_place p_number p_fault Q) := by
  unfold wp_X7_lay at h
  show EV _ _ _ (0, [some (.ref 0), some (.int p0)], [], (w_qp (.ref 3) q_state q_sum q_clauses q_values q_tested q_code q_length q_pile q_top q_depth q_open p_bytes p_length p_at p_sign p_place p_number p_fault), [], 0)
  refine EV.seg (c' := (9, [some (.ref 0), some (.int p0)], [.int (Int32.ofNat 48), .int q_top], (w_qp (.ref 3) q_state q_sum q_clauses q_values q_tested q_code q_length q_pile q_top q_depth q_open p_bytes p_length p_at p_sign p_place p_number p_fault), [], 0)) 5 rfl trivial ?_
  refine EV.br (c1 := (29, [some (.ref 0), some (.int p0)], [], (w_qp (.ref 3) q_state q_sum q_clauses q_values q_tested q_code q_length q_pile q_top q_depth q_open p_bytes p_length p_at p_sign p_place p_number p_fault), [], 0)) (c2 := (12, [some (.ref 0), some (.int p0)], [], (w_qp (.ref 3) q_state q_sum q_clauses q_values q_tested q_code q_length q_pile q_top q_depth q_open p_bytes p_length p_at p_sign p_place p_number p_fault), [], 0)) rfl (fun hc => ?_) (fun hc => ?_)
  · have h := h.1 hc
    refine EV.mask (ls' := [none, none]) rfl rfl ?_
    exact (ok_X7_lay_29 ) _ _ h
  · have h := h.2 hc
    obtain ⟨g1, h⟩ := h
    refine EV.seg (c' := (29, [some (.ref 0), some (.int p0)], [], (w_qp (.ref 3) q_state q_sum q_clauses q_values q_tested q_code q_length (upd q_pile q_top.toNatClampNeg p0) (q_top + (1 : Int32)) q_depth q_open p_bytes p_length p_at p_sign p_place p_number p_fault), [], 0)) 11 rfl (And.intro g1 trivial) ?_
    obtain ⟨a1, e_a1⟩ : ∃ z : Nat → Int32, z = upd q_pile q_top.toNatClampNeg p0 := ⟨_, rfl⟩
    have h := h a1 e_a1
    rw [← e_a1]
    refine EV.mask (ls' := [none, none]) rfl rfl ?_
    exact (ok_X7_lay_29 ) _ _ h
abbrev po_X7_takeFact (q_clauses : Int32) (q_tested : Int32) (p_bytes : Nat → Int32) (p_length : Int32) (p_at : Int32) (p_sign : Int32) (p_place : Int32) (p_number : Int32) (Q : (Int32) → (Int32) → (Int32) → (Nat → Int32) → (Int32) → (Nat → Int32) → (Int32) → (Int32) → (Int32) → (Int32) → Prop) : ax_E → Prop := fun out => ∃ (q_state' : Int32) (q_sum' : Int32) (q_values' : Int32) (q_code' : Nat → Int32) (q_length' : Int32) (q_pile' : Nat → Int32) (q_top' : Int32) (q_depth' : Int32) (q_open' : Int32) (p_fault' : Int32), out = (none, (w_qp (.ref 3) q_state' q_sum' q_clauses q_values' q_tested q_code' q_length' q_pile' q_top' q_depth' q_open' p_bytes p_length p_at p_sign p_place p_number p_fault'), [], 0) ∧ Q q_state' q_sum' q_values' q_code' q_length' q_pile' q_top' q_depth' q_open' p_fault'
theorem ok_X7_takeFact_106 {X : Nat × (Nat → Int32)} {N : Nat} {q_clauses : Int32} {q_tested : Int32} {p_bytes : Nat → Int32} {p_length : Int32} {p_at : Int32} {p_sign : Int32} {p_place : Int32} {p_number : Int32}  {Q : (Int32) → (Int32) → (Int32) → (Nat → Int32) → (Int32) → (Nat → Int32) → (Int32) → (Int32) → (Int32) → (Int32) → Prop}  : ∀ (q_state : Int32) (q_sum : Int32) (q_values : Int32) (q_code : Nat → Int32) (q_length : Int32) (q_pile : Nat → Int32) (q_top : Int32) (q_depth : Int32) (q_open : Int32) (p_fault : Int32), wp_X7_takeFact_106 N p_sign p_place p_number  Q  q_state q_sum q_values q_code q_length q_pile q_top q_depth q_open p_fault → EV (ax_GG X) m_X7_takeFact (po_X7_takeFact q_clauses q_tested p_bytes p_length p_at p_sign p_place p_number Q) (106, [none, none], [], (w_qp (.ref 3) q_state q_sum q_clauses q_values q_tested q_code q_length q_pile q_top q_depth q_open p_bytes p_length p_at p_sign p_place p_number p_fault), [], 0) := by
  intro q_state q_sum q_values q_code q_length q_pile q_top q_depth q_open p_fault h
  unfold wp_X7_takeFact_106 at h
  exact EV.ret rfl trivial ⟨_, _, _, _, _, _, _, _, _, _, rfl, h⟩
theorem ok_X7_takeFact_103 {X : Nat × (Nat → Int32)} {N : Nat} {q_clauses : Int32} {q_tested : Int32} {p_bytes : Nat → Int32} {p_length : Int32} {p_at : Int32} {p_sign : Int32} {p_place : Int32} {p_number : Int32} {K106 : (Int32) → (Int32) → (Int32) → (Nat → Int32) → (Int32) → (Nat → Int32) → (Int32) → (Int32) → (Int32) → (Int32) → Prop} {Q : (Int32) → (Int32) → (Int32) → (Nat → Int32) → (Int32) → (Nat → Int32) → (Int32) → (Int32) → (Int32) → (Int32) → Prop} (hK106 : ∀ (q_state : Int32) (q_sum : Int32) (q_values : Int32) (q_code : Nat → Int32) (q_length : Int32) (q_pile : Nat → Int32) (q_top : Int32) (q_depth : Int32) (q_open : Int32) (p_fault : Int32), K106 q_state q_sum q_values q_code q_length q_pile q_top q_depth q_open p_fault → EV (ax_GG X) m_X7_takeFact (po_X7_takeFact q_clauses q_tested p_bytes p_length p_at p_sign p_place p_number Q) (106, [none, none], [], (w_qp (.ref 3) q_state q_sum q_clauses q_values q_tested q_code q_length q_pile q_top q_depth q_open p_bytes p_length p_at p_sign p_place p_number p_fault), [], 0)) : ∀ (s0 : Int32) (q_state : Int32) (q_sum : Int32) (q_values : Int32) (q_code : Nat → Int32) (q_length : Int32) (q_pile : Nat → Int32) (q_top : Int32) (q_depth : Int32) (q_open : Int32) (p_fault : Int32), wp_X7_takeFact_103 N p_sign p_place p_number K106 Q  s0 q_state q_sum q_values q_code q_length q_pile q_top q_depth q_open p_fault → EV (ax_GG X) m_X7_takeFact (po_X7_takeFact q_clauses q_tested p_bytes p_length p_at p_sign p_place p_number Q) (103, [none, none], [.int s0, .ref 0], (w_qp (.ref 3) q_state q_sum q_clauses q_values q_tested q_code q_length q_pile q_top q_depth q_open p_bytes p_length p_at p_sign p_place p_number p_fault), [], 0) := by
  intro s0 q_state q_sum q_values q_code q_length q_pile q_top q_depth q_open p_fault h
  unfold wp_X7_takeFact_103 at h
  refine EV.call (M' := m_X7_lay) rfl rfl (Nat.le_of_ble_eq_true rfl) (em_X7_lay (q_state := q_state) (q_sum := q_sum) (q_clauses := q_clauses) (q_values := q_values) (q_tested := q_tested) (q_code := q_code) (q_length := q_length) (q_depth := q_depth) (q_open := q_open) (p_bytes := p_bytes) (p_length := p_length) (p_at := p_at) (p_sign := p_sign) (p_place := p_place) (p_number := p_number) (p_fault := p_fault) (q_pile := q_pile) (q_top := q_top) h) (fun out ho => ?_)
  obtain ⟨m8, m9, rfl, h⟩ := ho
  show EV _ _ _ (106, [none, none], [], (w_qp (.ref 3) q_state q_sum q_clauses q_values q_tested q_code q_length m8 m9 q_depth q_open p_bytes p_length p_at p_sign p_place p_number p_fault), [], 0)
  exact hK106 _ _ _ _ _ _ _ _ _ _ h
theorem ok_X7_takeFact_87 {X : Nat × (Nat → Int32)} {N : Nat} {q_clauses : Int32} {q_tested : Int32} {p_bytes : Nat → Int32} {p_length : Int32} {p_at : Int32} {p_sign : Int32} {p_place : Int32} {p_number : Int32} {K106 : (Int32) → (Int32) → (Int32) → (Nat → Int32) → (Int32) → (Nat → Int32) → (Int32) → (Int32) → (Int32) → (Int32) → Prop} {Q : (Int32) → (Int32) → (Int32) → (Nat → Int32) → (Int32) → (Nat → Int32) → (Int32) → (Int32) → (Int32) → (Int32) → Prop} (hK106 : ∀ (q_state : Int32) (q_sum : Int32) (q_values : Int32) (q_code : Nat → Int32) (q_length : Int32) (q_pile : Nat → Int32) (q_top : Int32) (q_depth : Int32) (q_open : Int32) (p_fault : Int32), K106 q_state q_sum q_values q_code q_length q_pile q_top q_depth q_open p_fault → EV (ax_GG X) m_X7_takeFact (po_X7_takeFact q_clauses q_tested p_bytes p_length p_at p_sign p_place p_number Q) (106, [none, none], [], (w_qp (.ref 3) q_state q_sum q_clauses q_values q_tested q_code q_length q_pile q_top q_depth q_open p_bytes p_length p_at p_sign p_place p_number p_fault), [], 0)) : ∀ (v1 : Int32) (s0 : Int32) (s1 : Int32) (q_state : Int32) (q_sum : Int32) (q_values : Int32) (q_code : Nat → Int32) (q_length : Int32) (q_pile : Nat → Int32) (q_top : Int32) (q_depth : Int32) (q_open : Int32) (p_fault : Int32), wp_X7_takeFact_87 N p_sign p_place p_number K106 Q  v1 s0 s1 q_state q_sum q_values q_code q_length q_pile q_top q_depth q_open p_fault → EV (ax_GG X) m_X7_takeFact (po_X7_takeFact q_clauses q_tested p_bytes p_length p_at p_sign p_place p_number Q) (87, [some (.ref 0), some (.int v1)], [.int s0, .int s1, .ref 0], (w_qp (.ref 3) q_state q_sum q_clauses q_values q_tested q_code q_length q_pile q_top q_depth q_open p_bytes p_length p_at p_sign p_place p_number p_fault), [], 0) := by
  intro v1 s0 s1 q_state q_sum q_values q_code q_length q_pile q_top q_depth q_open p_fault h
  unfold wp_X7_takeFact_87 at h
  refine EV.seg (c' := (93, [some (.ref 0), some (.int v1)], [.int v1, .ref 0], (w_qp (.ref 3) q_state q_sum q_clauses q_values q_tested q_code q_length q_pile q_top q_depth (s1 + s0) p_bytes p_length p_at p_sign p_place p_number p_fault), [], 0)) 4 rfl trivial ?_
  refine EV.br (c1 := (101, [some (.ref 0), some (.int v1)], [.ref 0], (w_qp (.ref 3) q_state q_sum q_clauses q_values q_tested q_code q_length q_pile q_top q_depth (s1 + s0) p_bytes p_length p_at p_sign p_place p_number p_fault), [], 0)) (c2 := (96, [some (.ref 0), some (.int v1)], [.ref 0], (w_qp (.ref 3) q_state q_sum q_clauses q_values q_tested q_code q_length q_pile q_top q_depth (s1 + s0) p_bytes p_length p_at p_sign p_place p_number p_fault), [], 0)) rfl (fun hc => ?_) (fun hc => ?_)
  · have h := h.1 hc
    refine EV.seg (c' := (103, [some (.ref 0), some (.int v1)], [.int (12 : Int32), .ref 0], (w_qp (.ref 3) q_state q_sum q_clauses q_values q_tested q_code q_length q_pile q_top q_depth (s1 + s0) p_bytes p_length p_at p_sign p_place p_number p_fault), [], 0)) 1 rfl trivial ?_
    refine EV.mask (ls' := [none, none]) rfl rfl ?_
    exact (ok_X7_takeFact_103 hK106) _ _ _ _ _ _ _ _ _ _ _ h
  · have h := h.2 hc
    refine EV.seg (c' := (103, [some (.ref 0), some (.int v1)], [.int (15 : Int32), .ref 0], (w_qp (.ref 3) q_state q_sum q_clauses q_values q_tested q_code q_length q_pile q_top q_depth (s1 + s0) p_bytes p_length p_at p_sign p_place p_number p_fault), [], 0)) 2 rfl trivial ?_
    refine EV.mask (ls' := [none, none]) rfl rfl ?_
    exact (ok_X7_takeFact_103 hK106) _ _ _ _ _ _ _ _ _ _ _ h
theorem ok_X7_takeFact_43 {X : Nat × (Nat → Int32)} {N : Nat} {q_clauses : Int32} {q_tested : Int32} {p_bytes : Nat → Int32} {p_length : Int32} {p_at : Int32} {p_sign : Int32} {p_place : Int32} {p_number : Int32} {K106 : (Int32) → (Int32) → (Int32) → (Nat → Int32) → (Int32) → (Nat → Int32) → (Int32) → (Int32) → (Int32) → (Int32) → Prop} {Q : (Int32) → (Int32) → (Int32) → (Nat → Int32) → (Int32) → (Nat → Int32) → (Int32) → (Int32) → (Int32) → (Int32) → Prop} (hK106 : ∀ (q_state : Int32) (q_sum : Int32) (q_values : Int32) (q_code : Nat → Int32) (q_length : Int32) (q_pile : Nat → Int32) (q_top : Int32) (q_depth : Int32) (q_open : Int32) (p_fault : Int32), K106 q_state q_sum q_values q_code q_length q_pile q_top q_depth q_open p_fault → EV (ax_GG X) m_X7_takeFact (po_X7_takeFact q_clauses q_tested p_bytes p_length p_at p_sign p_place p_number Q) (106, [none, none], [], (w_qp (.ref 3) q_state q_sum q_clauses q_values q_tested q_code q_length q_pile q_top q_depth q_open p_bytes p_length p_at p_sign p_place p_number p_fault), [], 0)) : ∀ (v1 : Int32) (q_state : Int32) (q_sum : Int32) (q_values : Int32) (q_code : Nat → Int32) (q_length : Int32) (q_pile : Nat → Int32) (q_top : Int32) (q_depth : Int32) (q_open : Int32) (p_fault : Int32), wp_X7_takeFact_43 N p_sign p_place p_number K106 Q  v1 q_state q_sum q_values q_code q_length q_pile q_top q_depth q_open p_fault → EV (ax_GG X) m_X7_takeFact (po_X7_takeFact q_clauses q_tested p_bytes p_length p_at p_sign p_place p_number Q) (43, [some (.ref 0), some (.int v1)], [], (w_qp (.ref 3) q_state q_sum q_clauses q_values q_tested q_code q_length q_pile q_top q_depth q_open p_bytes p_length p_at p_sign p_place p_number p_fault), [], 0) := by
  intro v1 q_state q_sum q_values q_code q_length q_pile q_top q_depth q_open p_fault h
  unfold wp_X7_takeFact_43 at h
  refine EV.seg (c' := (49, [some (.ref 0), some (.int v1)], [.int (10 : Int32), .int q_depth], (w_qp (.ref 3) q_state q_sum q_clauses q_values q_tested q_code q_length q_pile q_top q_depth q_open p_bytes p_length p_at p_sign p_place p_number p_fault), [], 0)) 3 rfl trivial ?_
  refine EV.br (c1 := (63, [some (.ref 0), some (.int v1)], [], (w_qp (.ref 3) q_state q_sum q_clauses q_values q_tested q_code q_length q_pile q_top q_depth q_open p_bytes p_length p_at p_sign p_place p_number p_fault), [], 0)) (c2 := (52, [some (.ref 0), some (.int v1)], [], (w_qp (.ref 3) q_state q_sum q_clauses q_values q_tested q_code q_length q_pile q_top q_depth q_open p_bytes p_length p_at p_sign p_place p_number p_fault), [], 0)) rfl (fun hc => ?_) (fun hc => ?_)
  · have h := h.1 hc
    refine EV.seg (c' := (79, [some (.ref 0), some (.int v1)], [.int v1, .int q_open, .ref 0], (w_qp (.ref 3) q_state q_sum q_clauses q_values q_tested q_code q_length q_pile q_top (q_depth + (1 : Int32)) q_open p_bytes p_length p_at p_sign p_place p_number p_fault), [], 0)) 10 rfl trivial ?_
    refine EV.br (c1 := (86, [some (.ref 0), some (.int v1)], [.int q_open, .ref 0], (w_qp (.ref 3) q_state q_sum q_clauses q_values q_tested q_code q_length q_pile q_top (q_depth + (1 : Int32)) q_open p_bytes p_length p_at p_sign p_place p_number p_fault), [], 0)) (c2 := (82, [some (.ref 0), some (.int v1)], [.int q_open, .ref 0], (w_qp (.ref 3) q_state q_sum q_clauses q_values q_tested q_code q_length q_pile q_top (q_depth + (1 : Int32)) q_open p_bytes p_length p_at p_sign p_place p_number p_fault), [], 0)) rfl (fun hc => ?_) (fun hc => ?_)
    · have h := h.1 hc
      refine EV.seg (c' := (87, [some (.ref 0), some (.int v1)], [.int (0 : Int32), .int q_open, .ref 0], (w_qp (.ref 3) q_state q_sum q_clauses q_values q_tested q_code q_length q_pile q_top (q_depth + (1 : Int32)) q_open p_bytes p_length p_at p_sign p_place p_number p_fault), [], 0)) 1 rfl trivial ?_
      exact (ok_X7_takeFact_87 hK106) _ _ _ _ _ _ _ _ _ _ _ _ _ h
    · have h := h.2 hc
      refine EV.seg (c' := (87, [some (.ref 0), some (.int v1)], [.int (1 : Int32), .int q_open, .ref 0], (w_qp (.ref 3) q_state q_sum q_clauses q_values q_tested q_code q_length q_pile q_top (q_depth + (1 : Int32)) q_open p_bytes p_length p_at p_sign p_place p_number p_fault), [], 0)) 2 rfl trivial ?_
      exact (ok_X7_takeFact_87 hK106) _ _ _ _ _ _ _ _ _ _ _ _ _ h
  · have h := h.2 hc
    refine EV.seg (c' := (57, [some (.ref 0), some (.int v1)], [.int (2 : Int32), .ref 3], (w_qp (.ref 3) q_state q_sum q_clauses q_values q_tested q_code q_length q_pile q_top q_depth q_open p_bytes p_length p_at p_sign p_place p_number p_fault), [], 0)) 3 rfl trivial ?_
    refine EV.callL (M' := m_X9_fail) (L := [3, 4]) rfl rfl ⟨rfl, Nat.le_of_ble_eq_true rfl⟩ rfl rfl (em_X9_fail (p_bytes := p_bytes) (p_length := p_length) (p_at := p_at) (p_sign := p_sign) (p_place := p_place) (p_number := p_number) (p_fault := p_fault) h) (fun out ho => ?_)
    obtain ⟨m7, rfl, h⟩ := ho
    show EV _ _ _ (60, [some (.ref 0), some (.int v1)], [], (w_qp (.ref 3) q_state q_sum q_clauses q_values q_tested q_code q_length q_pile q_top q_depth q_open p_bytes p_length p_at p_sign p_place p_number m7), [], 0)
    refine EV.seg (c' := (106, [some (.ref 0), some (.int v1)], [], (w_qp (.ref 3) q_state q_sum q_clauses q_values q_tested q_code q_length q_pile q_top q_depth q_open p_bytes p_length p_at p_sign p_place p_number m7), [], 0)) 1 rfl trivial ?_
    refine EV.mask (ls' := [none, none]) rfl rfl ?_
    exact hK106 _ _ _ _ _ _ _ _ _ _ h
theorem ok_X7_takeFact_17 {X : Nat × (Nat → Int32)} {N : Nat} {q_clauses : Int32} {q_tested : Int32} {p_bytes : Nat → Int32} {p_length : Int32} {p_at : Int32} {p_sign : Int32} {p_place : Int32} {p_number : Int32}  {Q : (Int32) → (Int32) → (Int32) → (Nat → Int32) → (Int32) → (Nat → Int32) → (Int32) → (Int32) → (Int32) → (Int32) → Prop}  : ∀ (s0 : Int32) (q_state : Int32) (q_sum : Int32) (q_values : Int32) (q_code : Nat → Int32) (q_length : Int32) (q_pile : Nat → Int32) (q_top : Int32) (q_depth : Int32) (q_open : Int32) (p_fault : Int32), wp_X7_takeFact_17 N p_sign p_place p_number  Q  s0 q_state q_sum q_values q_code q_length q_pile q_top q_depth q_open p_fault → EV (ax_GG X) m_X7_takeFact (po_X7_takeFact q_clauses q_tested p_bytes p_length p_at p_sign p_place p_number Q) (17, [some (.ref 0), none], [.int s0], (w_qp (.ref 3) q_state q_sum q_clauses q_values q_tested q_code q_length q_pile q_top q_depth q_open p_bytes p_length p_at p_sign p_place p_number p_fault), [], 0) := by
  intro s0 q_state q_sum q_values q_code q_length q_pile q_top q_depth q_open p_fault h
  unfold wp_X7_takeFact_17 at h
  refine EV.seg (c' := (19, [some (.ref 0), some (.int s0)], [.int s0], (w_qp (.ref 3) q_state q_sum q_clauses q_values q_tested q_code q_length q_pile q_top q_depth q_open p_bytes p_length p_at p_sign p_place p_number p_fault), [], 0)) 2 rfl trivial ?_
  refine EV.br (c1 := (22, [some (.ref 0), some (.int s0)], [], (w_qp (.ref 3) q_state q_sum q_clauses q_values q_tested q_code q_length q_pile q_top q_depth q_open p_bytes p_length p_at p_sign p_place p_number p_fault), [], 0)) (c2 := (43, [some (.ref 0), some (.int s0)], [], (w_qp (.ref 3) q_state q_sum q_clauses q_values q_tested q_code q_length q_pile q_top q_depth q_open p_bytes p_length p_at p_sign p_place p_number p_fault), [], 0)) rfl (fun hc => ?_) (fun hc => ?_)
  · have h := h.1 hc
    refine EV.seg (c' := (25, [some (.ref 0), some (.int s0)], [.int (11 : Int32), .ref 0], (w_qp (.ref 3) q_state q_sum q_clauses q_values q_tested q_code q_length q_pile q_top q_depth q_open p_bytes p_length p_at p_sign p_place p_number p_fault), [], 0)) 2 rfl trivial ?_
    refine EV.call (M' := m_X7_isWord) rfl rfl (Nat.le_of_ble_eq_true rfl) (em_X7_isWord (q_state := q_state) (q_sum := q_sum) (q_clauses := q_clauses) (q_values := q_values) (q_tested := q_tested) (q_code := q_code) (q_length := q_length) (q_pile := q_pile) (q_top := q_top) (q_depth := q_depth) (q_open := q_open) (p_bytes := p_bytes) (p_length := p_length) (p_at := p_at) (p_sign := p_sign) (p_place := p_place) (p_number := p_number) (p_fault := p_fault)  h) (fun out ho => ?_)
    obtain ⟨r1, rfl, h⟩ := ho
    show EV _ _ _ (28, [some (.ref 0), some (.int s0)], [.int r1], (w_qp (.ref 3) q_state q_sum q_clauses q_values q_tested q_code q_length q_pile q_top q_depth q_open p_bytes p_length p_at p_sign p_place p_number p_fault), [], 0)
    refine EV.br (c1 := (31, [some (.ref 0), some (.int s0)], [], (w_qp (.ref 3) q_state q_sum q_clauses q_values q_tested q_code q_length q_pile q_top q_depth q_open p_bytes p_length p_at p_sign p_place p_number p_fault), [], 0)) (c2 := (43, [some (.ref 0), some (.int s0)], [], (w_qp (.ref 3) q_state q_sum q_clauses q_values q_tested q_code q_length q_pile q_top q_depth q_open p_bytes p_length p_at p_sign p_place p_number p_fault), [], 0)) rfl (fun hc => ?_) (fun hc => ?_)
    · have h := h.1 hc
      refine EV.seg (c' := (37, [some (.ref 0), some (.int s0)], [.ref 0], (w_qp (.ref 3) q_state (1 : Int32) q_clauses q_values q_tested q_code q_length q_pile q_top q_depth q_open p_bytes p_length p_at p_sign p_place p_number p_fault), [], 0)) 4 rfl trivial ?_
      refine EV.call (M' := m_X7_takeValue) rfl rfl (Nat.le_of_ble_eq_true rfl) (em_X7_takeValue (q_sum := (1 : Int32)) (q_clauses := q_clauses) (q_tested := q_tested) (q_pile := q_pile) (q_top := q_top) (q_depth := q_depth) (q_open := q_open) (p_bytes := p_bytes) (p_length := p_length) (p_at := p_at) (p_sign := p_sign) (p_place := p_place) (p_number := p_number) (q_state := q_state) (q_values := q_values) (q_code := q_code) (q_length := q_length) (p_fault := p_fault) h) (fun out ho => ?_)
      obtain ⟨m2, m3, m4, m5, m6, rfl, h⟩ := ho
      show EV _ _ _ (40, [some (.ref 0), some (.int s0)], [], (w_qp (.ref 3) m2 (1 : Int32) q_clauses m3 q_tested m4 m5 q_pile q_top q_depth q_open p_bytes p_length p_at p_sign p_place p_number m6), [], 0)
      refine EV.seg (c' := (106, [some (.ref 0), some (.int s0)], [], (w_qp (.ref 3) m2 (1 : Int32) q_clauses m3 q_tested m4 m5 q_pile q_top q_depth q_open p_bytes p_length p_at p_sign p_place p_number m6), [], 0)) 1 rfl trivial ?_
      refine EV.mask (ls' := [none, none]) rfl rfl ?_
      exact (ok_X7_takeFact_106 ) _ _ _ _ _ _ _ _ _ _ h
    · have h := h.2 hc
      exact (ok_X7_takeFact_43 (ok_X7_takeFact_106 )) _ _ _ _ _ _ _ _ _ _ _ h
  · have h := h.2 hc
    exact (ok_X7_takeFact_43 (ok_X7_takeFact_106 )) _ _ _ _ _ _ _ _ _ _ _ h
theorem em_X7_takeFact {X : Nat × (Nat → Int32)} {N : Nat} {q_clauses : Int32} {q_tested : Int32} {p_bytes : Nat → Int32} {p_length : Int32} {p_at : Int32} {p_sign : Int32} {p_place : Int32} {p_number : Int32} {q_state : Int32} {q_sum : Int32} {q_values : Int32} {q_code : Nat → Int32} {q_length : Int32} {q_pile : Nat → Int32} {q_top : Int32} {q_depth : Int32} {q_open : Int32} {p_fault : Int32} {Q : (Int32) → (Int32) → (Int32) → (Nat → Int32) → (Int32) → (Nat → Int32) → (Int32) → (Int32) → (Int32) → (Int32) → Prop} (h : wp_X7_takeFact N p_sign p_place p_number Q q_state q_sum q_values q_code q_length q_pile q_top q_depth q_open p_fault) : EM (ax_GG X) m_X7_takeFact [.ref 0] (w_qp (.ref 3) q_state q_sum q_clauses q_values q_tested q_code q_length q_pile q_top q_depth q_open p_bytes p_length p_at p_sign p_place p_number p_fault) (po_X7_takeFact q_clauses q_tested p_bytes p_length p_at p_sign p_place p_number Q) := by
  unfold wp_X7_takeFact at h
  show EV _ _ _ (0, [some (.ref 0), none], [], (w_qp (.ref 3) q_state q_sum q_clauses q_values q_tested q_code q_length q_pile q_top q_depth q_open p_bytes p_length p_at p_sign p_place p_number p_fault), [], 0)
  refine EV.seg (c' := (9, [some (.ref 0), none], [.int (91 : Int32), .int p_sign], (w_qp (.ref 3) q_state q_sum q_clauses q_values q_tested q_code q_length q_pile q_top q_depth q_open p_bytes p_length p_at p_sign p_place p_number p_fault), [], 0)) 4 rfl trivial ?_
  refine EV.br (c1 := (12, [some (.ref 0), none], [], (w_qp (.ref 3) q_state q_sum q_clauses q_values q_tested q_code q_length q_pile q_top q_depth q_open p_bytes p_length p_at p_sign p_place p_number p_fault), [], 0)) (c2 := (16, [some (.ref 0), none], [], (w_qp (.ref 3) q_state q_sum q_clauses q_values q_tested q_code q_length q_pile q_top q_depth q_open p_bytes p_length p_at p_sign p_place p_number p_fault), [], 0)) rfl (fun hc => ?_) (fun hc => ?_)
  · have h := h.1 hc
    refine EV.seg (c' := (17, [some (.ref 0), none], [.int (1 : Int32)], (w_qp (.ref 3) q_state q_sum q_clauses q_values q_tested q_code q_length q_pile q_top q_depth q_open p_bytes p_length p_at p_sign p_place p_number p_fault), [], 0)) 2 rfl trivial ?_
    exact (ok_X7_takeFact_17 ) _ _ _ _ _ _ _ _ _ _ _ h
  · have h := h.2 hc
    refine EV.seg (c' := (17, [some (.ref 0), none], [.int (0 : Int32)], (w_qp (.ref 3) q_state q_sum q_clauses q_values q_tested q_code q_length q_pile q_top q_depth q_open p_bytes p_length p_at p_sign p_place p_number p_fault), [], 0)) 1 rfl trivial ?_
    exact (ok_X7_takeFact_17 ) _ _ _ _ _ _ _ _ _ _ _ h
abbrev po_X7_workOf (w0 : ax_W) (Q : Int32 → Prop) : ax_E → Prop := fun out => ∃ (r : Int32), out = (some (.int r), w0, [], 0) ∧ Q r
theorem em_X7_workOf {X : Nat × (Nat → Int32)} {N : Nat} {w0 : ax_W} {p0 : Int32} {Q : Int32 → Prop} (h : wp_X7_workOf N  Q p0) : EM (ax_GG X) m_X7_workOf [.int p0] w0 (po_X7_workOf w0 Q) := by
  unfold wp_X7_workOf at h
  show EV _ _ _ (0, [some (.int p0)], [], w0, [], 0)
  refine EV.seg (c' := (1, [some (.int p0)], [.int p0], w0, [], 0)) 1 rfl trivial ?_
  refine EV.sw rfl ?_
  show EV _ _ _ (ax_ch [(p0 = 37, (64, [some (.int p0)], [], w0, [], 0)), (p0 = 38, (71, [some (.int p0)], [], w0, [], 0)), (p0 = 39, (71, [some (.int p0)], [], w0, [], 0)), (p0 = 40, (71, [some (.int p0)], [], w0, [], 0)), (p0 = 41, (71, [some (.int p0)], [], w0, [], 0)), (p0 = 42, (60, [some (.int p0)], [], w0, [], 0)), (p0 = 43, (66, [some (.int p0)], [], w0, [], 0)), (p0 = 44, (71, [some (.int p0)], [], w0, [], 0)), (p0 = 45, (68, [some (.int p0)], [], w0, [], 0)), (p0 = 46, (71, [some (.int p0)], [], w0, [], 0)), (p0 = 47, (62, [some (.int p0)], [], w0, [], 0))] (71, [some (.int p0)], [], w0, [], 0))
  refine EV.ch (fun hc => ?_) (fun hc => ?_)
  · have h := h.1 hc
    refine EV.seg (c' := (65, [some (.int p0)], [.int (4 : Int32)], w0, [], 0)) 1 rfl trivial ?_
    exact EV.ret rfl trivial ⟨_, rfl, h⟩
  have h := h.2 hc
  refine EV.ch (fun hc => ?_) (fun hc => ?_)
  · have h := h.1 hc
    refine EV.seg (c' := (73, [some (.int p0)], [.int (18 : Int32)], w0, [], 0)) 1 rfl trivial ?_
    exact EV.ret rfl trivial ⟨_, rfl, h⟩
  have h := h.2 hc
  refine EV.ch (fun hc => ?_) (fun hc => ?_)
  · have h := h.1 hc
    refine EV.seg (c' := (73, [some (.int p0)], [.int (18 : Int32)], w0, [], 0)) 1 rfl trivial ?_
    exact EV.ret rfl trivial ⟨_, rfl, h⟩
  have h := h.2 hc
  refine EV.ch (fun hc => ?_) (fun hc => ?_)
  · have h := h.1 hc
    refine EV.seg (c' := (73, [some (.int p0)], [.int (18 : Int32)], w0, [], 0)) 1 rfl trivial ?_
    exact EV.ret rfl trivial ⟨_, rfl, h⟩
  have h := h.2 hc
  refine EV.ch (fun hc => ?_) (fun hc => ?_)
  · have h := h.1 hc
    refine EV.seg (c' := (73, [some (.int p0)], [.int (18 : Int32)], w0, [], 0)) 1 rfl trivial ?_
    exact EV.ret rfl trivial ⟨_, rfl, h⟩
  have h := h.2 hc
  refine EV.ch (fun hc => ?_) (fun hc => ?_)
  · have h := h.1 hc
    refine EV.seg (c' := (61, [some (.int p0)], [.int (2 : Int32)], w0, [], 0)) 1 rfl trivial ?_
    exact EV.ret rfl trivial ⟨_, rfl, h⟩
  have h := h.2 hc
  refine EV.ch (fun hc => ?_) (fun hc => ?_)
  · have h := h.1 hc
    refine EV.seg (c' := (67, [some (.int p0)], [.int (5 : Int32)], w0, [], 0)) 1 rfl trivial ?_
    exact EV.ret rfl trivial ⟨_, rfl, h⟩
  have h := h.2 hc
  refine EV.ch (fun hc => ?_) (fun hc => ?_)
  · have h := h.1 hc
    refine EV.seg (c' := (73, [some (.int p0)], [.int (18 : Int32)], w0, [], 0)) 1 rfl trivial ?_
    exact EV.ret rfl trivial ⟨_, rfl, h⟩
  have h := h.2 hc
  refine EV.ch (fun hc => ?_) (fun hc => ?_)
  · have h := h.1 hc
    refine EV.seg (c' := (70, [some (.int p0)], [.int (6 : Int32)], w0, [], 0)) 1 rfl trivial ?_
    exact EV.ret rfl trivial ⟨_, rfl, h⟩
  have h := h.2 hc
  refine EV.ch (fun hc => ?_) (fun hc => ?_)
  · have h := h.1 hc
    refine EV.seg (c' := (73, [some (.int p0)], [.int (18 : Int32)], w0, [], 0)) 1 rfl trivial ?_
    exact EV.ret rfl trivial ⟨_, rfl, h⟩
  have h := h.2 hc
  refine EV.ch (fun hc => ?_) (fun hc => ?_)
  · have h := h.1 hc
    refine EV.seg (c' := (63, [some (.int p0)], [.int (3 : Int32)], w0, [], 0)) 1 rfl trivial ?_
    exact EV.ret rfl trivial ⟨_, rfl, h⟩
  have h := h.2 hc
  refine EV.seg (c' := (73, [some (.int p0)], [.int (18 : Int32)], w0, [], 0)) 1 rfl trivial ?_
  exact EV.ret rfl trivial ⟨_, rfl, h⟩
abbrev po_X7_comparisonOf (w0 : ax_W) (Q : Int32 → Prop) : ax_E → Prop := fun out => ∃ (r : Int32), out = (some (.int r), w0, [], 0) ∧ Q r
theorem em_X7_comparisonOf {X : Nat × (Nat → Int32)} {N : Nat} {w0 : ax_W} {p0 : Int32} {Q : Int32 → Prop} (h : wp_X7_comparisonOf N  Q p0) : EM (ax_GG X) m_X7_comparisonOf [.int p0] w0 (po_X7_comparisonOf w0 Q) := by
  unfold wp_X7_comparisonOf at h
  show EV _ _ _ (0, [some (.int p0)], [], w0, [], 0)
  refine EV.seg (c' := (1, [some (.int p0)], [.int p0], w0, [], 0)) 1 rfl trivial ?_
  refine EV.sw rfl ?_
  show EV _ _ _ (ax_ch [(p0 = 60, (52, [some (.int p0)], [], w0, [], 0)), (p0 = 61, (58, [some (.int p0)], [], w0, [], 0)), (p0 = 62, (64, [some (.int p0)], [], w0, [], 0)), (p0 = 258, (55, [some (.int p0)], [], w0, [], 0)), (p0 = 259, (61, [some (.int p0)], [], w0, [], 0))] (67, [some (.int p0)], [], w0, [], 0))
  refine EV.ch (fun hc => ?_) (fun hc => ?_)
  · have h := h.1 hc
    refine EV.seg (c' := (54, [some (.int p0)], [.int (7 : Int32)], w0, [], 0)) 1 rfl trivial ?_
    exact EV.ret rfl trivial ⟨_, rfl, h⟩
  have h := h.2 hc
  refine EV.ch (fun hc => ?_) (fun hc => ?_)
  · have h := h.1 hc
    refine EV.seg (c' := (60, [some (.int p0)], [.int (9 : Int32)], w0, [], 0)) 1 rfl trivial ?_
    exact EV.ret rfl trivial ⟨_, rfl, h⟩
  have h := h.2 hc
  refine EV.ch (fun hc => ?_) (fun hc => ?_)
  · have h := h.1 hc
    refine EV.seg (c' := (66, [some (.int p0)], [.int (11 : Int32)], w0, [], 0)) 1 rfl trivial ?_
    exact EV.ret rfl trivial ⟨_, rfl, h⟩
  have h := h.2 hc
  refine EV.ch (fun hc => ?_) (fun hc => ?_)
  · have h := h.1 hc
    refine EV.seg (c' := (57, [some (.int p0)], [.int (8 : Int32)], w0, [], 0)) 1 rfl trivial ?_
    exact EV.ret rfl trivial ⟨_, rfl, h⟩
  have h := h.2 hc
  refine EV.ch (fun hc => ?_) (fun hc => ?_)
  · have h := h.1 hc
    refine EV.seg (c' := (63, [some (.int p0)], [.int (10 : Int32)], w0, [], 0)) 1 rfl trivial ?_
    exact EV.ret rfl trivial ⟨_, rfl, h⟩
  have h := h.2 hc
  refine EV.seg (c' := (69, [some (.int p0)], [.int (18 : Int32)], w0, [], 0)) 1 rfl trivial ?_
  exact EV.ret rfl trivial ⟨_, rfl, h⟩
abbrev po_X7_takeFromPile (q_state : Int32) (q_sum : Int32) (q_clauses : Int32) (q_values : Int32) (q_tested : Int32) (q_code : Nat → Int32) (q_length : Int32) (q_pile : Nat → Int32) (p_bytes : Nat → Int32) (p_length : Int32) (p_at : Int32) (p_sign : Int32) (p_place : Int32) (p_number : Int32) (p_fault : Int32) (Q : Int32 → (Int32) → (Int32) → (Int32) → Prop) : ax_E → Prop := fun out => ∃ (r : Int32) (q_top' : Int32) (q_depth' : Int32) (q_open' : Int32), out = (some (.int r), (w_qp (.ref 3) q_state q_sum q_clauses q_values q_tested q_code q_length q_pile q_top' q_depth' q_open' p_bytes p_length p_at p_sign p_place p_number p_fault), [], 0) ∧ Q r q_top' q_depth' q_open'
theorem ok_X7_takeFromPile_72 {X : Nat × (Nat → Int32)} {N : Nat} {q_state : Int32} {q_sum : Int32} {q_clauses : Int32} {q_values : Int32} {q_tested : Int32} {q_code : Nat → Int32} {q_length : Int32} {q_pile : Nat → Int32} {p_bytes : Nat → Int32} {p_length : Int32} {p_at : Int32} {p_sign : Int32} {p_place : Int32} {p_number : Int32} {p_fault : Int32}  {Q : Int32 → (Int32) → (Int32) → (Int32) → Prop}  : ∀ (v1 : Int32) (q_top : Int32) (q_depth : Int32) (q_open : Int32), wp_X7_takeFromPile_72 N q_pile  Q  v1 q_top q_depth q_open → EV (ax_GG X) m_X7_takeFromPile (po_X7_takeFromPile q_state q_sum q_clauses q_values q_tested q_code q_length q_pile p_bytes p_length p_at p_sign p_place p_number p_fault Q) (72, [none, some (.int v1)], [], (w_qp (.ref 3) q_state q_sum q_clauses q_values q_tested q_code q_length q_pile q_top q_depth q_open p_bytes p_length p_at p_sign p_place p_number p_fault), [], 0) := by
  intro v1 q_top q_depth q_open h
  unfold wp_X7_takeFromPile_72 at h
  refine EV.seg (c' := (73, [none, some (.int v1)], [.int v1], (w_qp (.ref 3) q_state q_sum q_clauses q_values q_tested q_code q_length q_pile q_top q_depth q_open p_bytes p_length p_at p_sign p_place p_number p_fault), [], 0)) 1 rfl trivial ?_
  exact EV.ret rfl trivial ⟨_, _, _, _, rfl, h⟩
theorem ok_X7_takeFromPile_68 {X : Nat × (Nat → Int32)} {N : Nat} {q_state : Int32} {q_sum : Int32} {q_clauses : Int32} {q_values : Int32} {q_tested : Int32} {q_code : Nat → Int32} {q_length : Int32} {q_pile : Nat → Int32} {p_bytes : Nat → Int32} {p_length : Int32} {p_at : Int32} {p_sign : Int32} {p_place : Int32} {p_number : Int32} {p_fault : Int32} {K72 : (Int32) → (Int32) → (Int32) → (Int32) → Prop} {Q : Int32 → (Int32) → (Int32) → (Int32) → Prop} (hK72 : ∀ (v1 : Int32) (q_top : Int32) (q_depth : Int32) (q_open : Int32), K72 v1 q_top q_depth q_open → EV (ax_GG X) m_X7_takeFromPile (po_X7_takeFromPile q_state q_sum q_clauses q_values q_tested q_code q_length q_pile p_bytes p_length p_at p_sign p_place p_number p_fault Q) (72, [none, some (.int v1)], [], (w_qp (.ref 3) q_state q_sum q_clauses q_values q_tested q_code q_length q_pile q_top q_depth q_open p_bytes p_length p_at p_sign p_place p_number p_fault), [], 0)) : ∀ (v1 : Int32) (s0 : Int32) (s1 : Int32) (q_top : Int32) (q_depth : Int32) (q_open : Int32), wp_X7_takeFromPile_68 N q_pile K72 Q  v1 s0 s1 q_top q_depth q_open → EV (ax_GG X) m_X7_takeFromPile (po_X7_takeFromPile q_state q_sum q_clauses q_values q_tested q_code q_length q_pile p_bytes p_length p_at p_sign p_place p_number p_fault Q) (68, [none, some (.int v1)], [.int s0, .int s1, .ref 0], (w_qp (.ref 3) q_state q_sum q_clauses q_values q_tested q_code q_length q_pile q_top q_depth q_open p_bytes p_length p_at p_sign p_place p_number p_fault), [], 0) := by
  intro v1 s0 s1 q_top q_depth q_open h
  unfold wp_X7_takeFromPile_68 at h
  refine EV.seg (c' := (72, [none, some (.int v1)], [], (w_qp (.ref 3) q_state q_sum q_clauses q_values q_tested q_code q_length q_pile q_top q_depth (s1 - s0) p_bytes p_length p_at p_sign p_place p_number p_fault), [], 0)) 2 rfl trivial ?_
  exact hK72 _ _ _ _ h
theorem ok_X7_takeFromPile_42 {X : Nat × (Nat → Int32)} {N : Nat} {q_state : Int32} {q_sum : Int32} {q_clauses : Int32} {q_values : Int32} {q_tested : Int32} {q_code : Nat → Int32} {q_length : Int32} {q_pile : Nat → Int32} {p_bytes : Nat → Int32} {p_length : Int32} {p_at : Int32} {p_sign : Int32} {p_place : Int32} {p_number : Int32} {p_fault : Int32} {K72 : (Int32) → (Int32) → (Int32) → (Int32) → Prop} {Q : Int32 → (Int32) → (Int32) → (Int32) → Prop} (hK72 : ∀ (v1 : Int32) (q_top : Int32) (q_depth : Int32) (q_open : Int32), K72 v1 q_top q_depth q_open → EV (ax_GG X) m_X7_takeFromPile (po_X7_takeFromPile q_state q_sum q_clauses q_values q_tested q_code q_length q_pile p_bytes p_length p_at p_sign p_place p_number p_fault Q) (72, [none, some (.int v1)], [], (w_qp (.ref 3) q_state q_sum q_clauses q_values q_tested q_code q_length q_pile q_top q_depth q_open p_bytes p_length p_at p_sign p_place p_number p_fault), [], 0)) : ∀ (v1 : Int32) (q_top : Int32) (q_depth : Int32) (q_open : Int32), wp_X7_takeFromPile_42 N q_pile K72 Q  v1 q_top q_depth q_open → EV (ax_GG X) m_X7_takeFromPile (po_X7_takeFromPile q_state q_sum q_clauses q_values q_tested q_code q_length q_pile p_bytes p_length p_at p_sign p_place p_number p_fault Q) (42, [some (.ref 0), some (.int v1)], [], (w_qp (.ref 3) q_state q_sum q_clauses q_values q_tested q_code q_length q_pile q_top q_depth q_open p_bytes p_length p_at p_sign p_place p_number p_fault), [], 0) := by
  intro v1 q_top q_depth q_open h
  unfold wp_X7_takeFromPile_42 at h
  refine EV.seg (c' := (60, [some (.ref 0), some (.int v1)], [.int (15 : Int32), .int v1, .int q_open, .ref 0], (w_qp (.ref 3) q_state q_sum q_clauses q_values q_tested q_code q_length q_pile q_top (q_depth - (1 : Int32)) q_open p_bytes p_length p_at p_sign p_place p_number p_fault), [], 0)) 11 rfl trivial ?_
  refine EV.br (c1 := (63, [some (.ref 0), some (.int v1)], [.int q_open, .ref 0], (w_qp (.ref 3) q_state q_sum q_clauses q_values q_tested q_code q_length q_pile q_top (q_depth - (1 : Int32)) q_open p_bytes p_length p_at p_sign p_place p_number p_fault), [], 0)) (c2 := (67, [some (.ref 0), some (.int v1)], [.int q_open, .ref 0], (w_qp (.ref 3) q_state q_sum q_clauses q_values q_tested q_code q_length q_pile q_top (q_depth - (1 : Int32)) q_open p_bytes p_length p_at p_sign p_place p_number p_fault), [], 0)) rfl (fun hc => ?_) (fun hc => ?_)
  · have h := h.1 hc
    refine EV.seg (c' := (68, [some (.ref 0), some (.int v1)], [.int (1 : Int32), .int q_open, .ref 0], (w_qp (.ref 3) q_state q_sum q_clauses q_values q_tested q_code q_length q_pile q_top (q_depth - (1 : Int32)) q_open p_bytes p_length p_at p_sign p_place p_number p_fault), [], 0)) 2 rfl trivial ?_
    refine EV.mask (ls' := [none, some (.int v1)]) rfl rfl ?_
    exact (ok_X7_takeFromPile_68 hK72) _ _ _ _ _ _ h
  · have h := h.2 hc
    refine EV.seg (c' := (68, [some (.ref 0), some (.int v1)], [.int (0 : Int32), .int q_open, .ref 0], (w_qp (.ref 3) q_state q_sum q_clauses q_values q_tested q_code q_length q_pile q_top (q_depth - (1 : Int32)) q_open p_bytes p_length p_at p_sign p_place p_number p_fault), [], 0)) 1 rfl trivial ?_
    refine EV.mask (ls' := [none, some (.int v1)]) rfl rfl ?_
    exact (ok_X7_takeFromPile_68 hK72) _ _ _ _ _ _ h
theorem em_X7_takeFromPile {X : Nat × (Nat → Int32)} {N : Nat} {q_state : Int32} {q_sum : Int32} {q_clauses : Int32} {q_values : Int32} {q_tested : Int32} {q_code : Nat → Int32} {q_length : Int32} {q_pile : Nat → Int32} {p_bytes : Nat → Int32} {p_length : Int32} {p_at : Int32} {p_sign : Int32} {p_place : Int32} {p_number : Int32} {p_fault : Int32} {q_top : Int32} {q_depth : Int32} {q_open : Int32} {Q : Int32 → (Int32) → (Int32) → (Int32) → Prop} (h : wp_X7_takeFromPile N q_pile Q q_top q_depth q_open) : EM (ax_GG X) m_X7_takeFromPile [.ref 0] (w_qp (.ref 3) q_state q_sum q_clauses q_values q_tested q_code q_length q_pile q_top q_depth q_open p_bytes p_length p_at p_sign p_place p_number p_fault) (po_X7_takeFromPile q_state q_sum q_clauses q_values q_tested q_code q_length q_pile p_bytes p_length p_at p_sign p_place p_number p_fault Q) := by
  unfold wp_X7_takeFromPile at h
  show EV _ _ _ (0, [some (.ref 0), none], [], (w_qp (.ref 3) q_state q_sum q_clauses q_values q_tested q_code q_length q_pile q_top q_depth q_open p_bytes p_length p_at p_sign p_place p_number p_fault), [], 0)
  refine EV.seg (c' := (4, [some (.ref 0), none], [.int q_top], (w_qp (.ref 3) q_state q_sum q_clauses q_values q_tested q_code q_length q_pile q_top q_depth q_open p_bytes p_length p_at p_sign p_place p_number p_fault), [], 0)) 2 rfl trivial ?_
  refine EV.br (c1 := (7, [some (.ref 0), none], [], (w_qp (.ref 3) q_state q_sum q_clauses q_values q_tested q_code q_length q_pile q_top q_depth q_open p_bytes p_length p_at p_sign p_place p_number p_fault), [], 0)) (c2 := (10, [some (.ref 0), none], [], (w_qp (.ref 3) q_state q_sum q_clauses q_values q_tested q_code q_length q_pile q_top q_depth q_open p_bytes p_length p_at p_sign p_place p_number p_fault), [], 0)) rfl (fun hc => ?_) (fun hc => ?_)
  · have h := h.1 hc
    refine EV.seg (c' := (9, [some (.ref 0), none], [.int (18 : Int32)], (w_qp (.ref 3) q_state q_sum q_clauses q_values q_tested q_code q_length q_pile q_top q_depth q_open p_bytes p_length p_at p_sign p_place p_number p_fault), [], 0)) 1 rfl trivial ?_
    exact EV.ret rfl trivial ⟨_, _, _, _, rfl, h⟩
  · have h := h.2 hc
    obtain ⟨g1, h⟩ := h
    refine EV.seg (c' := (30, [some (.ref 0), some (.int (q_pile (q_top - (1 : Int32)).toNatClampNeg))], [], (w_qp (.ref 3) q_state q_sum q_clauses q_values q_tested q_code q_length q_pile (q_top - (1 : Int32)) q_depth q_open p_bytes p_length p_at p_sign p_place p_number p_fault), [], 0)) 12 rfl (And.intro g1 trivial) ?_
    obtain ⟨x1, e_x1⟩ : ∃ z : Int32, z = q_pile (q_top - (1 : Int32)).toNatClampNeg := ⟨_, rfl⟩
    have h := h x1 e_x1
    rw [← e_x1]
    refine EV.seg (c' := (33, [some (.ref 0), some (.int x1)], [.int (12 : Int32), .int x1], (w_qp (.ref 3) q_state q_sum q_clauses q_values q_tested q_code q_length q_pile (q_top - (1 : Int32)) q_depth q_open p_bytes p_length p_at p_sign p_place p_number p_fault), [], 0)) 2 rfl trivial ?_
    refine EV.br (c1 := (42, [some (.ref 0), some (.int x1)], [], (w_qp (.ref 3) q_state q_sum q_clauses q_values q_tested q_code q_length q_pile (q_top - (1 : Int32)) q_depth q_open p_bytes p_length p_at p_sign p_place p_number p_fault), [], 0)) (c2 := (36, [some (.ref 0), some (.int x1)], [], (w_qp (.ref 3) q_state q_sum q_clauses q_values q_tested q_code q_length q_pile (q_top - (1 : Int32)) q_depth q_open p_bytes p_length p_at p_sign p_place p_number p_fault), [], 0)) rfl (fun hc => ?_) (fun hc => ?_)
    · have h := h.1 hc
      exact (ok_X7_takeFromPile_42 (ok_X7_takeFromPile_72 )) _ _ _ _ h
    · have h := h.2 hc
      refine EV.seg (c' := (39, [some (.ref 0), some (.int x1)], [.int (15 : Int32), .int x1], (w_qp (.ref 3) q_state q_sum q_clauses q_values q_tested q_code q_length q_pile (q_top - (1 : Int32)) q_depth q_open p_bytes p_length p_at p_sign p_place p_number p_fault), [], 0)) 2 rfl trivial ?_
      refine EV.br (c1 := (42, [some (.ref 0), some (.int x1)], [], (w_qp (.ref 3) q_state q_sum q_clauses q_values q_tested q_code q_length q_pile (q_top - (1 : Int32)) q_depth q_open p_bytes p_length p_at p_sign p_place p_number p_fault), [], 0)) (c2 := (72, [some (.ref 0), some (.int x1)], [], (w_qp (.ref 3) q_state q_sum q_clauses q_values q_tested q_code q_length q_pile (q_top - (1 : Int32)) q_depth q_open p_bytes p_length p_at p_sign p_place p_number p_fault), [], 0)) rfl (fun hc => ?_) (fun hc => ?_)
      · have h := h.1 hc
        exact (ok_X7_takeFromPile_42 (ok_X7_takeFromPile_72 )) _ _ _ _ h
      · have h := h.2 hc
        refine EV.mask (ls' := [none, some (.int x1)]) rfl rfl ?_
        exact (ok_X7_takeFromPile_72 ) _ _ _ _ h
abbrev po_X7_layBehindStronger (q_state : Int32) (q_sum : Int32) (q_clauses : Int32) (q_values : Int32) (q_tested : Int32) (p_bytes : Nat → Int32) (p_length : Int32) (p_at : Int32) (p_sign : Int32) (p_place : Int32) (p_number : Int32) (p_fault : Int32) (Q : (Nat → Int32) → (Int32) → (Nat → Int32) → (Int32) → (Int32) → (Int32) → Prop) : ax_E → Prop := fun out => ∃ (q_code' : Nat → Int32) (q_length' : Int32) (q_pile' : Nat → Int32) (q_top' : Int32) (q_depth' : Int32) (q_open' : Int32), out = (none, (w_qp (.ref 3) q_state q_sum q_clauses q_values q_tested q_code' q_length' q_pile' q_top' q_depth' q_open' p_bytes p_length p_at p_sign p_place p_number p_fault), [], 0) ∧ Q q_code' q_length' q_pile' q_top' q_depth' q_open'
theorem ok_X7_layBehindStronger_43 {X : Nat × (Nat → Int32)} {N : Nat} {q_state : Int32} {q_sum : Int32} {q_clauses : Int32} {q_values : Int32} {q_tested : Int32} {p_bytes : Nat → Int32} {p_length : Int32} {p_at : Int32} {p_sign : Int32} {p_place : Int32} {p_number : Int32} {p_fault : Int32}  {Q : (Nat → Int32) → (Int32) → (Nat → Int32) → (Int32) → (Int32) → (Int32) → Prop}  : ∀ (v1 : Int32) (q_code : Nat → Int32) (q_length : Int32) (q_pile : Nat → Int32) (q_top : Int32) (q_depth : Int32) (q_open : Int32), wp_X7_layBehindStronger_43 N   Q  v1 q_code q_length q_pile q_top q_depth q_open → EV (ax_GG X) m_X7_layBehindStronger (po_X7_layBehindStronger q_state q_sum q_clauses q_values q_tested p_bytes p_length p_at p_sign p_place p_number p_fault Q) (43, [some (.ref 0), some (.int v1), none], [], (w_qp (.ref 3) q_state q_sum q_clauses q_values q_tested q_code q_length q_pile q_top q_depth q_open p_bytes p_length p_at p_sign p_place p_number p_fault), [], 0) := by
  intro v1 q_code q_length q_pile q_top q_depth q_open h
  unfold wp_X7_layBehindStronger_43 at h
  refine EV.seg (c' := (45, [some (.ref 0), some (.int v1), none], [.int v1, .ref 0], (w_qp (.ref 3) q_state q_sum q_clauses q_values q_tested q_code q_length q_pile q_top q_depth q_open p_bytes p_length p_at p_sign p_place p_number p_fault), [], 0)) 2 rfl trivial ?_
  refine EV.call (M' := m_X7_lay) rfl rfl (Nat.le_of_ble_eq_true rfl) (em_X7_lay (q_state := q_state) (q_sum := q_sum) (q_clauses := q_clauses) (q_values := q_values) (q_tested := q_tested) (q_code := q_code) (q_length := q_length) (q_depth := q_depth) (q_open := q_open) (p_bytes := p_bytes) (p_length := p_length) (p_at := p_at) (p_sign := p_sign) (p_place := p_place) (p_number := p_number) (p_fault := p_fault) (q_pile := q_pile) (q_top := q_top) h) (fun out ho => ?_)
  obtain ⟨m7, m8, rfl, h⟩ := ho
  show EV _ _ _ (48, [some (.ref 0), some (.int v1), none], [], (w_qp (.ref 3) q_state q_sum q_clauses q_values q_tested q_code q_length m7 m8 q_depth q_open p_bytes p_length p_at p_sign p_place p_number p_fault), [], 0)
  exact EV.ret rfl trivial ⟨_, _, _, _, _, _, rfl, h⟩
theorem ok_X7_layBehindStronger_5 {X : Nat × (Nat → Int32)} {N : Nat} {q_state : Int32} {q_sum : Int32} {q_clauses : Int32} {q_values : Int32} {q_tested : Int32} {p_bytes : Nat → Int32} {p_length : Int32} {p_at : Int32} {p_sign : Int32} {p_place : Int32} {p_number : Int32} {p_fault : Int32}  {Q : (Nat → Int32) → (Int32) → (Nat → Int32) → (Int32) → (Int32) → (Int32) → Prop}  : ∀ (n : Nat) (v1 : Int32) (v2 : Int32) (q_code : Nat → Int32) (q_length : Int32) (q_pile : Nat → Int32) (q_top : Int32) (q_depth : Int32) (q_open : Int32), wp_X7_layBehindStronger_5 N   Q n v1 v2 q_code q_length q_pile q_top q_depth q_open → EV (ax_GG X) m_X7_layBehindStronger (po_X7_layBehindStronger q_state q_sum q_clauses q_values q_tested p_bytes p_length p_at p_sign p_place p_number p_fault Q) (5, [some (.ref 0), some (.int v1), some (.int v2)], [], (w_qp (.ref 3) q_state q_sum q_clauses q_values q_tested q_code q_length q_pile q_top q_depth q_open p_bytes p_length p_at p_sign p_place p_number p_fault), [], 0) := by
  intro n
  induction n with
  | zero => intro _ _ _ _ _ _ _ _ h; exact h.elim
  | succ n ih =>
    intro v1 v2 q_code q_length q_pile q_top q_depth q_open h
    unfold wp_X7_layBehindStronger_5 at h
    refine EV.seg (c' := (6, [some (.ref 0), some (.int v1), some (.int v2)], [.int v2], (w_qp (.ref 3) q_state q_sum q_clauses q_values q_tested q_code q_length q_pile q_top q_depth q_open p_bytes p_length p_at p_sign p_place p_number p_fault), [], 0)) 1 rfl trivial ?_
    refine EV.br (c1 := (43, [some (.ref 0), some (.int v1), some (.int v2)], [], (w_qp (.ref 3) q_state q_sum q_clauses q_values q_tested q_code q_length q_pile q_top q_depth q_open p_bytes p_length p_at p_sign p_place p_number p_fault), [], 0)) (c2 := (9, [some (.ref 0), some (.int v1), some (.int v2)], [], (w_qp (.ref 3) q_state q_sum q_clauses q_values q_tested q_code q_length q_pile q_top q_depth q_open p_bytes p_length p_at p_sign p_place p_number p_fault), [], 0)) rfl (fun hc => ?_) (fun hc => ?_)
    · have h := h.1 hc
      refine EV.mask (ls' := [some (.ref 0), some (.int v1), none]) rfl rfl ?_
      exact (ok_X7_layBehindStronger_43 ) _ _ _ _ _ _ _ h
    · have h := h.2 hc
      obtain ⟨g1, g2, g3, h⟩ := h
      refine EV.seg (c' := (26, [some (.ref 0), some (.int v1), some (.int v2)], [.int (ax_str v1.toNatClampNeg), .int (ax_str (q_pile (v2 - (1 : Int32)).toNatClampNeg).toNatClampNeg)], (w_qp (.ref 3) q_state q_sum q_clauses q_values q_tested q_code q_length q_pile q_top q_depth q_open p_bytes p_length p_at p_sign p_place p_number p_fault), [], 0)) 11 rfl (And.intro g1 (And.intro g2 (And.intro g3 trivial))) ?_
      refine EV.br (c1 := (43, [some (.ref 0), some (.int v1), some (.int v2)], [], (w_qp (.ref 3) q_state q_sum q_clauses q_values q_tested q_code q_length q_pile q_top q_depth q_open p_bytes p_length p_at p_sign p_place p_number p_fault), [], 0)) (c2 := (29, [some (.ref 0), some (.int v1), some (.int v2)], [], (w_qp (.ref 3) q_state q_sum q_clauses q_values q_tested q_code q_length q_pile q_top q_depth q_open p_bytes p_length p_at p_sign p_place p_number p_fault), [], 0)) rfl (fun hc => ?_) (fun hc => ?_)
      · have h := h.1 hc
        refine EV.mask (ls' := [some (.ref 0), some (.int v1), none]) rfl rfl ?_
        exact (ok_X7_layBehindStronger_43 ) _ _ _ _ _ _ _ h
      · have h := h.2 hc
        refine EV.seg (c' := (31, [some (.ref 0), some (.int v1), some (.int v2)], [.ref 0, .ref 0], (w_qp (.ref 3) q_state q_sum q_clauses q_values q_tested q_code q_length q_pile q_top q_depth q_open p_bytes p_length p_at p_sign p_place p_number p_fault), [], 0)) 2 rfl trivial ?_
        refine EV.call (M' := m_X7_takeFromPile) rfl rfl (Nat.le_of_ble_eq_true rfl) (em_X7_takeFromPile (q_state := q_state) (q_sum := q_sum) (q_clauses := q_clauses) (q_values := q_values) (q_tested := q_tested) (q_code := q_code) (q_length := q_length) (q_pile := q_pile) (p_bytes := p_bytes) (p_length := p_length) (p_at := p_at) (p_sign := p_sign) (p_place := p_place) (p_number := p_number) (p_fault := p_fault) (q_top := q_top) (q_depth := q_depth) (q_open := q_open) h) (fun out ho => ?_)
        obtain ⟨r1, m2, m3, m4, rfl, h⟩ := ho
        show EV _ _ _ (34, [some (.ref 0), some (.int v1), some (.int v2)], [.int r1, .ref 0], (w_qp (.ref 3) q_state q_sum q_clauses q_values q_tested q_code q_length q_pile m2 m3 m4 p_bytes p_length p_at p_sign p_place p_number p_fault), [], 0)
        refine EV.call (M' := m_X7_write) rfl rfl (Nat.le_of_ble_eq_true rfl) (em_X7_write (q_state := q_state) (q_sum := q_sum) (q_clauses := q_clauses) (q_values := q_values) (q_tested := q_tested) (q_pile := q_pile) (q_top := m2) (q_depth := m3) (q_open := m4) (p_bytes := p_bytes) (p_length := p_length) (p_at := p_at) (p_sign := p_sign) (p_place := p_place) (p_number := p_number) (p_fault := p_fault) (q_code := q_code) (q_length := q_length) h) (fun out ho => ?_)
        obtain ⟨m5, m6, rfl, h⟩ := ho
        show EV _ _ _ (37, [some (.ref 0), some (.int v1), some (.int v2)], [], (w_qp (.ref 3) q_state q_sum q_clauses q_values q_tested m5 m6 q_pile m2 m3 m4 p_bytes p_length p_at p_sign p_place p_number p_fault), [], 0)
        refine EV.seg (c' := (5, [some (.ref 0), some (.int v1), some (.int (v2 + (-1)))], [], (w_qp (.ref 3) q_state q_sum q_clauses q_values q_tested m5 m6 q_pile m2 m3 m4 p_bytes p_length p_at p_sign p_place p_number p_fault), [], 0)) 2 rfl trivial ?_
        exact ih _ _ _ _ _ _ _ _ h
theorem em_X7_layBehindStronger {X : Nat × (Nat → Int32)} {N : Nat} {q_state : Int32} {q_sum : Int32} {q_clauses : Int32} {q_values : Int32} {q_tested : Int32} {p_bytes : Nat → Int32} {p_length : Int32} {p_at : Int32} {p_sign : Int32} {p_place : Int32} {p_number : Int32} {p_fault : Int32} {p0 : Int32} {q_code : Nat → Int32} {q_length : Int32} {q_pile : Nat → Int32} {q_top : Int32} {q_depth : Int32} {q_open : Int32} {Q : (Nat → Int32) → (Int32) → (Nat → Int32) → (Int32) → (Int32) → (Int32) → Prop} (h : wp_X7_layBehindStronger N  Q p0 q_code q_length q_pile q_top q_depth q_open) : EM (ax_GG X) m_X7_layBehindStronger [.ref 0, .int p0] (w_qp (.ref 3) q_state q_sum q_clauses q_values q_tested q_code q_length q_pile q_top q_depth q_open p_bytes p_length p_at p_sign p_place p_number p_fault) (po_X7_layBehindStronger q_state q_sum q_clauses q_values q_tested p_bytes p_length p_at p_sign p_place p_number p_fault Q) := by
  unfold wp_X7_layBehindStronger at h
  show EV _ _ _ (0, [some (.ref 0), some (.int p0), none], [], (w_qp (.ref 3) q_state q_sum q_clauses q_values q_tested q_code q_length q_pile q_top q_depth q_open p_bytes p_length p_at p_sign p_place p_number p_fault), [], 0)
  refine EV.seg (c' := (5, [some (.ref 0), some (.int p0), some (.int q_top)], [], (w_qp (.ref 3) q_state q_sum q_clauses q_values q_tested q_code q_length q_pile q_top q_depth q_open p_bytes p_length p_at p_sign p_place p_number p_fault), [], 0)) 3 rfl trivial ?_
  exact (ok_X7_layBehindStronger_5  N) _ _ _ _ _ _ _ _ h
abbrev po_X7_takeComparison (q_clauses : Int32) (q_tested : Int32) (p_bytes : Nat → Int32) (p_length : Int32) (p_at : Int32) (p_sign : Int32) (p_place : Int32) (p_number : Int32) (Q : (Int32) → (Int32) → (Int32) → (Nat → Int32) → (Int32) → (Nat → Int32) → (Int32) → (Int32) → (Int32) → (Int32) → Prop) : ax_E → Prop := fun out => ∃ (q_state' : Int32) (q_sum' : Int32) (q_values' : Int32) (q_code' : Nat → Int32) (q_length' : Int32) (q_pile' : Nat → Int32) (q_top' : Int32) (q_depth' : Int32) (q_open' : Int32) (p_fault' : Int32), out = (none, (w_qp (.ref 3) q_state' q_sum' q_clauses q_values' q_tested q_code' q_length' q_pile' q_top' q_depth' q_open' p_bytes p_length p_at p_sign p_place p_number p_fault'), [], 0) ∧ Q q_state' q_sum' q_values' q_code' q_length' q_pile' q_top' q_depth' q_open' p_fault'
theorem ok_X7_takeComparison_73 {X : Nat × (Nat → Int32)} {N : Nat} {q_clauses : Int32} {q_tested : Int32} {p_bytes : Nat → Int32} {p_length : Int32} {p_at : Int32} {p_sign : Int32} {p_place : Int32} {p_number : Int32}  {Q : (Int32) → (Int32) → (Int32) → (Nat → Int32) → (Int32) → (Nat → Int32) → (Int32) → (Int32) → (Int32) → (Int32) → Prop}  : ∀ (q_state : Int32) (q_sum : Int32) (q_values : Int32) (q_code : Nat → Int32) (q_length : Int32) (q_pile : Nat → Int32) (q_top : Int32) (q_depth : Int32) (q_open : Int32) (p_fault : Int32), wp_X7_takeComparison_73 N p_sign p_place  Q  q_state q_sum q_values q_code q_length q_pile q_top q_depth q_open p_fault → EV (ax_GG X) m_X7_takeComparison (po_X7_takeComparison q_clauses q_tested p_bytes p_length p_at p_sign p_place p_number Q) (73, [none, none], [], (w_qp (.ref 3) q_state q_sum q_clauses q_values q_tested q_code q_length q_pile q_top q_depth q_open p_bytes p_length p_at p_sign p_place p_number p_fault), [], 0) := by
  intro q_state q_sum q_values q_code q_length q_pile q_top q_depth q_open p_fault h
  unfold wp_X7_takeComparison_73 at h
  exact EV.ret rfl trivial ⟨_, _, _, _, _, _, _, _, _, _, rfl, h⟩
theorem em_X7_takeComparison {X : Nat × (Nat → Int32)} {N : Nat} {q_clauses : Int32} {q_tested : Int32} {p_bytes : Nat → Int32} {p_length : Int32} {p_at : Int32} {p_sign : Int32} {p_place : Int32} {p_number : Int32} {q_state : Int32} {q_sum : Int32} {q_values : Int32} {q_code : Nat → Int32} {q_length : Int32} {q_pile : Nat → Int32} {q_top : Int32} {q_depth : Int32} {q_open : Int32} {p_fault : Int32} {Q : (Int32) → (Int32) → (Int32) → (Nat → Int32) → (Int32) → (Nat → Int32) → (Int32) → (Int32) → (Int32) → (Int32) → Prop} (h : wp_X7_takeComparison N p_sign p_place Q q_state q_sum q_values q_code q_length q_pile q_top q_depth q_open p_fault) : EM (ax_GG X) m_X7_takeComparison [.ref 0] (w_qp (.ref 3) q_state q_sum q_clauses q_values q_tested q_code q_length q_pile q_top q_depth q_open p_bytes p_length p_at p_sign p_place p_number p_fault) (po_X7_takeComparison q_clauses q_tested p_bytes p_length p_at p_sign p_place p_number Q) := by
  unfold wp_X7_takeComparison at h
  show EV _ _ _ (0, [some (.ref 0), none], [], (w_qp (.ref 3) q_state q_sum q_clauses q_values q_tested q_code q_length q_pile q_top q_depth q_open p_bytes p_length p_at p_sign p_place p_number p_fault), [], 0)
  refine EV.seg (c' := (7, [some (.ref 0), none], [.int p_sign], (w_qp (.ref 3) q_state q_sum q_clauses q_values q_tested q_code q_length q_pile q_top q_depth q_open p_bytes p_length p_at p_sign p_place p_number p_fault), [], 0)) 3 rfl trivial ?_
  refine EV.call (M' := m_X7_comparisonOf) rfl rfl (Nat.le_of_ble_eq_true rfl) (em_X7_comparisonOf  h) (fun out ho => ?_)
  obtain ⟨r1, rfl, h⟩ := ho
  show EV _ _ _ (10, [some (.ref 0), none], [.int r1], (w_qp (.ref 3) q_state q_sum q_clauses q_values q_tested q_code q_length q_pile q_top q_depth q_open p_bytes p_length p_at p_sign p_place p_number p_fault), [], 0)
  refine EV.seg (c' := (14, [some (.ref 0), some (.int r1)], [.int (18 : Int32), .int r1], (w_qp (.ref 3) q_state q_sum q_clauses q_values q_tested q_code q_length q_pile q_top q_depth q_open p_bytes p_length p_at p_sign p_place p_number p_fault), [], 0)) 3 rfl trivial ?_
  refine EV.br (c1 := (17, [some (.ref 0), some (.int r1)], [], (w_qp (.ref 3) q_state q_sum q_clauses q_values q_tested q_code q_length q_pile q_top q_depth q_open p_bytes p_length p_at p_sign p_place p_number p_fault), [], 0)) (c2 := (28, [some (.ref 0), some (.int r1)], [], (w_qp (.ref 3) q_state q_sum q_clauses q_values q_tested q_code q_length q_pile q_top q_depth q_open p_bytes p_length p_at p_sign p_place p_number p_fault), [], 0)) rfl (fun hc => ?_) (fun hc => ?_)
  · have h := h.1 hc
    refine EV.seg (c' := (22, [some (.ref 0), some (.int r1)], [.int (0 : Int32), .ref 3], (w_qp (.ref 3) q_state q_sum q_clauses q_values q_tested q_code q_length q_pile q_top q_depth q_open p_bytes p_length p_at p_sign p_place p_number p_fault), [], 0)) 3 rfl trivial ?_
    refine EV.callL (M' := m_X9_fail) (L := [3, 4]) rfl rfl ⟨rfl, Nat.le_of_ble_eq_true rfl⟩ rfl rfl (em_X9_fail (p_bytes := p_bytes) (p_length := p_length) (p_at := p_at) (p_sign := p_sign) (p_place := p_place) (p_number := p_number) (p_fault := p_fault) h) (fun out ho => ?_)
    obtain ⟨m2, rfl, h⟩ := ho
    show EV _ _ _ (25, [some (.ref 0), some (.int r1)], [], (w_qp (.ref 3) q_state q_sum q_clauses q_values q_tested q_code q_length q_pile q_top q_depth q_open p_bytes p_length p_at p_sign p_place p_number m2), [], 0)
    refine EV.seg (c' := (73, [some (.ref 0), some (.int r1)], [], (w_qp (.ref 3) q_state q_sum q_clauses q_values q_tested q_code q_length q_pile q_top q_depth q_open p_bytes p_length p_at p_sign p_place p_number m2), [], 0)) 1 rfl trivial ?_
    refine EV.mask (ls' := [none, none]) rfl rfl ?_
    exact (ok_X7_takeComparison_73 ) _ _ _ _ _ _ _ _ _ _ h
  · have h := h.2 hc
    refine EV.seg (c' := (34, [some (.ref 0), some (.int r1)], [.int (60 : Int32), .int q_values], (w_qp (.ref 3) q_state q_sum q_clauses q_values q_tested q_code q_length q_pile q_top q_depth q_open p_bytes p_length p_at p_sign p_place p_number p_fault), [], 0)) 3 rfl trivial ?_
    refine EV.br (c1 := (48, [some (.ref 0), some (.int r1)], [], (w_qp (.ref 3) q_state q_sum q_clauses q_values q_tested q_code q_length q_pile q_top q_depth q_open p_bytes p_length p_at p_sign p_place p_number p_fault), [], 0)) (c2 := (37, [some (.ref 0), some (.int r1)], [], (w_qp (.ref 3) q_state q_sum q_clauses q_values q_tested q_code q_length q_pile q_top q_depth q_open p_bytes p_length p_at p_sign p_place p_number p_fault), [], 0)) rfl (fun hc => ?_) (fun hc => ?_)
    · have h := h.1 hc
      refine EV.seg (c' := (60, [some (.ref 0), some (.int r1)], [.int r1, .ref 0], (w_qp (.ref 3) q_state q_sum q_clauses (q_values + (1 : Int32)) q_tested q_code q_length q_pile q_top q_depth q_open p_bytes p_length p_at p_sign p_place p_number p_fault), [], 0)) 8 rfl trivial ?_
      refine EV.call (M' := m_X7_layBehindStronger) rfl rfl (Nat.le_of_ble_eq_true rfl) (em_X7_layBehindStronger (q_state := q_state) (q_sum := q_sum) (q_clauses := q_clauses) (q_values := q_values + (1 : Int32)) (q_tested := q_tested) (p_bytes := p_bytes) (p_length := p_length) (p_at := p_at) (p_sign := p_sign) (p_place := p_place) (p_number := p_number) (p_fault := p_fault) (q_code := q_code) (q_length := q_length) (q_pile := q_pile) (q_top := q_top) (q_depth := q_depth) (q_open := q_open) h) (fun out ho => ?_)
      obtain ⟨m3, m4, m5, m6, m7, m8, rfl, h⟩ := ho
      show EV _ _ _ (63, [some (.ref 0), some (.int r1)], [], (w_qp (.ref 3) q_state q_sum q_clauses (q_values + (1 : Int32)) q_tested m3 m4 m5 m6 m7 m8 p_bytes p_length p_at p_sign p_place p_number p_fault), [], 0)
      refine EV.seg (c' := (73, [some (.ref 0), some (.int r1)], [], (w_qp (.ref 3) (1 : Int32) (2 : Int32) q_clauses (q_values + (1 : Int32)) q_tested m3 m4 m5 m6 m7 m8 p_bytes p_length p_at p_sign p_place p_number p_fault), [], 0)) 6 rfl trivial ?_
      refine EV.mask (ls' := [none, none]) rfl rfl ?_
      exact (ok_X7_takeComparison_73 ) _ _ _ _ _ _ _ _ _ _ h
    · have h := h.2 hc
      refine EV.seg (c' := (42, [some (.ref 0), some (.int r1)], [.int (3 : Int32), .ref 3], (w_qp (.ref 3) q_state q_sum q_clauses q_values q_tested q_code q_length q_pile q_top q_depth q_open p_bytes p_length p_at p_sign p_place p_number p_fault), [], 0)) 3 rfl trivial ?_
      refine EV.callL (M' := m_X9_fail) (L := [3, 4]) rfl rfl ⟨rfl, Nat.le_of_ble_eq_true rfl⟩ rfl rfl (em_X9_fail (p_bytes := p_bytes) (p_length := p_length) (p_at := p_at) (p_sign := p_sign) (p_place := p_place) (p_number := p_number) (p_fault := p_fault) h) (fun out ho => ?_)
      obtain ⟨m9, rfl, h⟩ := ho
      show EV _ _ _ (45, [some (.ref 0), some (.int r1)], [], (w_qp (.ref 3) q_state q_sum q_clauses q_values q_tested q_code q_length q_pile q_top q_depth q_open p_bytes p_length p_at p_sign p_place p_number m9), [], 0)
      refine EV.seg (c' := (73, [some (.ref 0), some (.int r1)], [], (w_qp (.ref 3) q_state q_sum q_clauses q_values q_tested q_code q_length q_pile q_top q_depth q_open p_bytes p_length p_at p_sign p_place p_number m9), [], 0)) 1 rfl trivial ?_
      refine EV.mask (ls' := [none, none]) rfl rfl ?_
      exact (ok_X7_takeComparison_73 ) _ _ _ _ _ _ _ _ _ _ h
abbrev po_X7_writeWaiting (q_state : Int32) (q_sum : Int32) (q_clauses : Int32) (q_values : Int32) (q_tested : Int32) (q_pile : Nat → Int32) (p_bytes : Nat → Int32) (p_length : Int32) (p_at : Int32) (p_sign : Int32) (p_place : Int32) (p_number : Int32) (p_fault : Int32) (Q : (Nat → Int32) → (Int32) → (Int32) → (Int32) → (Int32) → Prop) : ax_E → Prop := fun out => ∃ (q_code' : Nat → Int32) (q_length' : Int32) (q_top' : Int32) (q_depth' : Int32) (q_open' : Int32), out = (none, (w_qp (.ref 3) q_state q_sum q_clauses q_values q_tested q_code' q_length' q_pile q_top' q_depth' q_open' p_bytes p_length p_at p_sign p_place p_number p_fault), [], 0) ∧ Q q_code' q_length' q_top' q_depth' q_open'
theorem ok_X7_writeWaiting_36 {X : Nat × (Nat → Int32)} {N : Nat} {q_state : Int32} {q_sum : Int32} {q_clauses : Int32} {q_values : Int32} {q_tested : Int32} {q_pile : Nat → Int32} {p_bytes : Nat → Int32} {p_length : Int32} {p_at : Int32} {p_sign : Int32} {p_place : Int32} {p_number : Int32} {p_fault : Int32}  {Q : (Nat → Int32) → (Int32) → (Int32) → (Int32) → (Int32) → Prop}  : ∀ (q_code : Nat → Int32) (q_length : Int32) (q_top : Int32) (q_depth : Int32) (q_open : Int32), wp_X7_writeWaiting_36 N q_pile  Q  q_code q_length q_top q_depth q_open → EV (ax_GG X) m_X7_writeWaiting (po_X7_writeWaiting q_state q_sum q_clauses q_values q_tested q_pile p_bytes p_length p_at p_sign p_place p_number p_fault Q) (36, [none, none], [], (w_qp (.ref 3) q_state q_sum q_clauses q_values q_tested q_code q_length q_pile q_top q_depth q_open p_bytes p_length p_at p_sign p_place p_number p_fault), [], 0) := by
  intro q_code q_length q_top q_depth q_open h
  unfold wp_X7_writeWaiting_36 at h
  exact EV.ret rfl trivial ⟨_, _, _, _, _, rfl, h⟩
theorem ok_X7_writeWaiting_5 {X : Nat × (Nat → Int32)} {N : Nat} {q_state : Int32} {q_sum : Int32} {q_clauses : Int32} {q_values : Int32} {q_tested : Int32} {q_pile : Nat → Int32} {p_bytes : Nat → Int32} {p_length : Int32} {p_at : Int32} {p_sign : Int32} {p_place : Int32} {p_number : Int32} {p_fault : Int32}  {Q : (Nat → Int32) → (Int32) → (Int32) → (Int32) → (Int32) → Prop}  : ∀ (n : Nat) (v1 : Int32) (q_code : Nat → Int32) (q_length : Int32) (q_top : Int32) (q_depth : Int32) (q_open : Int32), wp_X7_writeWaiting_5 N q_pile  Q n v1 q_code q_length q_top q_depth q_open → EV (ax_GG X) m_X7_writeWaiting (po_X7_writeWaiting q_state q_sum q_clauses q_values q_tested q_pile p_bytes p_length p_at p_sign p_place p_number p_fault Q) (5, [some (.ref 0), some (.int v1)], [], (w_qp (.ref 3) q_state q_sum q_clauses q_values q_tested q_code q_length q_pile q_top q_depth q_open p_bytes p_length p_at p_sign p_place p_number p_fault), [], 0) := by
  intro n
  induction n with
  | zero => intro _ _ _ _ _ _ h; exact h.elim
  | succ n ih =>
    intro v1 q_code q_length q_top q_depth q_open h
    unfold wp_X7_writeWaiting_5 at h
    refine EV.seg (c' := (6, [some (.ref 0), some (.int v1)], [.int v1], (w_qp (.ref 3) q_state q_sum q_clauses q_values q_tested q_code q_length q_pile q_top q_depth q_open p_bytes p_length p_at p_sign p_place p_number p_fault), [], 0)) 1 rfl trivial ?_
    refine EV.br (c1 := (36, [some (.ref 0), some (.int v1)], [], (w_qp (.ref 3) q_state q_sum q_clauses q_values q_tested q_code q_length q_pile q_top q_depth q_open p_bytes p_length p_at p_sign p_place p_number p_fault), [], 0)) (c2 := (9, [some (.ref 0), some (.int v1)], [], (w_qp (.ref 3) q_state q_sum q_clauses q_values q_tested q_code q_length q_pile q_top q_depth q_open p_bytes p_length p_at p_sign p_place p_number p_fault), [], 0)) rfl (fun hc => ?_) (fun hc => ?_)
    · have h := h.1 hc
      refine EV.mask (ls' := [none, none]) rfl rfl ?_
      exact (ok_X7_writeWaiting_36 ) _ _ _ _ _ h
    · have h := h.2 hc
      obtain ⟨g1, h⟩ := h
      refine EV.seg (c' := (19, [some (.ref 0), some (.int v1)], [.int (15 : Int32), .int (q_pile (v1 - (1 : Int32)).toNatClampNeg)], (w_qp (.ref 3) q_state q_sum q_clauses q_values q_tested q_code q_length q_pile q_top q_depth q_open p_bytes p_length p_at p_sign p_place p_number p_fault), [], 0)) 7 rfl (And.intro g1 trivial) ?_
      refine EV.br (c1 := (36, [some (.ref 0), some (.int v1)], [], (w_qp (.ref 3) q_state q_sum q_clauses q_values q_tested q_code q_length q_pile q_top q_depth q_open p_bytes p_length p_at p_sign p_place p_number p_fault), [], 0)) (c2 := (22, [some (.ref 0), some (.int v1)], [], (w_qp (.ref 3) q_state q_sum q_clauses q_values q_tested q_code q_length q_pile q_top q_depth q_open p_bytes p_length p_at p_sign p_place p_number p_fault), [], 0)) rfl (fun hc => ?_) (fun hc => ?_)
      · have h := h.1 hc
        refine EV.mask (ls' := [none, none]) rfl rfl ?_
        exact (ok_X7_writeWaiting_36 ) _ _ _ _ _ h
      · have h := h.2 hc
        refine EV.seg (c' := (24, [some (.ref 0), some (.int v1)], [.ref 0, .ref 0], (w_qp (.ref 3) q_state q_sum q_clauses q_values q_tested q_code q_length q_pile q_top q_depth q_open p_bytes p_length p_at p_sign p_place p_number p_fault), [], 0)) 2 rfl trivial ?_
        refine EV.call (M' := m_X7_takeFromPile) rfl rfl (Nat.le_of_ble_eq_true rfl) (em_X7_takeFromPile (q_state := q_state) (q_sum := q_sum) (q_clauses := q_clauses) (q_values := q_values) (q_tested := q_tested) (q_code := q_code) (q_length := q_length) (q_pile := q_pile) (p_bytes := p_bytes) (p_length := p_length) (p_at := p_at) (p_sign := p_sign) (p_place := p_place) (p_number := p_number) (p_fault := p_fault) (q_top := q_top) (q_depth := q_depth) (q_open := q_open) h) (fun out ho => ?_)
        obtain ⟨r1, m2, m3, m4, rfl, h⟩ := ho
        show EV _ _ _ (27, [some (.ref 0), some (.int v1)], [.int r1, .ref 0], (w_qp (.ref 3) q_state q_sum q_clauses q_values q_tested q_code q_length q_pile m2 m3 m4 p_bytes p_length p_at p_sign p_place p_number p_fault), [], 0)
        refine EV.call (M' := m_X7_write) rfl rfl (Nat.le_of_ble_eq_true rfl) (em_X7_write (q_state := q_state) (q_sum := q_sum) (q_clauses := q_clauses) (q_values := q_values) (q_tested := q_tested) (q_pile := q_pile) (q_top := m2) (q_depth := m3) (q_open := m4) (p_bytes := p_bytes) (p_length := p_length) (p_at := p_at) (p_sign := p_sign) (p_place := p_place) (p_number := p_number) (p_fault := p_fault) (q_code := q_code) (q_length := q_length) h) (fun out ho => ?_)
        obtain ⟨m5, m6, rfl, h⟩ := ho
        show EV _ _ _ (30, [some (.ref 0), some (.int v1)], [], (w_qp (.ref 3) q_state q_sum q_clauses q_values q_tested m5 m6 q_pile m2 m3 m4 p_bytes p_length p_at p_sign p_place p_number p_fault), [], 0)
        refine EV.seg (c' := (5, [some (.ref 0), some (.int (v1 + (-1)))], [], (w_qp (.ref 3) q_state q_sum q_clauses q_values q_tested m5 m6 q_pile m2 m3 m4 p_bytes p_length p_at p_sign p_place p_number p_fault), [], 0)) 2 rfl trivial ?_
        exact ih _ _ _ _ _ _ h
theorem em_X7_writeWaiting {X : Nat × (Nat → Int32)} {N : Nat} {q_state : Int32} {q_sum : Int32} {q_clauses : Int32} {q_values : Int32} {q_tested : Int32} {q_pile : Nat → Int32} {p_bytes : Nat → Int32} {p_length : Int32} {p_at : Int32} {p_sign : Int32} {p_place : Int32} {p_number : Int32} {p_fault : Int32} {q_code : Nat → Int32} {q_length : Int32} {q_top : Int32} {q_depth : Int32} {q_open : Int32} {Q : (Nat → Int32) → (Int32) → (Int32) → (Int32) → (Int32) → Prop} (h : wp_X7_writeWaiting N q_pile Q q_code q_length q_top q_depth q_open) : EM (ax_GG X) m_X7_writeWaiting [.ref 0] (w_qp (.ref 3) q_state q_sum q_clauses q_values q_tested q_code q_length q_pile q_top q_depth q_open p_bytes p_length p_at p_sign p_place p_number p_fault) (po_X7_writeWaiting q_state q_sum q_clauses q_values q_tested q_pile p_bytes p_length p_at p_sign p_place p_number p_fault Q) := by
  unfold wp_X7_writeWaiting at h
  show EV _ _ _ (0, [some (.ref 0), none], [], (w_qp (.ref 3) q_state q_sum q_clauses q_values q_tested q_code q_length q_pile q_top q_depth q_open p_bytes p_length p_at p_sign p_place p_number p_fault), [], 0)
  refine EV.seg (c' := (5, [some (.ref 0), some (.int q_top)], [], (w_qp (.ref 3) q_state q_sum q_clauses q_values q_tested q_code q_length q_pile q_top q_depth q_open p_bytes p_length p_at p_sign p_place p_number p_fault), [], 0)) 3 rfl trivial ?_
  exact (ok_X7_writeWaiting_5  N) _ _ _ _ _ _ h
abbrev po_X7_takeEndOfClause (q_sum : Int32) (q_clauses : Int32) (q_values : Int32) (q_tested : Int32) (q_pile : Nat → Int32) (p_bytes : Nat → Int32) (p_length : Int32) (p_at : Int32) (p_sign : Int32) (p_place : Int32) (p_number : Int32) (Q : (Int32) → (Nat → Int32) → (Int32) → (Int32) → (Int32) → (Int32) → (Int32) → Prop) : ax_E → Prop := fun out => ∃ (q_state' : Int32) (q_code' : Nat → Int32) (q_length' : Int32) (q_top' : Int32) (q_depth' : Int32) (q_open' : Int32) (p_fault' : Int32), out = (none, (w_qp (.ref 3) q_state' q_sum q_clauses q_values q_tested q_code' q_length' q_pile q_top' q_depth' q_open' p_bytes p_length p_at p_sign p_place p_number p_fault'), [], 0) ∧ Q q_state' q_code' q_length' q_top' q_depth' q_open' p_fault'
theorem ok_X7_takeEndOfClause_74 {X : Nat × (Nat → Int32)} {N : Nat} {q_sum : Int32} {q_clauses : Int32} {q_values : Int32} {q_tested : Int32} {q_pile : Nat → Int32} {p_bytes : Nat → Int32} {p_length : Int32} {p_at : Int32} {p_sign : Int32} {p_place : Int32} {p_number : Int32}  {Q : (Int32) → (Nat → Int32) → (Int32) → (Int32) → (Int32) → (Int32) → (Int32) → Prop}  : ∀ (s0 : Int32) (q_state : Int32) (q_code : Nat → Int32) (q_length : Int32) (q_top : Int32) (q_depth : Int32) (q_open : Int32) (p_fault : Int32), wp_X7_takeEndOfClause_74 N q_tested q_pile p_sign p_place  Q  s0 q_state q_code q_length q_top q_depth q_open p_fault → EV (ax_GG X) m_X7_takeEndOfClause (po_X7_takeEndOfClause q_sum q_clauses q_values q_tested q_pile p_bytes p_length p_at p_sign p_place p_number Q) (74, [none], [.int s0, .ref 0], (w_qp (.ref 3) q_state q_sum q_clauses q_values q_tested q_code q_length q_pile q_top q_depth q_open p_bytes p_length p_at p_sign p_place p_number p_fault), [], 0) := by
  intro s0 q_state q_code q_length q_top q_depth q_open p_fault h
  unfold wp_X7_takeEndOfClause_74 at h
  refine EV.seg (c' := (77, [none], [], (w_qp (.ref 3) s0 q_sum q_clauses q_values q_tested q_code q_length q_pile q_top q_depth q_open p_bytes p_length p_at p_sign p_place p_number p_fault), [], 0)) 1 rfl trivial ?_
  exact EV.ret rfl trivial ⟨_, _, _, _, _, _, _, rfl, h⟩
theorem ok_X7_takeEndOfClause_53 {X : Nat × (Nat → Int32)} {N : Nat} {q_sum : Int32} {q_clauses : Int32} {q_values : Int32} {q_tested : Int32} {q_pile : Nat → Int32} {p_bytes : Nat → Int32} {p_length : Int32} {p_at : Int32} {p_sign : Int32} {p_place : Int32} {p_number : Int32}  {Q : (Int32) → (Nat → Int32) → (Int32) → (Int32) → (Int32) → (Int32) → (Int32) → Prop}  : ∀ (s0 : Int32) (q_state : Int32) (q_code : Nat → Int32) (q_length : Int32) (q_top : Int32) (q_depth : Int32) (q_open : Int32) (p_fault : Int32), wp_X7_takeEndOfClause_53 N q_tested q_pile p_sign p_place  Q  s0 q_state q_code q_length q_top q_depth q_open p_fault → EV (ax_GG X) m_X7_takeEndOfClause (po_X7_takeEndOfClause q_sum q_clauses q_values q_tested q_pile p_bytes p_length p_at p_sign p_place p_number Q) (53, [some (.ref 0)], [.int s0, .ref 0], (w_qp (.ref 3) q_state q_sum q_clauses q_values q_tested q_code q_length q_pile q_top q_depth q_open p_bytes p_length p_at p_sign p_place p_number p_fault), [], 0) := by
  intro s0 q_state q_code q_length q_top q_depth q_open p_fault h
  unfold wp_X7_takeEndOfClause_53 at h
  refine EV.call (M' := m_X7_write) rfl rfl (Nat.le_of_ble_eq_true rfl) (em_X7_write (q_state := q_state) (q_sum := q_sum) (q_clauses := q_clauses) (q_values := q_values) (q_tested := q_tested) (q_pile := q_pile) (q_top := q_top) (q_depth := q_depth) (q_open := q_open) (p_bytes := p_bytes) (p_length := p_length) (p_at := p_at) (p_sign := p_sign) (p_place := p_place) (p_number := p_number) (p_fault := p_fault) (q_code := q_code) (q_length := q_length) h) (fun out ho => ?_)
  obtain ⟨m7, m8, rfl, h⟩ := ho
  show EV _ _ _ (56, [some (.ref 0)], [], (w_qp (.ref 3) q_state q_sum q_clauses q_values q_tested m7 m8 q_pile q_top q_depth q_open p_bytes p_length p_at p_sign p_place p_number p_fault), [], 0)
  refine EV.seg (c' := (66, [some (.ref 0)], [.int (59 : Int32), .int p_sign, .ref 0], (w_qp (.ref 3) q_state q_sum q_clauses q_values q_tested m7 m8 q_pile q_top q_depth q_open p_bytes p_length p_at p_sign p_place p_number p_fault), [], 0)) 5 rfl trivial ?_
  refine EV.br (c1 := (69, [some (.ref 0)], [.ref 0], (w_qp (.ref 3) q_state q_sum q_clauses q_values q_tested m7 m8 q_pile q_top q_depth q_open p_bytes p_length p_at p_sign p_place p_number p_fault), [], 0)) (c2 := (73, [some (.ref 0)], [.ref 0], (w_qp (.ref 3) q_state q_sum q_clauses q_values q_tested m7 m8 q_pile q_top q_depth q_open p_bytes p_length p_at p_sign p_place p_number p_fault), [], 0)) rfl (fun hc => ?_) (fun hc => ?_)
  · have h := h.1 hc
    refine EV.seg (c' := (74, [some (.ref 0)], [.int (0 : Int32), .ref 0], (w_qp (.ref 3) q_state q_sum q_clauses q_values q_tested m7 m8 q_pile q_top q_depth q_open p_bytes p_length p_at p_sign p_place p_number p_fault), [], 0)) 2 rfl trivial ?_
    refine EV.mask (ls' := [none]) rfl rfl ?_
    exact (ok_X7_takeEndOfClause_74 ) _ _ _ _ _ _ _ _ h
  · have h := h.2 hc
    refine EV.seg (c' := (74, [some (.ref 0)], [.int (5 : Int32), .ref 0], (w_qp (.ref 3) q_state q_sum q_clauses q_values q_tested m7 m8 q_pile q_top q_depth q_open p_bytes p_length p_at p_sign p_place p_number p_fault), [], 0)) 1 rfl trivial ?_
    refine EV.mask (ls' := [none]) rfl rfl ?_
    exact (ok_X7_takeEndOfClause_74 ) _ _ _ _ _ _ _ _ h
theorem ok_X7_takeEndOfClause_34 {X : Nat × (Nat → Int32)} {N : Nat} {q_sum : Int32} {q_clauses : Int32} {q_values : Int32} {q_tested : Int32} {q_pile : Nat → Int32} {p_bytes : Nat → Int32} {p_length : Int32} {p_at : Int32} {p_sign : Int32} {p_place : Int32} {p_number : Int32}  {Q : (Int32) → (Nat → Int32) → (Int32) → (Int32) → (Int32) → (Int32) → (Int32) → Prop}  : ∀ (q_state : Int32) (q_code : Nat → Int32) (q_length : Int32) (q_top : Int32) (q_depth : Int32) (q_open : Int32) (p_fault : Int32), wp_X7_takeEndOfClause_34 N q_tested q_pile p_sign p_place  Q  q_state q_code q_length q_top q_depth q_open p_fault → EV (ax_GG X) m_X7_takeEndOfClause (po_X7_takeEndOfClause q_sum q_clauses q_values q_tested q_pile p_bytes p_length p_at p_sign p_place p_number Q) (34, [some (.ref 0)], [], (w_qp (.ref 3) q_state q_sum q_clauses q_values q_tested q_code q_length q_pile q_top q_depth q_open p_bytes p_length p_at p_sign p_place p_number p_fault), [], 0) := by
  intro q_state q_code q_length q_top q_depth q_open p_fault h
  unfold wp_X7_takeEndOfClause_34 at h
  refine EV.seg (c' := (35, [some (.ref 0)], [.ref 0], (w_qp (.ref 3) q_state q_sum q_clauses q_values q_tested q_code q_length q_pile q_top q_depth q_open p_bytes p_length p_at p_sign p_place p_number p_fault), [], 0)) 1 rfl trivial ?_
  refine EV.call (M' := m_X7_writeWaiting) rfl rfl (Nat.le_of_ble_eq_true rfl) (em_X7_writeWaiting (q_state := q_state) (q_sum := q_sum) (q_clauses := q_clauses) (q_values := q_values) (q_tested := q_tested) (q_pile := q_pile) (p_bytes := p_bytes) (p_length := p_length) (p_at := p_at) (p_sign := p_sign) (p_place := p_place) (p_number := p_number) (p_fault := p_fault) (q_code := q_code) (q_length := q_length) (q_top := q_top) (q_depth := q_depth) (q_open := q_open) h) (fun out ho => ?_)
  obtain ⟨m2, m3, m4, m5, m6, rfl, h⟩ := ho
  show EV _ _ _ (38, [some (.ref 0)], [], (w_qp (.ref 3) q_state q_sum q_clauses q_values q_tested m2 m3 q_pile m4 m5 m6 p_bytes p_length p_at p_sign p_place p_number p_fault), [], 0)
  refine EV.seg (c' := (43, [some (.ref 0)], [.int q_tested, .ref 0], (w_qp (.ref 3) q_state q_sum q_clauses q_values q_tested m2 m3 q_pile m4 m5 m6 p_bytes p_length p_at p_sign p_place p_number p_fault), [], 0)) 3 rfl trivial ?_
  refine EV.br (c1 := (51, [some (.ref 0)], [.ref 0], (w_qp (.ref 3) q_state q_sum q_clauses q_values q_tested m2 m3 q_pile m4 m5 m6 p_bytes p_length p_at p_sign p_place p_number p_fault), [], 0)) (c2 := (46, [some (.ref 0)], [.ref 0], (w_qp (.ref 3) q_state q_sum q_clauses q_values q_tested m2 m3 q_pile m4 m5 m6 p_bytes p_length p_at p_sign p_place p_number p_fault), [], 0)) rfl (fun hc => ?_) (fun hc => ?_)
  · have h := h.1 hc
    refine EV.seg (c' := (53, [some (.ref 0)], [.int (16 : Int32), .ref 0], (w_qp (.ref 3) q_state q_sum q_clauses q_values q_tested m2 m3 q_pile m4 m5 m6 p_bytes p_length p_at p_sign p_place p_number p_fault), [], 0)) 1 rfl trivial ?_
    exact (ok_X7_takeEndOfClause_53 ) _ _ _ _ _ _ _ _ h
  · have h := h.2 hc
    refine EV.seg (c' := (53, [some (.ref 0)], [.int (17 : Int32), .ref 0], (w_qp (.ref 3) q_state q_sum q_clauses q_values q_tested m2 m3 q_pile m4 m5 m6 p_bytes p_length p_at p_sign p_place p_number p_fault), [], 0)) 2 rfl trivial ?_
    exact (ok_X7_takeEndOfClause_53 ) _ _ _ _ _ _ _ _ h
theorem em_X7_takeEndOfClause {X : Nat × (Nat → Int32)} {N : Nat} {q_sum : Int32} {q_clauses : Int32} {q_values : Int32} {q_tested : Int32} {q_pile : Nat → Int32} {p_bytes : Nat → Int32} {p_length : Int32} {p_at : Int32} {p_sign : Int32} {p_place : Int32} {p_number : Int32} {q_state : Int32} {q_code : Nat → Int32} {q_length : Int32} {q_top : Int32} {q_depth : Int32} {q_open : Int32} {p_fault : Int32} {Q : (Int32) → (Nat → Int32) → (Int32) → (Int32) → (Int32) → (Int32) → (Int32) → Prop} (h : wp_X7_takeEndOfClause N q_tested q_pile p_sign p_place Q q_state q_code q_length q_top q_depth q_open p_fault) : EM (ax_GG X) m_X7_takeEndOfClause [.ref 0] (w_qp (.ref 3) q_state q_sum q_clauses q_values q_tested q_code q_length q_pile q_top q_depth q_open p_bytes p_length p_at p_sign p_place p_number p_fault) (po_X7_takeEndOfClause q_sum q_clauses q_values q_tested q_pile p_bytes p_length p_at p_sign p_place p_number Q) := by
  unfold wp_X7_takeEndOfClause at h
  show EV _ _ _ (0, [some (.ref 0)], [], (w_qp (.ref 3) q_state q_sum q_clauses q_values q_tested q_code q_length q_pile q_top q_depth q_open p_bytes p_length p_at p_sign p_place p_number p_fault), [], 0)
  refine EV.seg (c' := (9, [some (.ref 0)], [.int (59 : Int32), .int p_sign], (w_qp (.ref 3) q_state q_sum q_clauses q_values q_tested q_code q_length q_pile q_top q_depth q_open p_bytes p_length p_at p_sign p_place p_number p_fault), [], 0)) 4 rfl trivial ?_
  refine EV.br (c1 := (34, [some (.ref 0)], [], (w_qp (.ref 3) q_state q_sum q_clauses q_values q_tested q_code q_length q_pile q_top q_depth q_open p_bytes p_length p_at p_sign p_place p_number p_fault), [], 0)) (c2 := (12, [some (.ref 0)], [], (w_qp (.ref 3) q_state q_sum q_clauses q_values q_tested q_code q_length q_pile q_top q_depth q_open p_bytes p_length p_at p_sign p_place p_number p_fault), [], 0)) rfl (fun hc => ?_) (fun hc => ?_)
  · have h := h.1 hc
    exact (ok_X7_takeEndOfClause_34 ) _ _ _ _ _ _ _ h
  · have h := h.2 hc
    refine EV.seg (c' := (22, [some (.ref 0)], [.int (256 : Int32), .int p_sign], (w_qp (.ref 3) q_state q_sum q_clauses q_values q_tested q_code q_length q_pile q_top q_depth q_open p_bytes p_length p_at p_sign p_place p_number p_fault), [], 0)) 4 rfl trivial ?_
    refine EV.br (c1 := (34, [some (.ref 0)], [], (w_qp (.ref 3) q_state q_sum q_clauses q_values q_tested q_code q_length q_pile q_top q_depth q_open p_bytes p_length p_at p_sign p_place p_number p_fault), [], 0)) (c2 := (25, [some (.ref 0)], [], (w_qp (.ref 3) q_state q_sum q_clauses q_values q_tested q_code q_length q_pile q_top q_depth q_open p_bytes p_length p_at p_sign p_place p_number p_fault), [], 0)) rfl (fun hc => ?_) (fun hc => ?_)
    · have h := h.1 hc
      exact (ok_X7_takeEndOfClause_34 ) _ _ _ _ _ _ _ h
    · have h := h.2 hc
      refine EV.seg (c' := (30, [some (.ref 0)], [.int (0 : Int32), .ref 3], (w_qp (.ref 3) q_state q_sum q_clauses q_values q_tested q_code q_length q_pile q_top q_depth q_open p_bytes p_length p_at p_sign p_place p_number p_fault), [], 0)) 3 rfl trivial ?_
      refine EV.callL (M' := m_X9_fail) (L := [3, 4]) rfl rfl ⟨rfl, Nat.le_of_ble_eq_true rfl⟩ rfl rfl (em_X9_fail (p_bytes := p_bytes) (p_length := p_length) (p_at := p_at) (p_sign := p_sign) (p_place := p_place) (p_number := p_number) (p_fault := p_fault) h) (fun out ho => ?_)
      obtain ⟨m1, rfl, h⟩ := ho
      show EV _ _ _ (33, [some (.ref 0)], [], (w_qp (.ref 3) q_state q_sum q_clauses q_values q_tested q_code q_length q_pile q_top q_depth q_open p_bytes p_length p_at p_sign p_place p_number m1), [], 0)
      exact EV.ret rfl trivial ⟨_, _, _, _, _, _, _, rfl, h⟩
abbrev po_X7_takeBehindFact (q_sum : Int32) (q_clauses : Int32) (q_values : Int32) (q_tested : Int32) (p_bytes : Nat → Int32) (p_length : Int32) (p_at : Int32) (p_sign : Int32) (p_place : Int32) (p_number : Int32) (Q : (Int32) → (Nat → Int32) → (Int32) → (Nat → Int32) → (Int32) → (Int32) → (Int32) → (Int32) → Prop) : ax_E → Prop := fun out => ∃ (q_state' : Int32) (q_code' : Nat → Int32) (q_length' : Int32) (q_pile' : Nat → Int32) (q_top' : Int32) (q_depth' : Int32) (q_open' : Int32) (p_fault' : Int32), out = (none, (w_qp (.ref 3) q_state' q_sum q_clauses q_values q_tested q_code' q_length' q_pile' q_top' q_depth' q_open' p_bytes p_length p_at p_sign p_place p_number p_fault'), [], 0) ∧ Q q_state' q_code' q_length' q_pile' q_top' q_depth' q_open' p_fault'
theorem ok_X7_takeBehindFact_97 {X : Nat × (Nat → Int32)} {N : Nat} {q_sum : Int32} {q_clauses : Int32} {q_values : Int32} {q_tested : Int32} {p_bytes : Nat → Int32} {p_length : Int32} {p_at : Int32} {p_sign : Int32} {p_place : Int32} {p_number : Int32}  {Q : (Int32) → (Nat → Int32) → (Int32) → (Nat → Int32) → (Int32) → (Int32) → (Int32) → (Int32) → Prop}  : ∀ (q_state : Int32) (q_code : Nat → Int32) (q_length : Int32) (q_pile : Nat → Int32) (q_top : Int32) (q_depth : Int32) (q_open : Int32) (p_fault : Int32), wp_X7_takeBehindFact_97 N q_tested p_sign p_place  Q  q_state q_code q_length q_pile q_top q_depth q_open p_fault → EV (ax_GG X) m_X7_takeBehindFact (po_X7_takeBehindFact q_sum q_clauses q_values q_tested p_bytes p_length p_at p_sign p_place p_number Q) (97, [none], [], (w_qp (.ref 3) q_state q_sum q_clauses q_values q_tested q_code q_length q_pile q_top q_depth q_open p_bytes p_length p_at p_sign p_place p_number p_fault), [], 0) := by
  intro q_state q_code q_length q_pile q_top q_depth q_open p_fault h
  unfold wp_X7_takeBehindFact_97 at h
  exact EV.ret rfl trivial ⟨_, _, _, _, _, _, _, _, rfl, h⟩
theorem ok_X7_takeBehindFact_35 {X : Nat × (Nat → Int32)} {N : Nat} {q_sum : Int32} {q_clauses : Int32} {q_values : Int32} {q_tested : Int32} {p_bytes : Nat → Int32} {p_length : Int32} {p_at : Int32} {p_sign : Int32} {p_place : Int32} {p_number : Int32} {K97 : (Int32) → (Nat → Int32) → (Int32) → (Nat → Int32) → (Int32) → (Int32) → (Int32) → (Int32) → Prop} {Q : (Int32) → (Nat → Int32) → (Int32) → (Nat → Int32) → (Int32) → (Int32) → (Int32) → (Int32) → Prop} (hK97 : ∀ (q_state : Int32) (q_code : Nat → Int32) (q_length : Int32) (q_pile : Nat → Int32) (q_top : Int32) (q_depth : Int32) (q_open : Int32) (p_fault : Int32), K97 q_state q_code q_length q_pile q_top q_depth q_open p_fault → EV (ax_GG X) m_X7_takeBehindFact (po_X7_takeBehindFact q_sum q_clauses q_values q_tested p_bytes p_length p_at p_sign p_place p_number Q) (97, [none], [], (w_qp (.ref 3) q_state q_sum q_clauses q_values q_tested q_code q_length q_pile q_top q_depth q_open p_bytes p_length p_at p_sign p_place p_number p_fault), [], 0)) : ∀ (s0 : Int32) (q_state : Int32) (q_code : Nat → Int32) (q_length : Int32) (q_pile : Nat → Int32) (q_top : Int32) (q_depth : Int32) (q_open : Int32) (p_fault : Int32), wp_X7_takeBehindFact_35 N q_tested p_sign p_place K97 Q  s0 q_state q_code q_length q_pile q_top q_depth q_open p_fault → EV (ax_GG X) m_X7_takeBehindFact (po_X7_takeBehindFact q_sum q_clauses q_values q_tested p_bytes p_length p_at p_sign p_place p_number Q) (35, [some (.ref 0)], [.int s0, .ref 0], (w_qp (.ref 3) q_state q_sum q_clauses q_values q_tested q_code q_length q_pile q_top q_depth q_open p_bytes p_length p_at p_sign p_place p_number p_fault), [], 0) := by
  intro s0 q_state q_code q_length q_pile q_top q_depth q_open p_fault h
  unfold wp_X7_takeBehindFact_35 at h
  refine EV.call (M' := m_X7_layBehindStronger) rfl rfl (Nat.le_of_ble_eq_true rfl) (em_X7_layBehindStronger (q_state := q_state) (q_sum := q_sum) (q_clauses := q_clauses) (q_values := q_values) (q_tested := q_tested) (p_bytes := p_bytes) (p_length := p_length) (p_at := p_at) (p_sign := p_sign) (p_place := p_place) (p_number := p_number) (p_fault := p_fault) (q_code := q_code) (q_length := q_length) (q_pile := q_pile) (q_top := q_top) (q_depth := q_depth) (q_open := q_open) h) (fun out ho => ?_)
  obtain ⟨m21, m22, m23, m24, m25, m26, rfl, h⟩ := ho
  show EV _ _ _ (38, [some (.ref 0)], [], (w_qp (.ref 3) q_state q_sum q_clauses q_values q_tested m21 m22 m23 m24 m25 m26 p_bytes p_length p_at p_sign p_place p_number p_fault), [], 0)
  refine EV.seg (c' := (97, [some (.ref 0)], [], (w_qp (.ref 3) (2 : Int32) q_sum q_clauses q_values q_tested m21 m22 m23 m24 m25 m26 p_bytes p_length p_at p_sign p_place p_number p_fault), [], 0)) 4 rfl trivial ?_
  refine EV.mask (ls' := [none]) rfl rfl ?_
  exact hK97 _ _ _ _ _ _ _ _ h
theorem ok_X7_takeBehindFact_18 {X : Nat × (Nat → Int32)} {N : Nat} {q_sum : Int32} {q_clauses : Int32} {q_values : Int32} {q_tested : Int32} {p_bytes : Nat → Int32} {p_length : Int32} {p_at : Int32} {p_sign : Int32} {p_place : Int32} {p_number : Int32} {K97 : (Int32) → (Nat → Int32) → (Int32) → (Nat → Int32) → (Int32) → (Int32) → (Int32) → (Int32) → Prop} {Q : (Int32) → (Nat → Int32) → (Int32) → (Nat → Int32) → (Int32) → (Int32) → (Int32) → (Int32) → Prop} (hK97 : ∀ (q_state : Int32) (q_code : Nat → Int32) (q_length : Int32) (q_pile : Nat → Int32) (q_top : Int32) (q_depth : Int32) (q_open : Int32) (p_fault : Int32), K97 q_state q_code q_length q_pile q_top q_depth q_open p_fault → EV (ax_GG X) m_X7_takeBehindFact (po_X7_takeBehindFact q_sum q_clauses q_values q_tested p_bytes p_length p_at p_sign p_place p_number Q) (97, [none], [], (w_qp (.ref 3) q_state q_sum q_clauses q_values q_tested q_code q_length q_pile q_top q_depth q_open p_bytes p_length p_at p_sign p_place p_number p_fault), [], 0)) : ∀ (q_state : Int32) (q_code : Nat → Int32) (q_length : Int32) (q_pile : Nat → Int32) (q_top : Int32) (q_depth : Int32) (q_open : Int32) (p_fault : Int32), wp_X7_takeBehindFact_18 N q_tested p_sign p_place K97 Q  q_state q_code q_length q_pile q_top q_depth q_open p_fault → EV (ax_GG X) m_X7_takeBehindFact (po_X7_takeBehindFact q_sum q_clauses q_values q_tested p_bytes p_length p_at p_sign p_place p_number Q) (18, [some (.ref 0)], [], (w_qp (.ref 3) q_state q_sum q_clauses q_values q_tested q_code q_length q_pile q_top q_depth q_open p_bytes p_length p_at p_sign p_place p_number p_fault), [], 0) := by
  intro q_state q_code q_length q_pile q_top q_depth q_open p_fault h
  unfold wp_X7_takeBehindFact_18 at h
  refine EV.seg (c' := (22, [some (.ref 0)], [.int (12 : Int32), .ref 0, .ref 0], (w_qp (.ref 3) q_state q_sum q_clauses q_values q_tested q_code q_length q_pile q_top q_depth q_open p_bytes p_length p_at p_sign p_place p_number p_fault), [], 0)) 3 rfl trivial ?_
  refine EV.call (M' := m_X7_isWord) rfl rfl (Nat.le_of_ble_eq_true rfl) (em_X7_isWord (q_state := q_state) (q_sum := q_sum) (q_clauses := q_clauses) (q_values := q_values) (q_tested := q_tested) (q_code := q_code) (q_length := q_length) (q_pile := q_pile) (q_top := q_top) (q_depth := q_depth) (q_open := q_open) (p_bytes := p_bytes) (p_length := p_length) (p_at := p_at) (p_sign := p_sign) (p_place := p_place) (p_number := p_number) (p_fault := p_fault)  h) (fun out ho => ?_)
  obtain ⟨r20, rfl, h⟩ := ho
  show EV _ _ _ (25, [some (.ref 0)], [.int r20, .ref 0], (w_qp (.ref 3) q_state q_sum q_clauses q_values q_tested q_code q_length q_pile q_top q_depth q_open p_bytes p_length p_at p_sign p_place p_number p_fault), [], 0)
  refine EV.br (c1 := (33, [some (.ref 0)], [.ref 0], (w_qp (.ref 3) q_state q_sum q_clauses q_values q_tested q_code q_length q_pile q_top q_depth q_open p_bytes p_length p_at p_sign p_place p_number p_fault), [], 0)) (c2 := (28, [some (.ref 0)], [.ref 0], (w_qp (.ref 3) q_state q_sum q_clauses q_values q_tested q_code q_length q_pile q_top q_depth q_open p_bytes p_length p_at p_sign p_place p_number p_fault), [], 0)) rfl (fun hc => ?_) (fun hc => ?_)
  · have h := h.1 hc
    refine EV.seg (c' := (35, [some (.ref 0)], [.int (14 : Int32), .ref 0], (w_qp (.ref 3) q_state q_sum q_clauses q_values q_tested q_code q_length q_pile q_top q_depth q_open p_bytes p_length p_at p_sign p_place p_number p_fault), [], 0)) 1 rfl trivial ?_
    exact (ok_X7_takeBehindFact_35 hK97) _ _ _ _ _ _ _ _ _ h
  · have h := h.2 hc
    refine EV.seg (c' := (35, [some (.ref 0)], [.int (13 : Int32), .ref 0], (w_qp (.ref 3) q_state q_sum q_clauses q_values q_tested q_code q_length q_pile q_top q_depth q_open p_bytes p_length p_at p_sign p_place p_number p_fault), [], 0)) 2 rfl trivial ?_
    exact (ok_X7_takeBehindFact_35 hK97) _ _ _ _ _ _ _ _ _ h
theorem em_X7_takeBehindFact {X : Nat × (Nat → Int32)} {N : Nat} {q_sum : Int32} {q_clauses : Int32} {q_values : Int32} {q_tested : Int32} {p_bytes : Nat → Int32} {p_length : Int32} {p_at : Int32} {p_sign : Int32} {p_place : Int32} {p_number : Int32} {q_state : Int32} {q_code : Nat → Int32} {q_length : Int32} {q_pile : Nat → Int32} {q_top : Int32} {q_depth : Int32} {q_open : Int32} {p_fault : Int32} {Q : (Int32) → (Nat → Int32) → (Int32) → (Nat → Int32) → (Int32) → (Int32) → (Int32) → (Int32) → Prop} (h : wp_X7_takeBehindFact N q_tested p_sign p_place Q q_state q_code q_length q_pile q_top q_depth q_open p_fault) : EM (ax_GG X) m_X7_takeBehindFact [.ref 0] (w_qp (.ref 3) q_state q_sum q_clauses q_values q_tested q_code q_length q_pile q_top q_depth q_open p_bytes p_length p_at p_sign p_place p_number p_fault) (po_X7_takeBehindFact q_sum q_clauses q_values q_tested p_bytes p_length p_at p_sign p_place p_number Q) := by
  unfold wp_X7_takeBehindFact at h
  show EV _ _ _ (0, [some (.ref 0)], [], (w_qp (.ref 3) q_state q_sum q_clauses q_values q_tested q_code q_length q_pile q_top q_depth q_open p_bytes p_length p_at p_sign p_place p_number p_fault), [], 0)
  refine EV.seg (c' := (3, [some (.ref 0)], [.int (12 : Int32), .ref 0], (w_qp (.ref 3) q_state q_sum q_clauses q_values q_tested q_code q_length q_pile q_top q_depth q_open p_bytes p_length p_at p_sign p_place p_number p_fault), [], 0)) 2 rfl trivial ?_
  refine EV.call (M' := m_X7_isWord) rfl rfl (Nat.le_of_ble_eq_true rfl) (em_X7_isWord (q_state := q_state) (q_sum := q_sum) (q_clauses := q_clauses) (q_values := q_values) (q_tested := q_tested) (q_code := q_code) (q_length := q_length) (q_pile := q_pile) (q_top := q_top) (q_depth := q_depth) (q_open := q_open) (p_bytes := p_bytes) (p_length := p_length) (p_at := p_at) (p_sign := p_sign) (p_place := p_place) (p_number := p_number) (p_fault := p_fault)  h) (fun out ho => ?_)
  obtain ⟨r1, rfl, h⟩ := ho
  show EV _ _ _ (6, [some (.ref 0)], [.int r1], (w_qp (.ref 3) q_state q_sum q_clauses q_values q_tested q_code q_length q_pile q_top q_depth q_open p_bytes p_length p_at p_sign p_place p_number p_fault), [], 0)
  refine EV.br (c1 := (9, [some (.ref 0)], [], (w_qp (.ref 3) q_state q_sum q_clauses q_values q_tested q_code q_length q_pile q_top q_depth q_open p_bytes p_length p_at p_sign p_place p_number p_fault), [], 0)) (c2 := (18, [some (.ref 0)], [], (w_qp (.ref 3) q_state q_sum q_clauses q_values q_tested q_code q_length q_pile q_top q_depth q_open p_bytes p_length p_at p_sign p_place p_number p_fault), [], 0)) rfl (fun hc => ?_) (fun hc => ?_)
  · have h := h.1 hc
    refine EV.seg (c' := (12, [some (.ref 0)], [.int (13 : Int32), .ref 0], (w_qp (.ref 3) q_state q_sum q_clauses q_values q_tested q_code q_length q_pile q_top q_depth q_open p_bytes p_length p_at p_sign p_place p_number p_fault), [], 0)) 2 rfl trivial ?_
    refine EV.call (M' := m_X7_isWord) rfl rfl (Nat.le_of_ble_eq_true rfl) (em_X7_isWord (q_state := q_state) (q_sum := q_sum) (q_clauses := q_clauses) (q_values := q_values) (q_tested := q_tested) (q_code := q_code) (q_length := q_length) (q_pile := q_pile) (q_top := q_top) (q_depth := q_depth) (q_open := q_open) (p_bytes := p_bytes) (p_length := p_length) (p_at := p_at) (p_sign := p_sign) (p_place := p_place) (p_number := p_number) (p_fault := p_fault)  h) (fun out ho => ?_)
    obtain ⟨r2, rfl, h⟩ := ho
    show EV _ _ _ (15, [some (.ref 0)], [.int r2], (w_qp (.ref 3) q_state q_sum q_clauses q_values q_tested q_code q_length q_pile q_top q_depth q_open p_bytes p_length p_at p_sign p_place p_number p_fault), [], 0)
    refine EV.br (c1 := (46, [some (.ref 0)], [], (w_qp (.ref 3) q_state q_sum q_clauses q_values q_tested q_code q_length q_pile q_top q_depth q_open p_bytes p_length p_at p_sign p_place p_number p_fault), [], 0)) (c2 := (18, [some (.ref 0)], [], (w_qp (.ref 3) q_state q_sum q_clauses q_values q_tested q_code q_length q_pile q_top q_depth q_open p_bytes p_length p_at p_sign p_place p_number p_fault), [], 0)) rfl (fun hc => ?_) (fun hc => ?_)
    · have h := h.1 hc
      refine EV.seg (c' := (50, [some (.ref 0)], [.int q_open], (w_qp (.ref 3) q_state q_sum q_clauses q_values q_tested q_code q_length q_pile q_top q_depth q_open p_bytes p_length p_at p_sign p_place p_number p_fault), [], 0)) 2 rfl trivial ?_
      refine EV.br (c1 := (53, [some (.ref 0)], [], (w_qp (.ref 3) q_state q_sum q_clauses q_values q_tested q_code q_length q_pile q_top q_depth q_open p_bytes p_length p_at p_sign p_place p_number p_fault), [], 0)) (c2 := (60, [some (.ref 0)], [], (w_qp (.ref 3) q_state q_sum q_clauses q_values q_tested q_code q_length q_pile q_top q_depth q_open p_bytes p_length p_at p_sign p_place p_number p_fault), [], 0)) rfl (fun hc => ?_) (fun hc => ?_)
      · have h := h.1 hc
        refine EV.seg (c' := (54, [some (.ref 0)], [.ref 0], (w_qp (.ref 3) q_state q_sum q_clauses q_values q_tested q_code q_length q_pile q_top q_depth q_open p_bytes p_length p_at p_sign p_place p_number p_fault), [], 0)) 1 rfl trivial ?_
        refine EV.call (M' := m_X7_takeEndOfClause) rfl rfl (Nat.le_of_ble_eq_true rfl) (em_X7_takeEndOfClause (q_sum := q_sum) (q_clauses := q_clauses) (q_values := q_values) (q_tested := q_tested) (q_pile := q_pile) (p_bytes := p_bytes) (p_length := p_length) (p_at := p_at) (p_sign := p_sign) (p_place := p_place) (p_number := p_number) (q_state := q_state) (q_code := q_code) (q_length := q_length) (q_top := q_top) (q_depth := q_depth) (q_open := q_open) (p_fault := p_fault) h) (fun out ho => ?_)
        obtain ⟨m3, m4, m5, m6, m7, m8, m9, rfl, h⟩ := ho
        show EV _ _ _ (57, [some (.ref 0)], [], (w_qp (.ref 3) m3 q_sum q_clauses q_values q_tested m4 m5 q_pile m6 m7 m8 p_bytes p_length p_at p_sign p_place p_number m9), [], 0)
        refine EV.seg (c' := (97, [some (.ref 0)], [], (w_qp (.ref 3) m3 q_sum q_clauses q_values q_tested m4 m5 q_pile m6 m7 m8 p_bytes p_length p_at p_sign p_place p_number m9), [], 0)) 1 rfl trivial ?_
        refine EV.mask (ls' := [none]) rfl rfl ?_
        exact (ok_X7_takeBehindFact_97 ) _ _ _ _ _ _ _ _ h
      · have h := h.2 hc
        refine EV.seg (c' := (69, [some (.ref 0)], [.int (93 : Int32), .int p_sign], (w_qp (.ref 3) q_state q_sum q_clauses q_values q_tested q_code q_length q_pile q_top q_depth q_open p_bytes p_length p_at p_sign p_place p_number p_fault), [], 0)) 4 rfl trivial ?_
        refine EV.br (c1 := (72, [some (.ref 0)], [], (w_qp (.ref 3) q_state q_sum q_clauses q_values q_tested q_code q_length q_pile q_top q_depth q_open p_bytes p_length p_at p_sign p_place p_number p_fault), [], 0)) (c2 := (89, [some (.ref 0)], [], (w_qp (.ref 3) q_state q_sum q_clauses q_values q_tested q_code q_length q_pile q_top q_depth q_open p_bytes p_length p_at p_sign p_place p_number p_fault), [], 0)) rfl (fun hc => ?_) (fun hc => ?_)
        · have h := h.1 hc
          refine EV.seg (c' := (73, [some (.ref 0)], [.ref 0], (w_qp (.ref 3) q_state q_sum q_clauses q_values q_tested q_code q_length q_pile q_top q_depth q_open p_bytes p_length p_at p_sign p_place p_number p_fault), [], 0)) 1 rfl trivial ?_
          refine EV.call (M' := m_X7_writeWaiting) rfl rfl (Nat.le_of_ble_eq_true rfl) (em_X7_writeWaiting (q_state := q_state) (q_sum := q_sum) (q_clauses := q_clauses) (q_values := q_values) (q_tested := q_tested) (q_pile := q_pile) (p_bytes := p_bytes) (p_length := p_length) (p_at := p_at) (p_sign := p_sign) (p_place := p_place) (p_number := p_number) (p_fault := p_fault) (q_code := q_code) (q_length := q_length) (q_top := q_top) (q_depth := q_depth) (q_open := q_open) h) (fun out ho => ?_)
          obtain ⟨m10, m11, m12, m13, m14, rfl, h⟩ := ho
          show EV _ _ _ (76, [some (.ref 0)], [], (w_qp (.ref 3) q_state q_sum q_clauses q_values q_tested m10 m11 q_pile m12 m13 m14 p_bytes p_length p_at p_sign p_place p_number p_fault), [], 0)
          refine EV.seg (c' := (77, [some (.ref 0)], [.ref 0], (w_qp (.ref 3) q_state q_sum q_clauses q_values q_tested m10 m11 q_pile m12 m13 m14 p_bytes p_length p_at p_sign p_place p_number p_fault), [], 0)) 1 rfl trivial ?_
          refine EV.call (M' := m_X7_takeFromPile) rfl rfl (Nat.le_of_ble_eq_true rfl) (em_X7_takeFromPile (q_state := q_state) (q_sum := q_sum) (q_clauses := q_clauses) (q_values := q_values) (q_tested := q_tested) (q_code := m10) (q_length := m11) (q_pile := q_pile) (p_bytes := p_bytes) (p_length := p_length) (p_at := p_at) (p_sign := p_sign) (p_place := p_place) (p_number := p_number) (p_fault := p_fault) (q_top := m12) (q_depth := m13) (q_open := m14) h) (fun out ho => ?_)
          obtain ⟨r15, m16, m17, m18, rfl, h⟩ := ho
          show EV _ _ _ (80, [some (.ref 0)], [.int r15], (w_qp (.ref 3) q_state q_sum q_clauses q_values q_tested m10 m11 q_pile m16 m17 m18 p_bytes p_length p_at p_sign p_place p_number p_fault), [], 0)
          refine EV.seg (c' := (97, [some (.ref 0)], [], (w_qp (.ref 3) (4 : Int32) q_sum q_clauses q_values q_tested m10 m11 q_pile m16 m17 m18 p_bytes p_length p_at p_sign p_place p_number p_fault), [], 0)) 5 rfl trivial ?_
          refine EV.mask (ls' := [none]) rfl rfl ?_
          exact (ok_X7_takeBehindFact_97 ) _ _ _ _ _ _ _ _ h
        · have h := h.2 hc
          refine EV.seg (c' := (94, [some (.ref 0)], [.int (0 : Int32), .ref 3], (w_qp (.ref 3) q_state q_sum q_clauses q_values q_tested q_code q_length q_pile q_top q_depth q_open p_bytes p_length p_at p_sign p_place p_number p_fault), [], 0)) 3 rfl trivial ?_
          refine EV.callL (M' := m_X9_fail) (L := [3, 4]) rfl rfl ⟨rfl, Nat.le_of_ble_eq_true rfl⟩ rfl rfl (em_X9_fail (p_bytes := p_bytes) (p_length := p_length) (p_at := p_at) (p_sign := p_sign) (p_place := p_place) (p_number := p_number) (p_fault := p_fault) h) (fun out ho => ?_)
          obtain ⟨m19, rfl, h⟩ := ho
          show EV _ _ _ (97, [some (.ref 0)], [], (w_qp (.ref 3) q_state q_sum q_clauses q_values q_tested q_code q_length q_pile q_top q_depth q_open p_bytes p_length p_at p_sign p_place p_number m19), [], 0)
          refine EV.mask (ls' := [none]) rfl rfl ?_
          exact (ok_X7_takeBehindFact_97 ) _ _ _ _ _ _ _ _ h
    · have h := h.2 hc
      exact (ok_X7_takeBehindFact_18 (ok_X7_takeBehindFact_97 )) _ _ _ _ _ _ _ _ h
  · have h := h.2 hc
    exact (ok_X7_takeBehindFact_18 (ok_X7_takeBehindFact_97 )) _ _ _ _ _ _ _ _ h
