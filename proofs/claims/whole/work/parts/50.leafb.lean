/-! typed predicates of methods, and that the small machine keeps them: by program -/
abbrev po_J7_fill_53178 (y0_len : Nat) (Q : (Nat → Int32) → Prop) : ax_E → Prop := fun out => ∃ (y0_a' : Nat → Int32), out = (none, (w_y0 y0_len y0_a'), [], 0) ∧ Q y0_a'
def wp_J7_fill_53178_5 (N : Nat) (y0_len : Nat)  (Q : (Nat → Int32) → Prop) : Nat → (Int32) → (Int32) → (Int32) → (Nat → Int32) → Prop
  | 0, _, _, _, _ => False
  | n + 1, v1, v2, v3, y0_a => ((v3 ≤ v2 → Q y0_a) ∧ (¬ (v3 ≤ v2) → vp_in v2 y0_len ∧ (∀ a2 : Nat → Int32, a2 = upd y0_a v2.toNatClampNeg v1 → (wp_J7_fill_53178_5 N y0_len  Q n) v1 (v2 + 1) v3 a2)))
def wp_J7_fill_53178 (N : Nat) (y0_len : Nat) (Q : (Nat → Int32) → Prop) (p0 : Int32) (y0_a : Nat → Int32) : Prop := (∀ x1 : Int32, x1 = Int32.ofNat y0_len → (wp_J7_fill_53178_5 N y0_len  Q N) p0 (0 : Int32) x1 y0_a)
theorem ok_J7_fill_53178_5 {X : Nat × (Nat → Int32)} {N : Nat} {y0_len : Nat}  {Q : (Nat → Int32) → Prop}  : ∀ (n : Nat) (v1 : Int32) (v2 : Int32) (v3 : Int32) (y0_a : Nat → Int32), wp_J7_fill_53178_5 N y0_len  Q n v1 v2 v3 y0_a → EV (ax_GG X) m_J7_fill_53178 (po_J7_fill_53178 y0_len Q) (5, [some (.ref 0), some (.int v1), some (.int v2), some (.int v3)], [], (w_y0 y0_len y0_a), [], 0) := by
  intro n
  induction n with
  | zero => intro _ _ _ _ h; exact h.elim
  | succ n ih =>
    intro v1 v2 v3 y0_a h
    unfold wp_J7_fill_53178_5 at h
    refine EV.seg (c' := (7, [some (.ref 0), some (.int v1), some (.int v2), some (.int v3)], [.int v3, .int v2], (w_y0 y0_len y0_a), [], 0)) 2 rfl trivial ?_
    refine EV.br (c1 := (20, [some (.ref 0), some (.int v1), some (.int v2), some (.int v3)], [], (w_y0 y0_len y0_a), [], 0)) (c2 := (10, [some (.ref 0), some (.int v1), some (.int v2), some (.int v3)], [], (w_y0 y0_len y0_a), [], 0)) rfl (fun hc => ?_) (fun hc => ?_)
    · have h := h.1 hc
      exact EV.ret rfl trivial ⟨_, rfl, h⟩
    · have h := h.2 hc
      obtain ⟨g1, h⟩ := h
      refine EV.seg (c' := (14, [some (.ref 0), some (.int v1), some (.int v2), some (.int v3)], [], (w_y0 y0_len (upd y0_a v2.toNatClampNeg v1)), [], 0)) 4 rfl (And.intro g1 trivial) ?_
      obtain ⟨a2, e_a2⟩ : ∃ z : Nat → Int32, z = upd y0_a v2.toNatClampNeg v1 := ⟨_, rfl⟩
      have h := h a2 e_a2
      rw [← e_a2]
      refine EV.seg (c' := (5, [some (.ref 0), some (.int v1), some (.int (v2 + 1)), some (.int v3)], [], (w_y0 y0_len a2), [], 0)) 2 rfl trivial ?_
      exact ih _ _ _ _ h
theorem em_J7_fill_53178 {X : Nat × (Nat → Int32)} {N : Nat} {y0_len : Nat} {p0 : Int32} {y0_a : Nat → Int32} {Q : (Nat → Int32) → Prop} (h : wp_J7_fill_53178 N y0_len Q p0 y0_a) : EM (ax_GG X) m_J7_fill_53178 [.ref 0, .int p0] (w_y0 y0_len y0_a) (po_J7_fill_53178 y0_len Q) := by
  unfold wp_J7_fill_53178 at h
  show EV _ _ _ (0, [some (.ref 0), some (.int p0), none, none], [], (w_y0 y0_len y0_a), [], 0)
  refine EV.seg (c' := (5, [some (.ref 0), some (.int p0), some (.int (0 : Int32)), some (.int (Int32.ofNat y0_len))], [], (w_y0 y0_len y0_a), [], 0)) 5 rfl trivial ?_
  obtain ⟨x1, e_x1⟩ : ∃ z : Int32, z = Int32.ofNat y0_len := ⟨_, rfl⟩
  have h := h x1 e_x1
  rw [← e_x1]
  exact (ok_J7_fill_53178_5  N) _ _ _ _ h
abbrev po_J6_bitCount_0f7a4 (w0 : ax_W) (Q : Int32 → Prop) : ax_E → Prop := fun out => ∃ (r : Int32), out = (some (.int r), w0, [], 0) ∧ Q r
def wp_J6_bitCount_0f7a4 (N : Nat)  (Q : Int32 → Prop) (p0 : Int32) : Prop := (∀ x1 : Int32, x1 = p0 - (((p0.toUInt32 >>> ((1 : Int32).toUInt32 &&& Int32.toUInt32 31)).toInt32) &&& (1431655765 : Int32)) → (∀ x2 : Int32, x2 = (x1 &&& (858993459 : Int32)) + (((x1.toUInt32 >>> ((2 : Int32).toUInt32 &&& Int32.toUInt32 31)).toInt32) &&& (858993459 : Int32)) → (∀ x3 : Int32, x3 = (x2 + ((x2.toUInt32 >>> ((4 : Int32).toUInt32 &&& Int32.toUInt32 31)).toInt32)) &&& (252645135 : Int32) → (∀ x4 : Int32, x4 = x3 + ((x3.toUInt32 >>> ((8 : Int32).toUInt32 &&& Int32.toUInt32 31)).toInt32) → (∀ x5 : Int32, x5 = x4 + ((x4.toUInt32 >>> ((16 : Int32).toUInt32 &&& Int32.toUInt32 31)).toInt32) → Q (x5 &&& (63 : Int32)))))))
theorem em_J6_bitCount_0f7a4 {X : Nat × (Nat → Int32)} {N : Nat} {w0 : ax_W} {p0 : Int32} {Q : Int32 → Prop} (h : wp_J6_bitCount_0f7a4 N  Q p0) : EM (ax_GG X) m_J6_bitCount_0f7a4 [.int p0] w0 (po_J6_bitCount_0f7a4 w0 Q) := by
  unfold wp_J6_bitCount_0f7a4 at h
  show EV _ _ _ (0, [some (.int p0)], [], w0, [], 0)
  refine EV.seg (c' := (10, [some (.int (p0 - (((p0.toUInt32 >>> ((1 : Int32).toUInt32 &&& Int32.toUInt32 31)).toInt32) &&& (1431655765 : Int32))))], [], w0, [], 0)) 8 rfl trivial ?_
  obtain ⟨x1, e_x1⟩ : ∃ z : Int32, z = p0 - (((p0.toUInt32 >>> ((1 : Int32).toUInt32 &&& Int32.toUInt32 31)).toInt32) &&& (1431655765 : Int32)) := ⟨_, rfl⟩
  have h := h x1 e_x1
  rw [← e_x1]
  refine EV.seg (c' := (24, [some (.int ((x1 &&& (858993459 : Int32)) + (((x1.toUInt32 >>> ((2 : Int32).toUInt32 &&& Int32.toUInt32 31)).toInt32) &&& (858993459 : Int32))))], [], w0, [], 0)) 10 rfl trivial ?_
  obtain ⟨x2, e_x2⟩ : ∃ z : Int32, z = (x1 &&& (858993459 : Int32)) + (((x1.toUInt32 >>> ((2 : Int32).toUInt32 &&& Int32.toUInt32 31)).toInt32) &&& (858993459 : Int32)) := ⟨_, rfl⟩
  have h := h x2 e_x2
  rw [← e_x2]
  refine EV.seg (c' := (34, [some (.int ((x2 + ((x2.toUInt32 >>> ((4 : Int32).toUInt32 &&& Int32.toUInt32 31)).toInt32)) &&& (252645135 : Int32)))], [], w0, [], 0)) 8 rfl trivial ?_
  obtain ⟨x3, e_x3⟩ : ∃ z : Int32, z = (x2 + ((x2.toUInt32 >>> ((4 : Int32).toUInt32 &&& Int32.toUInt32 31)).toInt32)) &&& (252645135 : Int32) := ⟨_, rfl⟩
  have h := h x3 e_x3
  rw [← e_x3]
  refine EV.seg (c' := (41, [some (.int (x3 + ((x3.toUInt32 >>> ((8 : Int32).toUInt32 &&& Int32.toUInt32 31)).toInt32)))], [], w0, [], 0)) 6 rfl trivial ?_
  obtain ⟨x4, e_x4⟩ : ∃ z : Int32, z = x3 + ((x3.toUInt32 >>> ((8 : Int32).toUInt32 &&& Int32.toUInt32 31)).toInt32) := ⟨_, rfl⟩
  have h := h x4 e_x4
  rw [← e_x4]
  refine EV.seg (c' := (48, [some (.int (x4 + ((x4.toUInt32 >>> ((16 : Int32).toUInt32 &&& Int32.toUInt32 31)).toInt32)))], [], w0, [], 0)) 6 rfl trivial ?_
  obtain ⟨x5, e_x5⟩ : ∃ z : Int32, z = x4 + ((x4.toUInt32 >>> ((16 : Int32).toUInt32 &&& Int32.toUInt32 31)).toInt32) := ⟨_, rfl⟩
  have h := h x5 e_x5
  rw [← e_x5]
  refine EV.seg (c' := (52, [some (.int x5)], [.int (x5 &&& (63 : Int32))], w0, [], 0)) 3 rfl trivial ?_
  exact EV.ret rfl trivial ⟨_, rfl, h⟩
abbrev po_X5_weight (e_many : Int32) (e_spring : Int32) (e_leapable : Nat → Int32) (e_found : Int32) (e_whereOf : Nat → Int32) (e_rows : Nat → Int32) (e_from : Nat → Int32) (e_depth : Nat → Int32) (e_order : Nat → Int32) (e_places : Nat → Int32) (e_lesser : Nat → Int32) (Q : Int32 → Prop) : ax_E → Prop := fun out => ∃ (r : Int32), out = (some (.int r), (w_e e_many e_spring e_leapable e_found e_whereOf e_rows e_from e_depth e_order e_places e_lesser), [], 0) ∧ Q r
def wp_X5_weight (N : Nat) (e_many : Int32) (Q : Int32 → Prop) (p0 : Int32) : Prop := vp_in ((e_many - (1 : Int32)) - p0) 8 ∧ Q (ax_fac ((e_many - (1 : Int32)) - p0).toNatClampNeg)
theorem em_X5_weight {X : Nat × (Nat → Int32)} {N : Nat} {e_many : Int32} {e_spring : Int32} {e_leapable : Nat → Int32} {e_found : Int32} {e_whereOf : Nat → Int32} {e_rows : Nat → Int32} {e_from : Nat → Int32} {e_depth : Nat → Int32} {e_order : Nat → Int32} {e_places : Nat → Int32} {e_lesser : Nat → Int32} {p0 : Int32} {Q : Int32 → Prop} (h : wp_X5_weight N e_many Q p0) : EM (ax_GG X) m_X5_weight [.ref 0, .int p0] (w_e e_many e_spring e_leapable e_found e_whereOf e_rows e_from e_depth e_order e_places e_lesser) (po_X5_weight e_many e_spring e_leapable e_found e_whereOf e_rows e_from e_depth e_order e_places e_lesser Q) := by
  unfold wp_X5_weight at h
  show EV _ _ _ (0, [some (.ref 0), some (.int p0)], [], (w_e e_many e_spring e_leapable e_found e_whereOf e_rows e_from e_depth e_order e_places e_lesser), [], 0)
  obtain ⟨g1, h⟩ := h
  refine EV.seg (c' := (12, [some (.ref 0), some (.int p0)], [.int (ax_fac ((e_many - (1 : Int32)) - p0).toNatClampNeg)], (w_e e_many e_spring e_leapable e_found e_whereOf e_rows e_from e_depth e_order e_places e_lesser), [], 0)) 8 rfl (And.intro g1 trivial) ?_
  exact EV.ret rfl trivial ⟨_, rfl, h⟩
abbrev po_X5_rank (e_many : Int32) (e_spring : Int32) (e_leapable : Nat → Int32) (e_found : Int32) (e_whereOf : Nat → Int32) (e_rows : Nat → Int32) (e_from : Nat → Int32) (e_depth : Nat → Int32) (e_order : Nat → Int32) (e_places : Nat → Int32) (Q : Int32 → (Nat → Int32) → Prop) : ax_E → Prop := fun out => ∃ (r : Int32) (e_lesser' : Nat → Int32), out = (some (.int r), (w_e e_many e_spring e_leapable e_found e_whereOf e_rows e_from e_depth e_order e_places e_lesser'), [], 0) ∧ Q r e_lesser'
def wp_X5_rank_6 (N : Nat) (e_many : Int32) (e_order : Nat → Int32)  (Q : Int32 → (Nat → Int32) → Prop) : Nat → (Int32) → (Int32) → (Int32) → (Nat → Int32) → Prop
  | 0, _, _, _, _ => False
  | n + 1, v1, v2, v3, e_lesser => ((e_many ≤ v3 → Q v1 e_lesser) ∧ (¬ (e_many ≤ v3) → vp_in v3 7 ∧ (∀ x1 : Int32, x1 = e_order v3.toNatClampNeg → wp_J6_bitCount_0f7a4 N  (fun r2 => vp_in v3 7 ∧ (∀ a3 : Nat → Int32, a3 = upd e_lesser v3.toNatClampNeg (x1 - r2) → (∀ x4 : Int32, x4 = v2 ||| ((1 : Int32) <<< (x1 &&& 31)) → vp_in v3 7 ∧ wp_X5_weight N e_many (fun r5 => (∀ x6 : Int32, x6 = v1 + ((a3 v3.toNatClampNeg) * r5) → (wp_X5_rank_6 N e_many e_order  Q n) x6 x4 (v3 + 1) a3)) v3 ))) (v2 &&& (((1 : Int32) <<< (x1 &&& 31)) - (1 : Int32))) )))
def wp_X5_rank (N : Nat) (e_many : Int32) (e_order : Nat → Int32) (Q : Int32 → (Nat → Int32) → Prop) (e_lesser : Nat → Int32) : Prop := (wp_X5_rank_6 N e_many e_order  Q N) (0 : Int32) (0 : Int32) (0 : Int32) e_lesser
theorem ok_X5_rank_6 {X : Nat × (Nat → Int32)} {N : Nat} {e_many : Int32} {e_spring : Int32} {e_leapable : Nat → Int32} {e_found : Int32} {e_whereOf : Nat → Int32} {e_rows : Nat → Int32} {e_from : Nat → Int32} {e_depth : Nat → Int32} {e_order : Nat → Int32} {e_places : Nat → Int32}  {Q : Int32 → (Nat → Int32) → Prop}  : ∀ (n : Nat) (v1 : Int32) (v2 : Int32) (v3 : Int32) (e_lesser : Nat → Int32), wp_X5_rank_6 N e_many e_order  Q n v1 v2 v3 e_lesser → EV (ax_GG X) m_X5_rank (po_X5_rank e_many e_spring e_leapable e_found e_whereOf e_rows e_from e_depth e_order e_places Q) (6, [some (.ref 0), some (.int v1), some (.int v2), some (.int v3), none], [], (w_e e_many e_spring e_leapable e_found e_whereOf e_rows e_from e_depth e_order e_places e_lesser), [], 0) := by
  intro n
  induction n with
  | zero => intro _ _ _ _ h; exact h.elim
  | succ n ih =>
    intro v1 v2 v3 e_lesser h
    unfold wp_X5_rank_6 at h
    refine EV.seg (c' := (11, [some (.ref 0), some (.int v1), some (.int v2), some (.int v3), none], [.int e_many, .int v3], (w_e e_many e_spring e_leapable e_found e_whereOf e_rows e_from e_depth e_order e_places e_lesser), [], 0)) 3 rfl trivial ?_
    refine EV.br (c1 := (70, [some (.ref 0), some (.int v1), some (.int v2), some (.int v3), none], [], (w_e e_many e_spring e_leapable e_found e_whereOf e_rows e_from e_depth e_order e_places e_lesser), [], 0)) (c2 := (14, [some (.ref 0), some (.int v1), some (.int v2), some (.int v3), none], [], (w_e e_many e_spring e_leapable e_found e_whereOf e_rows e_from e_depth e_order e_places e_lesser), [], 0)) rfl (fun hc => ?_) (fun hc => ?_)
    · have h := h.1 hc
      refine EV.seg (c' := (71, [some (.ref 0), some (.int v1), some (.int v2), some (.int v3), none], [.int v1], (w_e e_many e_spring e_leapable e_found e_whereOf e_rows e_from e_depth e_order e_places e_lesser), [], 0)) 1 rfl trivial ?_
      exact EV.ret rfl trivial ⟨_, _, rfl, h⟩
    · have h := h.2 hc
      obtain ⟨g1, h⟩ := h
      refine EV.seg (c' := (22, [some (.ref 0), some (.int v1), some (.int v2), some (.int v3), some (.int (e_order v3.toNatClampNeg))], [], (w_e e_many e_spring e_leapable e_found e_whereOf e_rows e_from e_depth e_order e_places e_lesser), [], 0)) 5 rfl (And.intro g1 trivial) ?_
      obtain ⟨x1, e_x1⟩ : ∃ z : Int32, z = e_order v3.toNatClampNeg := ⟨_, rfl⟩
      have h := h x1 e_x1
      rw [← e_x1]
      refine EV.seg (c' := (37, [some (.ref 0), some (.int v1), some (.int v2), some (.int v3), some (.int x1)], [.int (v2 &&& (((1 : Int32) <<< (x1 &&& 31)) - (1 : Int32))), .int x1, .int v3, .ref 8], (w_e e_many e_spring e_leapable e_found e_whereOf e_rows e_from e_depth e_order e_places e_lesser), [], 0)) 11 rfl trivial ?_
      refine EV.call (M' := m_J6_bitCount_0f7a4) rfl rfl (Nat.le_of_ble_eq_true rfl) (em_J6_bitCount_0f7a4  h) (fun out ho => ?_)
      obtain ⟨r2, rfl, h⟩ := ho
      show EV _ _ _ (40, [some (.ref 0), some (.int v1), some (.int v2), some (.int v3), some (.int x1)], [.int r2, .int x1, .int v3, .ref 8], (w_e e_many e_spring e_leapable e_found e_whereOf e_rows e_from e_depth e_order e_places e_lesser), [], 0)
      obtain ⟨g1, h⟩ := h
      refine EV.seg (c' := (42, [some (.ref 0), some (.int v1), some (.int v2), some (.int v3), some (.int x1)], [], (w_e e_many e_spring e_leapable e_found e_whereOf e_rows e_from e_depth e_order e_places (upd e_lesser v3.toNatClampNeg (x1 - r2))), [], 0)) 2 rfl (And.intro g1 trivial) ?_
      obtain ⟨a3, e_a3⟩ : ∃ z : Nat → Int32, z = upd e_lesser v3.toNatClampNeg (x1 - r2) := ⟨_, rfl⟩
      have h := h a3 e_a3
      rw [← e_a3]
      refine EV.seg (c' := (49, [some (.ref 0), some (.int v1), some (.int (v2 ||| ((1 : Int32) <<< (x1 &&& 31)))), some (.int v3), some (.int x1)], [], (w_e e_many e_spring e_leapable e_found e_whereOf e_rows e_from e_depth e_order e_places a3), [], 0)) 6 rfl trivial ?_
      obtain ⟨x4, e_x4⟩ : ∃ z : Int32, z = v2 ||| ((1 : Int32) <<< (x1 &&& 31)) := ⟨_, rfl⟩
      have h := h x4 e_x4
      rw [← e_x4]
      obtain ⟨g1, h⟩ := h
      refine EV.seg (c' := (58, [some (.ref 0), some (.int v1), some (.int x4), some (.int v3), some (.int x1)], [.int v3, .ref 0, .int (a3 v3.toNatClampNeg), .int v1], (w_e e_many e_spring e_leapable e_found e_whereOf e_rows e_from e_depth e_order e_places a3), [], 0)) 7 rfl (And.intro g1 trivial) ?_
      refine EV.call (M' := m_X5_weight) rfl rfl (Nat.le_of_ble_eq_true rfl) (em_X5_weight (e_many := e_many) (e_spring := e_spring) (e_leapable := e_leapable) (e_found := e_found) (e_whereOf := e_whereOf) (e_rows := e_rows) (e_from := e_from) (e_depth := e_depth) (e_order := e_order) (e_places := e_places) (e_lesser := a3)  h) (fun out ho => ?_)
      obtain ⟨r5, rfl, h⟩ := ho
      show EV _ _ _ (61, [some (.ref 0), some (.int v1), some (.int x4), some (.int v3), some (.int x1)], [.int r5, .int (a3 v3.toNatClampNeg), .int v1], (w_e e_many e_spring e_leapable e_found e_whereOf e_rows e_from e_depth e_order e_places a3), [], 0)
      refine EV.seg (c' := (64, [some (.ref 0), some (.int (v1 + ((a3 v3.toNatClampNeg) * r5))), some (.int x4), some (.int v3), some (.int x1)], [], (w_e e_many e_spring e_leapable e_found e_whereOf e_rows e_from e_depth e_order e_places a3), [], 0)) 3 rfl trivial ?_
      obtain ⟨x6, e_x6⟩ : ∃ z : Int32, z = v1 + ((a3 v3.toNatClampNeg) * r5) := ⟨_, rfl⟩
      have h := h x6 e_x6
      rw [← e_x6]
      refine EV.seg (c' := (6, [some (.ref 0), some (.int x6), some (.int x4), some (.int (v3 + 1)), some (.int x1)], [], (w_e e_many e_spring e_leapable e_found e_whereOf e_rows e_from e_depth e_order e_places a3), [], 0)) 2 rfl trivial ?_
      refine EV.mask (ls' := [some (.ref 0), some (.int x6), some (.int x4), some (.int (v3 + 1)), none]) rfl rfl ?_
      exact ih _ _ _ _ h
theorem em_X5_rank {X : Nat × (Nat → Int32)} {N : Nat} {e_many : Int32} {e_spring : Int32} {e_leapable : Nat → Int32} {e_found : Int32} {e_whereOf : Nat → Int32} {e_rows : Nat → Int32} {e_from : Nat → Int32} {e_depth : Nat → Int32} {e_order : Nat → Int32} {e_places : Nat → Int32} {e_lesser : Nat → Int32} {Q : Int32 → (Nat → Int32) → Prop} (h : wp_X5_rank N e_many e_order Q e_lesser) : EM (ax_GG X) m_X5_rank [.ref 0] (w_e e_many e_spring e_leapable e_found e_whereOf e_rows e_from e_depth e_order e_places e_lesser) (po_X5_rank e_many e_spring e_leapable e_found e_whereOf e_rows e_from e_depth e_order e_places Q) := by
  unfold wp_X5_rank at h
  show EV _ _ _ (0, [some (.ref 0), none, none, none, none], [], (w_e e_many e_spring e_leapable e_found e_whereOf e_rows e_from e_depth e_order e_places e_lesser), [], 0)
  refine EV.seg (c' := (6, [some (.ref 0), some (.int (0 : Int32)), some (.int (0 : Int32)), some (.int (0 : Int32)), none], [], (w_e e_many e_spring e_leapable e_found e_whereOf e_rows e_from e_depth e_order e_places e_lesser), [], 0)) 6 rfl trivial ?_
  exact (ok_X5_rank_6  N) _ _ _ _ h
abbrev po_X5_add (e_many : Int32) (e_spring : Int32) (e_leapable : Nat → Int32) (e_order : Nat → Int32) (e_places : Nat → Int32) (e_lesser : Nat → Int32) (Q : (Int32) → (Nat → Int32) → (Nat → Int32) → (Nat → Int32) → (Nat → Int32) → Prop) : ax_E → Prop := fun out => ∃ (e_found' : Int32) (e_whereOf' : Nat → Int32) (e_rows' : Nat → Int32) (e_from' : Nat → Int32) (e_depth' : Nat → Int32), out = (none, (w_e e_many e_spring e_leapable e_found' e_whereOf' e_rows' e_from' e_depth' e_order e_places e_lesser), [], 0) ∧ Q e_found' e_whereOf' e_rows' e_from' e_depth'
def wp_X5_add_84 (N : Nat)   (Q : (Int32) → (Nat → Int32) → (Nat → Int32) → (Nat → Int32) → (Nat → Int32) → Prop) (v1 : Int32) (s0 : Int32) (s1 : Int32) (e_found : Int32) (e_whereOf : Nat → Int32) (e_rows : Nat → Int32) (e_from : Nat → Int32) (e_depth : Nat → Int32) : Prop := vp_in s1 5040 ∧ (∀ a3 : Nat → Int32, a3 = upd e_depth s1.toNatClampNeg s0 → vp_in v1 5040 ∧ (∀ a4 : Nat → Int32, a4 = upd e_whereOf v1.toNatClampNeg (e_found + (1 : Int32)) → Q (e_found + (1 : Int32)) a4 e_rows e_from a3))
def wp_X5_add_30 (N : Nat)   (Q : (Int32) → (Nat → Int32) → (Nat → Int32) → (Nat → Int32) → (Nat → Int32) → Prop) (e_found : Int32) (e_whereOf : Nat → Int32) (e_rows : Nat → Int32) (e_from : Nat → Int32) (e_depth : Nat → Int32) : Prop := Q e_found e_whereOf e_rows e_from e_depth
def wp_X5_add (N : Nat)  (Q : (Int32) → (Nat → Int32) → (Nat → Int32) → (Nat → Int32) → (Nat → Int32) → Prop) (p0 : Int32) (p1 : Int32) (p2 : Int32) (p3 : Int32) (e_found : Int32) (e_whereOf : Nat → Int32) (e_rows : Nat → Int32) (e_from : Nat → Int32) (e_depth : Nat → Int32) : Prop := (((5040 : Int32) ≤ e_found → (wp_X5_add_30 N   Q) e_found e_whereOf e_rows e_from e_depth) ∧ (¬ ((5040 : Int32) ≤ e_found) → ((p0 < 0 → (wp_X5_add_30 N   Q) e_found e_whereOf e_rows e_from e_depth) ∧ (¬ (p0 < 0) → (((5040 : Int32) ≤ p0 → (wp_X5_add_30 N   Q) e_found e_whereOf e_rows e_from e_depth) ∧ (¬ ((5040 : Int32) ≤ p0) → vp_in p0 5040 ∧ (((e_whereOf p0.toNatClampNeg) = 0 → vp_in e_found 5040 ∧ (∀ a1 : Nat → Int32, a1 = upd e_rows e_found.toNatClampNeg p1 → vp_in e_found 5040 ∧ (∀ a2 : Nat → Int32, a2 = upd e_from e_found.toNatClampNeg ((p2 <<< ((6 : Int32) &&& 31)) ||| p3) → ((e_found = 0 → (wp_X5_add_84 N   Q) p0 (0 : Int32) e_found e_found e_whereOf a1 a2 e_depth) ∧ (¬ (e_found = 0) → vp_in p2 5040 ∧ (wp_X5_add_84 N   Q) p0 ((e_depth p2.toNatClampNeg) + (1 : Int32)) e_found e_found e_whereOf a1 a2 e_depth))))) ∧ (¬ ((e_whereOf p0.toNatClampNeg) = 0) → (wp_X5_add_30 N   Q) e_found e_whereOf e_rows e_from e_depth))))))))
theorem ok_X5_add_84 {X : Nat × (Nat → Int32)} {N : Nat} {e_many : Int32} {e_spring : Int32} {e_leapable : Nat → Int32} {e_order : Nat → Int32} {e_places : Nat → Int32} {e_lesser : Nat → Int32}  {Q : (Int32) → (Nat → Int32) → (Nat → Int32) → (Nat → Int32) → (Nat → Int32) → Prop}  : ∀ (v1 : Int32) (s0 : Int32) (s1 : Int32) (e_found : Int32) (e_whereOf : Nat → Int32) (e_rows : Nat → Int32) (e_from : Nat → Int32) (e_depth : Nat → Int32), wp_X5_add_84 N   Q  v1 s0 s1 e_found e_whereOf e_rows e_from e_depth → EV (ax_GG X) m_X5_add (po_X5_add e_many e_spring e_leapable e_order e_places e_lesser Q) (84, [some (.ref 0), some (.int v1), none, none, none], [.int s0, .int s1, .ref 5], (w_e e_many e_spring e_leapable e_found e_whereOf e_rows e_from e_depth e_order e_places e_lesser), [], 0) := by
  intro v1 s0 s1 e_found e_whereOf e_rows e_from e_depth h
  unfold wp_X5_add_84 at h
  obtain ⟨g1, h⟩ := h
  refine EV.seg (c' := (85, [some (.ref 0), some (.int v1), none, none, none], [], (w_e e_many e_spring e_leapable e_found e_whereOf e_rows e_from (upd e_depth s1.toNatClampNeg s0) e_order e_places e_lesser), [], 0)) 1 rfl (And.intro g1 trivial) ?_
  obtain ⟨a3, e_a3⟩ : ∃ z : Nat → Int32, z = upd e_depth s1.toNatClampNeg s0 := ⟨_, rfl⟩
  have h := h a3 e_a3
  rw [← e_a3]
  obtain ⟨g1, h⟩ := h
  refine EV.seg (c' := (105, [some (.ref 0), some (.int v1), none, none, none], [], (w_e e_many e_spring e_leapable (e_found + (1 : Int32)) (upd e_whereOf v1.toNatClampNeg (e_found + (1 : Int32))) e_rows e_from a3 e_order e_places e_lesser), [], 0)) 12 rfl (And.intro g1 trivial) ?_
  obtain ⟨a4, e_a4⟩ : ∃ z : Nat → Int32, z = upd e_whereOf v1.toNatClampNeg (e_found + (1 : Int32)) := ⟨_, rfl⟩
  have h := h a4 e_a4
  rw [← e_a4]
  exact EV.ret rfl trivial ⟨_, _, _, _, _, rfl, h⟩
theorem ok_X5_add_30 {X : Nat × (Nat → Int32)} {N : Nat} {e_many : Int32} {e_spring : Int32} {e_leapable : Nat → Int32} {e_order : Nat → Int32} {e_places : Nat → Int32} {e_lesser : Nat → Int32}  {Q : (Int32) → (Nat → Int32) → (Nat → Int32) → (Nat → Int32) → (Nat → Int32) → Prop}  : ∀ (e_found : Int32) (e_whereOf : Nat → Int32) (e_rows : Nat → Int32) (e_from : Nat → Int32) (e_depth : Nat → Int32), wp_X5_add_30 N   Q  e_found e_whereOf e_rows e_from e_depth → EV (ax_GG X) m_X5_add (po_X5_add e_many e_spring e_leapable e_order e_places e_lesser Q) (30, [none, none, none, none, none], [], (w_e e_many e_spring e_leapable e_found e_whereOf e_rows e_from e_depth e_order e_places e_lesser), [], 0) := by
  intro e_found e_whereOf e_rows e_from e_depth h
  unfold wp_X5_add_30 at h
  exact EV.ret rfl trivial ⟨_, _, _, _, _, rfl, h⟩
theorem em_X5_add {X : Nat × (Nat → Int32)} {N : Nat} {e_many : Int32} {e_spring : Int32} {e_leapable : Nat → Int32} {e_order : Nat → Int32} {e_places : Nat → Int32} {e_lesser : Nat → Int32} {p0 : Int32} {p1 : Int32} {p2 : Int32} {p3 : Int32} {e_found : Int32} {e_whereOf : Nat → Int32} {e_rows : Nat → Int32} {e_from : Nat → Int32} {e_depth : Nat → Int32} {Q : (Int32) → (Nat → Int32) → (Nat → Int32) → (Nat → Int32) → (Nat → Int32) → Prop} (h : wp_X5_add N  Q p0 p1 p2 p3 e_found e_whereOf e_rows e_from e_depth) : EM (ax_GG X) m_X5_add [.ref 0, .int p0, .int p1, .int p2, .int p3] (w_e e_many e_spring e_leapable e_found e_whereOf e_rows e_from e_depth e_order e_places e_lesser) (po_X5_add e_many e_spring e_leapable e_order e_places e_lesser Q) := by
  unfold wp_X5_add at h
  show EV _ _ _ (0, [some (.ref 0), some (.int p0), some (.int p1), some (.int p2), some (.int p3)], [], (w_e e_many e_spring e_leapable e_found e_whereOf e_rows e_from e_depth e_order e_places e_lesser), [], 0)
  refine EV.seg (c' := (7, [some (.ref 0), some (.int p0), some (.int p1), some (.int p2), some (.int p3)], [.int (5040 : Int32), .int e_found], (w_e e_many e_spring e_leapable e_found e_whereOf e_rows e_from e_depth e_order e_places e_lesser), [], 0)) 3 rfl trivial ?_
  refine EV.br (c1 := (30, [some (.ref 0), some (.int p0), some (.int p1), some (.int p2), some (.int p3)], [], (w_e e_many e_spring e_leapable e_found e_whereOf e_rows e_from e_depth e_order e_places e_lesser), [], 0)) (c2 := (10, [some (.ref 0), some (.int p0), some (.int p1), some (.int p2), some (.int p3)], [], (w_e e_many e_spring e_leapable e_found e_whereOf e_rows e_from e_depth e_order e_places e_lesser), [], 0)) rfl (fun hc => ?_) (fun hc => ?_)
  · have h := h.1 hc
    refine EV.mask (ls' := [none, none, none, none, none]) rfl rfl ?_
    exact (ok_X5_add_30 ) _ _ _ _ _ h
  · have h := h.2 hc
    refine EV.seg (c' := (11, [some (.ref 0), some (.int p0), some (.int p1), some (.int p2), some (.int p3)], [.int p0], (w_e e_many e_spring e_leapable e_found e_whereOf e_rows e_from e_depth e_order e_places e_lesser), [], 0)) 1 rfl trivial ?_
    refine EV.br (c1 := (30, [some (.ref 0), some (.int p0), some (.int p1), some (.int p2), some (.int p3)], [], (w_e e_many e_spring e_leapable e_found e_whereOf e_rows e_from e_depth e_order e_places e_lesser), [], 0)) (c2 := (14, [some (.ref 0), some (.int p0), some (.int p1), some (.int p2), some (.int p3)], [], (w_e e_many e_spring e_leapable e_found e_whereOf e_rows e_from e_depth e_order e_places e_lesser), [], 0)) rfl (fun hc => ?_) (fun hc => ?_)
    · have h := h.1 hc
      refine EV.mask (ls' := [none, none, none, none, none]) rfl rfl ?_
      exact (ok_X5_add_30 ) _ _ _ _ _ h
    · have h := h.2 hc
      refine EV.seg (c' := (18, [some (.ref 0), some (.int p0), some (.int p1), some (.int p2), some (.int p3)], [.int (5040 : Int32), .int p0], (w_e e_many e_spring e_leapable e_found e_whereOf e_rows e_from e_depth e_order e_places e_lesser), [], 0)) 2 rfl trivial ?_
      refine EV.br (c1 := (30, [some (.ref 0), some (.int p0), some (.int p1), some (.int p2), some (.int p3)], [], (w_e e_many e_spring e_leapable e_found e_whereOf e_rows e_from e_depth e_order e_places e_lesser), [], 0)) (c2 := (21, [some (.ref 0), some (.int p0), some (.int p1), some (.int p2), some (.int p3)], [], (w_e e_many e_spring e_leapable e_found e_whereOf e_rows e_from e_depth e_order e_places e_lesser), [], 0)) rfl (fun hc => ?_) (fun hc => ?_)
      · have h := h.1 hc
        refine EV.mask (ls' := [none, none, none, none, none]) rfl rfl ?_
        exact (ok_X5_add_30 ) _ _ _ _ _ h
      · have h := h.2 hc
        obtain ⟨g1, h⟩ := h
        refine EV.seg (c' := (27, [some (.ref 0), some (.int p0), some (.int p1), some (.int p2), some (.int p3)], [.int (e_whereOf p0.toNatClampNeg)], (w_e e_many e_spring e_leapable e_found e_whereOf e_rows e_from e_depth e_order e_places e_lesser), [], 0)) 4 rfl (And.intro g1 trivial) ?_
        refine EV.br (c1 := (31, [some (.ref 0), some (.int p0), some (.int p1), some (.int p2), some (.int p3)], [], (w_e e_many e_spring e_leapable e_found e_whereOf e_rows e_from e_depth e_order e_places e_lesser), [], 0)) (c2 := (30, [some (.ref 0), some (.int p0), some (.int p1), some (.int p2), some (.int p3)], [], (w_e e_many e_spring e_leapable e_found e_whereOf e_rows e_from e_depth e_order e_places e_lesser), [], 0)) rfl (fun hc => ?_) (fun hc => ?_)
        · have h := h.1 hc
          obtain ⟨g1, h⟩ := h
          refine EV.seg (c' := (41, [some (.ref 0), some (.int p0), some (.int p1), some (.int p2), some (.int p3)], [], (w_e e_many e_spring e_leapable e_found e_whereOf (upd e_rows e_found.toNatClampNeg p1) e_from e_depth e_order e_places e_lesser), [], 0)) 6 rfl (And.intro g1 trivial) ?_
          obtain ⟨a1, e_a1⟩ : ∃ z : Nat → Int32, z = upd e_rows e_found.toNatClampNeg p1 := ⟨_, rfl⟩
          have h := h a1 e_a1
          rw [← e_a1]
          obtain ⟨g1, h⟩ := h
          refine EV.seg (c' := (57, [some (.ref 0), some (.int p0), some (.int p1), some (.int p2), some (.int p3)], [], (w_e e_many e_spring e_leapable e_found e_whereOf a1 (upd e_from e_found.toNatClampNeg ((p2 <<< ((6 : Int32) &&& 31)) ||| p3)) e_depth e_order e_places e_lesser), [], 0)) 10 rfl (And.intro g1 trivial) ?_
          obtain ⟨a2, e_a2⟩ : ∃ z : Nat → Int32, z = upd e_from e_found.toNatClampNeg ((p2 <<< ((6 : Int32) &&& 31)) ||| p3) := ⟨_, rfl⟩
          have h := h a2 e_a2
          rw [← e_a2]
          refine EV.seg (c' := (69, [some (.ref 0), some (.int p0), some (.int p1), some (.int p2), some (.int p3)], [.int e_found, .int e_found, .ref 5], (w_e e_many e_spring e_leapable e_found e_whereOf a1 a2 e_depth e_order e_places e_lesser), [], 0)) 6 rfl trivial ?_
          refine EV.br (c1 := (72, [some (.ref 0), some (.int p0), some (.int p1), some (.int p2), some (.int p3)], [.int e_found, .ref 5], (w_e e_many e_spring e_leapable e_found e_whereOf a1 a2 e_depth e_order e_places e_lesser), [], 0)) (c2 := (76, [some (.ref 0), some (.int p0), some (.int p1), some (.int p2), some (.int p3)], [.int e_found, .ref 5], (w_e e_many e_spring e_leapable e_found e_whereOf a1 a2 e_depth e_order e_places e_lesser), [], 0)) rfl (fun hc => ?_) (fun hc => ?_)
          · have h := h.1 hc
            refine EV.seg (c' := (84, [some (.ref 0), some (.int p0), some (.int p1), some (.int p2), some (.int p3)], [.int (0 : Int32), .int e_found, .ref 5], (w_e e_many e_spring e_leapable e_found e_whereOf a1 a2 e_depth e_order e_places e_lesser), [], 0)) 2 rfl trivial ?_
            refine EV.mask (ls' := [some (.ref 0), some (.int p0), none, none, none]) rfl rfl ?_
            exact (ok_X5_add_84 ) _ _ _ _ _ _ _ _ h
          · have h := h.2 hc
            obtain ⟨g1, h⟩ := h
            refine EV.seg (c' := (84, [some (.ref 0), some (.int p0), some (.int p1), some (.int p2), some (.int p3)], [.int ((e_depth p2.toNatClampNeg) + (1 : Int32)), .int e_found, .ref 5], (w_e e_many e_spring e_leapable e_found e_whereOf a1 a2 e_depth e_order e_places e_lesser), [], 0)) 6 rfl (And.intro g1 trivial) ?_
            refine EV.mask (ls' := [some (.ref 0), some (.int p0), none, none, none]) rfl rfl ?_
            exact (ok_X5_add_84 ) _ _ _ _ _ _ _ _ h
        · have h := h.2 hc
          refine EV.mask (ls' := [none, none, none, none, none]) rfl rfl ?_
          exact (ok_X5_add_30 ) _ _ _ _ _ h
abbrev po_X5_leapFrom (e_many : Int32) (e_spring : Int32) (e_leapable : Nat → Int32) (e_order : Nat → Int32) (e_places : Nat → Int32) (e_lesser : Nat → Int32) (Q : (Int32) → (Nat → Int32) → (Nat → Int32) → (Nat → Int32) → (Nat → Int32) → Prop) : ax_E → Prop := fun out => ∃ (e_found' : Int32) (e_whereOf' : Nat → Int32) (e_rows' : Nat → Int32) (e_from' : Nat → Int32) (e_depth' : Nat → Int32), out = (none, (w_e e_many e_spring e_leapable e_found' e_whereOf' e_rows' e_from' e_depth' e_order e_places e_lesser), [], 0) ∧ Q e_found' e_whereOf' e_rows' e_from' e_depth'
def wp_X5_leapFrom_203 (N : Nat) (e_many : Int32) (e_spring : Int32) (e_leapable : Nat → Int32) (e_order : Nat → Int32) (e_lesser : Nat → Int32)  (Q : (Int32) → (Nat → Int32) → (Nat → Int32) → (Nat → Int32) → (Nat → Int32) → Prop) (e_found : Int32) (e_whereOf : Nat → Int32) (e_rows : Nat → Int32) (e_from : Nat → Int32) (e_depth : Nat → Int32) : Prop := Q e_found e_whereOf e_rows e_from e_depth
def wp_X5_leapFrom_120 (N : Nat) (e_many : Int32) (e_spring : Int32) (e_leapable : Nat → Int32) (e_order : Nat → Int32) (e_lesser : Nat → Int32) (K30 : (Int32) → (Int32) → (Int32) → (Int32) → (Int32) → (Int32) → (Int32) → (Int32) → (Nat → Int32) → (Nat → Int32) → (Nat → Int32) → (Nat → Int32) → Prop) (Q : (Int32) → (Nat → Int32) → (Nat → Int32) → (Nat → Int32) → (Nat → Int32) → Prop) (v1 : Int32) (v3 : Int32) (v4 : Int32) (v5 : Int32) (v6 : Int32) (v7 : Int32) (v8 : Int32) (v9 : Int32) (v10 : Int32) (v11 : Int32) (s0 : Int32) (e_found : Int32) (e_whereOf : Nat → Int32) (e_rows : Nat → Int32) (e_from : Nat → Int32) (e_depth : Nat → Int32) : Prop := vp_in v9 7 ∧ wp_X5_weight N e_many (fun r6 => wp_X5_weight N e_many (fun r7 => (∀ x8 : Int32, x8 = v6 + (((v11 - (e_lesser v9.toNatClampNeg)) * r6) + ((s0 - v7) * r7)) → (∀ x9 : Int32, x9 = v5 ^^^ (((v4 ^^^ v10) * (9 : Int32)) <<< (((3 : Int32) * v9) &&& 31)) → wp_X5_add N  (fun m10 m11 m12 m13 m14 => K30 v1 v3 v4 x9 x8 v11 (v8 + 1) m10 m11 m12 m13 m14) x8 x9 v1 ((v4 <<< ((3 : Int32) &&& 31)) ||| v8) e_found e_whereOf e_rows e_from e_depth))) (v9 + (1 : Int32)) ) v9 
def wp_X5_leapFrom_92 (N : Nat) (e_many : Int32) (e_spring : Int32) (e_leapable : Nat → Int32) (e_order : Nat → Int32) (e_lesser : Nat → Int32) (K30 : (Int32) → (Int32) → (Int32) → (Int32) → (Int32) → (Int32) → (Int32) → (Int32) → (Nat → Int32) → (Nat → Int32) → (Nat → Int32) → (Nat → Int32) → Prop) (Q : (Int32) → (Nat → Int32) → (Nat → Int32) → (Nat → Int32) → (Nat → Int32) → Prop) (v1 : Int32) (v3 : Int32) (v4 : Int32) (v5 : Int32) (v6 : Int32) (v7 : Int32) (v8 : Int32) (v9 : Int32) (v10 : Int32) (s0 : Int32) (e_found : Int32) (e_whereOf : Nat → Int32) (e_rows : Nat → Int32) (e_from : Nat → Int32) (e_depth : Nat → Int32) : Prop := ((v4 ≤ v10 → vp_in v9 7 ∧ (wp_X5_leapFrom_120 N e_many e_spring e_leapable e_order e_lesser K30 Q) v1 v3 v4 v5 v6 v7 v8 v9 v10 s0 ((e_lesser v9.toNatClampNeg) - (1 : Int32)) e_found e_whereOf e_rows e_from e_depth) ∧ (¬ (v4 ≤ v10) → vp_in v9 7 ∧ (wp_X5_leapFrom_120 N e_many e_spring e_leapable e_order e_lesser K30 Q) v1 v3 v4 v5 v6 v7 v8 v9 v10 s0 (e_lesser v9.toNatClampNeg) e_found e_whereOf e_rows e_from e_depth))
def wp_X5_leapFrom_30 (N : Nat) (e_many : Int32) (e_spring : Int32) (e_leapable : Nat → Int32) (e_order : Nat → Int32) (e_lesser : Nat → Int32)  (Q : (Int32) → (Nat → Int32) → (Nat → Int32) → (Nat → Int32) → (Nat → Int32) → Prop) : Nat → (Int32) → (Int32) → (Int32) → (Int32) → (Int32) → (Int32) → (Int32) → (Int32) → (Nat → Int32) → (Nat → Int32) → (Nat → Int32) → (Nat → Int32) → Prop
  | 0, _, _, _, _, _, _, _, _, _, _, _, _ => False
  | n + 1, v1, v3, v4, v5, v6, v7, v8, e_found, e_whereOf, e_rows, e_from, e_depth => ((e_spring < v8 → (wp_X5_leapFrom_203 N e_many e_spring e_leapable e_order e_lesser  Q) e_found e_whereOf e_rows e_from e_depth) ∧ (¬ (e_spring < v8) → ((v3 < v8 → (wp_X5_leapFrom_203 N e_many e_spring e_leapable e_order e_lesser  Q) e_found e_whereOf e_rows e_from e_depth) ∧ (¬ (v3 < v8) → (∀ x4 : Int32, x4 = v3 - v8 → vp_in x4 7 ∧ (∀ x5 : Int32, x5 = e_order x4.toNatClampNeg → vp_in v4 7 ∧ (((((e_leapable v4.toNatClampNeg) >>> (x5 &&& 31)) &&& (1 : Int32)) = 0 → Q e_found e_whereOf e_rows e_from e_depth) ∧ (¬ ((((e_leapable v4.toNatClampNeg) >>> (x5 &&& 31)) &&& (1 : Int32)) = 0) → ((v4 ≤ x5 → (wp_X5_leapFrom_92 N e_many e_spring e_leapable e_order e_lesser (wp_X5_leapFrom_30 N e_many e_spring e_leapable e_order e_lesser  Q n) Q) v1 v3 v4 v5 v6 v7 v8 x4 x5 v7 e_found e_whereOf e_rows e_from e_depth) ∧ (¬ (v4 ≤ x5) → (wp_X5_leapFrom_92 N e_many e_spring e_leapable e_order e_lesser (wp_X5_leapFrom_30 N e_many e_spring e_leapable e_order e_lesser  Q n) Q) v1 v3 v4 v5 v6 v7 v8 x4 x5 (v7 + (1 : Int32)) e_found e_whereOf e_rows e_from e_depth))))))))))
def wp_X5_leapFrom (N : Nat) (e_many : Int32) (e_spring : Int32) (e_leapable : Nat → Int32) (e_order : Nat → Int32) (e_lesser : Nat → Int32) (Q : (Int32) → (Nat → Int32) → (Nat → Int32) → (Nat → Int32) → (Nat → Int32) → Prop) (p0 : Int32) (p1 : Int32) (p2 : Int32) (e_found : Int32) (e_whereOf : Nat → Int32) (e_rows : Nat → Int32) (e_from : Nat → Int32) (e_depth : Nat → Int32) : Prop := vp_in p2 7 ∧ (∀ x1 : Int32, x1 = e_order p2.toNatClampNeg → vp_in p0 5040 ∧ (∀ x2 : Int32, x2 = e_rows p0.toNatClampNeg → vp_in p2 7 ∧ (∀ x3 : Int32, x3 = e_lesser p2.toNatClampNeg → (wp_X5_leapFrom_30 N e_many e_spring e_leapable e_order e_lesser  Q N) p0 p2 x1 x2 p1 x3 (1 : Int32) e_found e_whereOf e_rows e_from e_depth)))
theorem ok_X5_leapFrom_203 {X : Nat × (Nat → Int32)} {N : Nat} {e_many : Int32} {e_spring : Int32} {e_leapable : Nat → Int32} {e_order : Nat → Int32} {e_places : Nat → Int32} {e_lesser : Nat → Int32}  {Q : (Int32) → (Nat → Int32) → (Nat → Int32) → (Nat → Int32) → (Nat → Int32) → Prop}  : ∀ (e_found : Int32) (e_whereOf : Nat → Int32) (e_rows : Nat → Int32) (e_from : Nat → Int32) (e_depth : Nat → Int32), wp_X5_leapFrom_203 N e_many e_spring e_leapable e_order e_lesser  Q  e_found e_whereOf e_rows e_from e_depth → EV (ax_GG X) m_X5_leapFrom (po_X5_leapFrom e_many e_spring e_leapable e_order e_places e_lesser Q) (203, [none, none, none, none, none, none, none, none, none, none, none, none, none], [], (w_e e_many e_spring e_leapable e_found e_whereOf e_rows e_from e_depth e_order e_places e_lesser), [], 0) := by
  intro e_found e_whereOf e_rows e_from e_depth h
  unfold wp_X5_leapFrom_203 at h
  exact EV.ret rfl trivial ⟨_, _, _, _, _, rfl, h⟩
theorem ok_X5_leapFrom_120 {X : Nat × (Nat → Int32)} {N : Nat} {e_many : Int32} {e_spring : Int32} {e_leapable : Nat → Int32} {e_order : Nat → Int32} {e_places : Nat → Int32} {e_lesser : Nat → Int32} {K30 : (Int32) → (Int32) → (Int32) → (Int32) → (Int32) → (Int32) → (Int32) → (Int32) → (Nat → Int32) → (Nat → Int32) → (Nat → Int32) → (Nat → Int32) → Prop} {Q : (Int32) → (Nat → Int32) → (Nat → Int32) → (Nat → Int32) → (Nat → Int32) → Prop} (hK30 : ∀ (v1 : Int32) (v3 : Int32) (v4 : Int32) (v5 : Int32) (v6 : Int32) (v7 : Int32) (v8 : Int32) (e_found : Int32) (e_whereOf : Nat → Int32) (e_rows : Nat → Int32) (e_from : Nat → Int32) (e_depth : Nat → Int32), K30 v1 v3 v4 v5 v6 v7 v8 e_found e_whereOf e_rows e_from e_depth → EV (ax_GG X) m_X5_leapFrom (po_X5_leapFrom e_many e_spring e_leapable e_order e_places e_lesser Q) (30, [some (.ref 0), some (.int v1), none, some (.int v3), some (.int v4), some (.int v5), some (.int v6), some (.int v7), some (.int v8), none, none, none, none], [], (w_e e_many e_spring e_leapable e_found e_whereOf e_rows e_from e_depth e_order e_places e_lesser), [], 0)) : ∀ (v1 : Int32) (v3 : Int32) (v4 : Int32) (v5 : Int32) (v6 : Int32) (v7 : Int32) (v8 : Int32) (v9 : Int32) (v10 : Int32) (v11 : Int32) (s0 : Int32) (e_found : Int32) (e_whereOf : Nat → Int32) (e_rows : Nat → Int32) (e_from : Nat → Int32) (e_depth : Nat → Int32), wp_X5_leapFrom_120 N e_many e_spring e_leapable e_order e_lesser K30 Q  v1 v3 v4 v5 v6 v7 v8 v9 v10 v11 s0 e_found e_whereOf e_rows e_from e_depth → EV (ax_GG X) m_X5_leapFrom (po_X5_leapFrom e_many e_spring e_leapable e_order e_places e_lesser Q) (120, [some (.ref 0), some (.int v1), none, some (.int v3), some (.int v4), some (.int v5), some (.int v6), some (.int v7), some (.int v8), some (.int v9), some (.int v10), some (.int v11), none], [.int s0], (w_e e_many e_spring e_leapable e_found e_whereOf e_rows e_from e_depth e_order e_places e_lesser), [], 0) := by
  intro v1 v3 v4 v5 v6 v7 v8 v9 v10 v11 s0 e_found e_whereOf e_rows e_from e_depth h
  unfold wp_X5_leapFrom_120 at h
  obtain ⟨g1, h⟩ := h
  refine EV.seg (c' := (137, [some (.ref 0), some (.int v1), none, some (.int v3), some (.int v4), some (.int v5), some (.int v6), some (.int v7), some (.int v8), some (.int v9), some (.int v10), some (.int v11), some (.int s0)], [.int v9, .ref 0, .int (v11 - (e_lesser v9.toNatClampNeg)), .int v6], (w_e e_many e_spring e_leapable e_found e_whereOf e_rows e_from e_depth e_order e_places e_lesser), [], 0)) 10 rfl (And.intro g1 trivial) ?_
  refine EV.call (M' := m_X5_weight) rfl rfl (Nat.le_of_ble_eq_true rfl) (em_X5_weight (e_many := e_many) (e_spring := e_spring) (e_leapable := e_leapable) (e_found := e_found) (e_whereOf := e_whereOf) (e_rows := e_rows) (e_from := e_from) (e_depth := e_depth) (e_order := e_order) (e_places := e_places) (e_lesser := e_lesser)  h) (fun out ho => ?_)
  obtain ⟨r6, rfl, h⟩ := ho
  show EV _ _ _ (140, [some (.ref 0), some (.int v1), none, some (.int v3), some (.int v4), some (.int v5), some (.int v6), some (.int v7), some (.int v8), some (.int v9), some (.int v10), some (.int v11), some (.int s0)], [.int r6, .int (v11 - (e_lesser v9.toNatClampNeg)), .int v6], (w_e e_many e_spring e_leapable e_found e_whereOf e_rows e_from e_depth e_order e_places e_lesser), [], 0)
  refine EV.seg (c' := (151, [some (.ref 0), some (.int v1), none, some (.int v3), some (.int v4), some (.int v5), some (.int v6), some (.int v7), some (.int v8), some (.int v9), some (.int v10), some (.int v11), some (.int s0)], [.int (v9 + (1 : Int32)), .ref 0, .int (s0 - v7), .int ((v11 - (e_lesser v9.toNatClampNeg)) * r6), .int v6], (w_e e_many e_spring e_leapable e_found e_whereOf e_rows e_from e_depth e_order e_places e_lesser), [], 0)) 8 rfl trivial ?_
  refine EV.call (M' := m_X5_weight) rfl rfl (Nat.le_of_ble_eq_true rfl) (em_X5_weight (e_many := e_many) (e_spring := e_spring) (e_leapable := e_leapable) (e_found := e_found) (e_whereOf := e_whereOf) (e_rows := e_rows) (e_from := e_from) (e_depth := e_depth) (e_order := e_order) (e_places := e_places) (e_lesser := e_lesser)  h) (fun out ho => ?_)
  obtain ⟨r7, rfl, h⟩ := ho
  show EV _ _ _ (154, [some (.ref 0), some (.int v1), none, some (.int v3), some (.int v4), some (.int v5), some (.int v6), some (.int v7), some (.int v8), some (.int v9), some (.int v10), some (.int v11), some (.int s0)], [.int r7, .int (s0 - v7), .int ((v11 - (e_lesser v9.toNatClampNeg)) * r6), .int v6], (w_e e_many e_spring e_leapable e_found e_whereOf e_rows e_from e_depth e_order e_places e_lesser), [], 0)
  refine EV.seg (c' := (159, [some (.ref 0), some (.int v1), none, some (.int v3), some (.int v4), some (.int v5), some (.int (v6 + (((v11 - (e_lesser v9.toNatClampNeg)) * r6) + ((s0 - v7) * r7)))), some (.int v7), some (.int v8), some (.int v9), some (.int v10), some (.int v11), some (.int s0)], [], (w_e e_many e_spring e_leapable e_found e_whereOf e_rows e_from e_depth e_order e_places e_lesser), [], 0)) 4 rfl trivial ?_
  obtain ⟨x8, e_x8⟩ : ∃ z : Int32, z = v6 + (((v11 - (e_lesser v9.toNatClampNeg)) * r6) + ((s0 - v7) * r7)) := ⟨_, rfl⟩
  have h := h x8 e_x8
  rw [← e_x8]
  refine EV.seg (c' := (181, [some (.ref 0), some (.int v1), none, some (.int v3), some (.int v4), some (.int (v5 ^^^ (((v4 ^^^ v10) * (9 : Int32)) <<< (((3 : Int32) * v9) &&& 31)))), some (.int x8), some (.int v11), some (.int v8), some (.int v9), some (.int v10), some (.int v11), some (.int s0)], [], (w_e e_many e_spring e_leapable e_found e_whereOf e_rows e_from e_depth e_order e_places e_lesser), [], 0)) 14 rfl trivial ?_
  obtain ⟨x9, e_x9⟩ : ∃ z : Int32, z = v5 ^^^ (((v4 ^^^ v10) * (9 : Int32)) <<< (((3 : Int32) * v9) &&& 31)) := ⟨_, rfl⟩
  have h := h x9 e_x9
  rw [← e_x9]
  refine EV.seg (c' := (194, [some (.ref 0), some (.int v1), none, some (.int v3), some (.int v4), some (.int x9), some (.int x8), some (.int v11), some (.int v8), some (.int v9), some (.int v10), some (.int v11), some (.int s0)], [.int ((v4 <<< ((3 : Int32) &&& 31)) ||| v8), .int v1, .int x9, .int x8, .ref 0], (w_e e_many e_spring e_leapable e_found e_whereOf e_rows e_from e_depth e_order e_places e_lesser), [], 0)) 9 rfl trivial ?_
  refine EV.call (M' := m_X5_add) rfl rfl (Nat.le_of_ble_eq_true rfl) (em_X5_add (e_many := e_many) (e_spring := e_spring) (e_leapable := e_leapable) (e_order := e_order) (e_places := e_places) (e_lesser := e_lesser) (e_found := e_found) (e_whereOf := e_whereOf) (e_rows := e_rows) (e_from := e_from) (e_depth := e_depth) h) (fun out ho => ?_)
  obtain ⟨m10, m11, m12, m13, m14, rfl, h⟩ := ho
  show EV _ _ _ (197, [some (.ref 0), some (.int v1), none, some (.int v3), some (.int v4), some (.int x9), some (.int x8), some (.int v11), some (.int v8), some (.int v9), some (.int v10), some (.int v11), some (.int s0)], [], (w_e e_many e_spring e_leapable m10 m11 m12 m13 m14 e_order e_places e_lesser), [], 0)
  refine EV.seg (c' := (30, [some (.ref 0), some (.int v1), none, some (.int v3), some (.int v4), some (.int x9), some (.int x8), some (.int v11), some (.int (v8 + 1)), some (.int v9), some (.int v10), some (.int v11), some (.int s0)], [], (w_e e_many e_spring e_leapable m10 m11 m12 m13 m14 e_order e_places e_lesser), [], 0)) 2 rfl trivial ?_
  refine EV.mask (ls' := [some (.ref 0), some (.int v1), none, some (.int v3), some (.int v4), some (.int x9), some (.int x8), some (.int v11), some (.int (v8 + 1)), none, none, none, none]) rfl rfl ?_
  exact hK30 _ _ _ _ _ _ _ _ _ _ _ _ h
theorem ok_X5_leapFrom_92 {X : Nat × (Nat → Int32)} {N : Nat} {e_many : Int32} {e_spring : Int32} {e_leapable : Nat → Int32} {e_order : Nat → Int32} {e_places : Nat → Int32} {e_lesser : Nat → Int32} {K30 : (Int32) → (Int32) → (Int32) → (Int32) → (Int32) → (Int32) → (Int32) → (Int32) → (Nat → Int32) → (Nat → Int32) → (Nat → Int32) → (Nat → Int32) → Prop} {Q : (Int32) → (Nat → Int32) → (Nat → Int32) → (Nat → Int32) → (Nat → Int32) → Prop} (hK30 : ∀ (v1 : Int32) (v3 : Int32) (v4 : Int32) (v5 : Int32) (v6 : Int32) (v7 : Int32) (v8 : Int32) (e_found : Int32) (e_whereOf : Nat → Int32) (e_rows : Nat → Int32) (e_from : Nat → Int32) (e_depth : Nat → Int32), K30 v1 v3 v4 v5 v6 v7 v8 e_found e_whereOf e_rows e_from e_depth → EV (ax_GG X) m_X5_leapFrom (po_X5_leapFrom e_many e_spring e_leapable e_order e_places e_lesser Q) (30, [some (.ref 0), some (.int v1), none, some (.int v3), some (.int v4), some (.int v5), some (.int v6), some (.int v7), some (.int v8), none, none, none, none], [], (w_e e_many e_spring e_leapable e_found e_whereOf e_rows e_from e_depth e_order e_places e_lesser), [], 0)) : ∀ (v1 : Int32) (v3 : Int32) (v4 : Int32) (v5 : Int32) (v6 : Int32) (v7 : Int32) (v8 : Int32) (v9 : Int32) (v10 : Int32) (s0 : Int32) (e_found : Int32) (e_whereOf : Nat → Int32) (e_rows : Nat → Int32) (e_from : Nat → Int32) (e_depth : Nat → Int32), wp_X5_leapFrom_92 N e_many e_spring e_leapable e_order e_lesser K30 Q  v1 v3 v4 v5 v6 v7 v8 v9 v10 s0 e_found e_whereOf e_rows e_from e_depth → EV (ax_GG X) m_X5_leapFrom (po_X5_leapFrom e_many e_spring e_leapable e_order e_places e_lesser Q) (92, [some (.ref 0), some (.int v1), none, some (.int v3), some (.int v4), some (.int v5), some (.int v6), some (.int v7), some (.int v8), some (.int v9), some (.int v10), none, none], [.int s0], (w_e e_many e_spring e_leapable e_found e_whereOf e_rows e_from e_depth e_order e_places e_lesser), [], 0) := by
  intro v1 v3 v4 v5 v6 v7 v8 v9 v10 s0 e_found e_whereOf e_rows e_from e_depth h
  unfold wp_X5_leapFrom_92 at h
  refine EV.seg (c' := (98, [some (.ref 0), some (.int v1), none, some (.int v3), some (.int v4), some (.int v5), some (.int v6), some (.int v7), some (.int v8), some (.int v9), some (.int v10), some (.int s0), none], [.int v4, .int v10], (w_e e_many e_spring e_leapable e_found e_whereOf e_rows e_from e_depth e_order e_places e_lesser), [], 0)) 3 rfl trivial ?_
  refine EV.br (c1 := (111, [some (.ref 0), some (.int v1), none, some (.int v3), some (.int v4), some (.int v5), some (.int v6), some (.int v7), some (.int v8), some (.int v9), some (.int v10), some (.int s0), none], [], (w_e e_many e_spring e_leapable e_found e_whereOf e_rows e_from e_depth e_order e_places e_lesser), [], 0)) (c2 := (101, [some (.ref 0), some (.int v1), none, some (.int v3), some (.int v4), some (.int v5), some (.int v6), some (.int v7), some (.int v8), some (.int v9), some (.int v10), some (.int s0), none], [], (w_e e_many e_spring e_leapable e_found e_whereOf e_rows e_from e_depth e_order e_places e_lesser), [], 0)) rfl (fun hc => ?_) (fun hc => ?_)
  · have h := h.1 hc
    obtain ⟨g1, h⟩ := h
    refine EV.seg (c' := (120, [some (.ref 0), some (.int v1), none, some (.int v3), some (.int v4), some (.int v5), some (.int v6), some (.int v7), some (.int v8), some (.int v9), some (.int v10), some (.int s0), none], [.int ((e_lesser v9.toNatClampNeg) - (1 : Int32))], (w_e e_many e_spring e_leapable e_found e_whereOf e_rows e_from e_depth e_order e_places e_lesser), [], 0)) 6 rfl (And.intro g1 trivial) ?_
    exact (ok_X5_leapFrom_120 hK30) _ _ _ _ _ _ _ _ _ _ _ _ _ _ _ _ h
  · have h := h.2 hc
    obtain ⟨g1, h⟩ := h
    refine EV.seg (c' := (120, [some (.ref 0), some (.int v1), none, some (.int v3), some (.int v4), some (.int v5), some (.int v6), some (.int v7), some (.int v8), some (.int v9), some (.int v10), some (.int s0), none], [.int (e_lesser v9.toNatClampNeg)], (w_e e_many e_spring e_leapable e_found e_whereOf e_rows e_from e_depth e_order e_places e_lesser), [], 0)) 5 rfl (And.intro g1 trivial) ?_
    exact (ok_X5_leapFrom_120 hK30) _ _ _ _ _ _ _ _ _ _ _ _ _ _ _ _ h
theorem ok_X5_leapFrom_30 {X : Nat × (Nat → Int32)} {N : Nat} {e_many : Int32} {e_spring : Int32} {e_leapable : Nat → Int32} {e_order : Nat → Int32} {e_places : Nat → Int32} {e_lesser : Nat → Int32}  {Q : (Int32) → (Nat → Int32) → (Nat → Int32) → (Nat → Int32) → (Nat → Int32) → Prop}  : ∀ (n : Nat) (v1 : Int32) (v3 : Int32) (v4 : Int32) (v5 : Int32) (v6 : Int32) (v7 : Int32) (v8 : Int32) (e_found : Int32) (e_whereOf : Nat → Int32) (e_rows : Nat → Int32) (e_from : Nat → Int32) (e_depth : Nat → Int32), wp_X5_leapFrom_30 N e_many e_spring e_leapable e_order e_lesser  Q n v1 v3 v4 v5 v6 v7 v8 e_found e_whereOf e_rows e_from e_depth → EV (ax_GG X) m_X5_leapFrom (po_X5_leapFrom e_many e_spring e_leapable e_order e_places e_lesser Q) (30, [some (.ref 0), some (.int v1), none, some (.int v3), some (.int v4), some (.int v5), some (.int v6), some (.int v7), some (.int v8), none, none, none, none], [], (w_e e_many e_spring e_leapable e_found e_whereOf e_rows e_from e_depth e_order e_places e_lesser), [], 0) := by
  intro n
  induction n with
  | zero => intro _ _ _ _ _ _ _ _ _ _ _ _ h; exact h.elim
  | succ n ih =>
    intro v1 v3 v4 v5 v6 v7 v8 e_found e_whereOf e_rows e_from e_depth h
    unfold wp_X5_leapFrom_30 at h
    refine EV.seg (c' := (36, [some (.ref 0), some (.int v1), none, some (.int v3), some (.int v4), some (.int v5), some (.int v6), some (.int v7), some (.int v8), none, none, none, none], [.int e_spring, .int v8], (w_e e_many e_spring e_leapable e_found e_whereOf e_rows e_from e_depth e_order e_places e_lesser), [], 0)) 3 rfl trivial ?_
    refine EV.br (c1 := (203, [some (.ref 0), some (.int v1), none, some (.int v3), some (.int v4), some (.int v5), some (.int v6), some (.int v7), some (.int v8), none, none, none, none], [], (w_e e_many e_spring e_leapable e_found e_whereOf e_rows e_from e_depth e_order e_places e_lesser), [], 0)) (c2 := (39, [some (.ref 0), some (.int v1), none, some (.int v3), some (.int v4), some (.int v5), some (.int v6), some (.int v7), some (.int v8), none, none, none, none], [], (w_e e_many e_spring e_leapable e_found e_whereOf e_rows e_from e_depth e_order e_places e_lesser), [], 0)) rfl (fun hc => ?_) (fun hc => ?_)
    · have h := h.1 hc
      refine EV.mask (ls' := [none, none, none, none, none, none, none, none, none, none, none, none, none]) rfl rfl ?_
      exact (ok_X5_leapFrom_203 ) _ _ _ _ _ h
    · have h := h.2 hc
      refine EV.seg (c' := (42, [some (.ref 0), some (.int v1), none, some (.int v3), some (.int v4), some (.int v5), some (.int v6), some (.int v7), some (.int v8), none, none, none, none], [.int v3, .int v8], (w_e e_many e_spring e_leapable e_found e_whereOf e_rows e_from e_depth e_order e_places e_lesser), [], 0)) 2 rfl trivial ?_
      refine EV.br (c1 := (203, [some (.ref 0), some (.int v1), none, some (.int v3), some (.int v4), some (.int v5), some (.int v6), some (.int v7), some (.int v8), none, none, none, none], [], (w_e e_many e_spring e_leapable e_found e_whereOf e_rows e_from e_depth e_order e_places e_lesser), [], 0)) (c2 := (45, [some (.ref 0), some (.int v1), none, some (.int v3), some (.int v4), some (.int v5), some (.int v6), some (.int v7), some (.int v8), none, none, none, none], [], (w_e e_many e_spring e_leapable e_found e_whereOf e_rows e_from e_depth e_order e_places e_lesser), [], 0)) rfl (fun hc => ?_) (fun hc => ?_)
      · have h := h.1 hc
        refine EV.mask (ls' := [none, none, none, none, none, none, none, none, none, none, none, none, none]) rfl rfl ?_
        exact (ok_X5_leapFrom_203 ) _ _ _ _ _ h
      · have h := h.2 hc
        refine EV.seg (c' := (51, [some (.ref 0), some (.int v1), none, some (.int v3), some (.int v4), some (.int v5), some (.int v6), some (.int v7), some (.int v8), some (.int (v3 - v8)), none, none, none], [], (w_e e_many e_spring e_leapable e_found e_whereOf e_rows e_from e_depth e_order e_places e_lesser), [], 0)) 4 rfl trivial ?_
        obtain ⟨x4, e_x4⟩ : ∃ z : Int32, z = v3 - v8 := ⟨_, rfl⟩
        have h := h x4 e_x4
        rw [← e_x4]
        obtain ⟨g1, h⟩ := h
        refine EV.seg (c' := (60, [some (.ref 0), some (.int v1), none, some (.int v3), some (.int v4), some (.int v5), some (.int v6), some (.int v7), some (.int v8), some (.int x4), some (.int (e_order x4.toNatClampNeg)), none, none], [], (w_e e_many e_spring e_leapable e_found e_whereOf e_rows e_from e_depth e_order e_places e_lesser), [], 0)) 5 rfl (And.intro g1 trivial) ?_
        obtain ⟨x5, e_x5⟩ : ∃ z : Int32, z = e_order x4.toNatClampNeg := ⟨_, rfl⟩
        have h := h x5 e_x5
        rw [← e_x5]
        obtain ⟨g1, h⟩ := h
        refine EV.seg (c' := (72, [some (.ref 0), some (.int v1), none, some (.int v3), some (.int v4), some (.int v5), some (.int v6), some (.int v7), some (.int v8), some (.int x4), some (.int x5), none, none], [.int (((e_leapable v4.toNatClampNeg) >>> (x5 &&& 31)) &&& (1 : Int32))], (w_e e_many e_spring e_leapable e_found e_whereOf e_rows e_from e_depth e_order e_places e_lesser), [], 0)) 8 rfl (And.intro g1 trivial) ?_
        refine EV.br (c1 := (75, [some (.ref 0), some (.int v1), none, some (.int v3), some (.int v4), some (.int v5), some (.int v6), some (.int v7), some (.int v8), some (.int x4), some (.int x5), none, none], [], (w_e e_many e_spring e_leapable e_found e_whereOf e_rows e_from e_depth e_order e_places e_lesser), [], 0)) (c2 := (76, [some (.ref 0), some (.int v1), none, some (.int v3), some (.int v4), some (.int v5), some (.int v6), some (.int v7), some (.int v8), some (.int x4), some (.int x5), none, none], [], (w_e e_many e_spring e_leapable e_found e_whereOf e_rows e_from e_depth e_order e_places e_lesser), [], 0)) rfl (fun hc => ?_) (fun hc => ?_)
        · have h := h.1 hc
          exact EV.ret rfl trivial ⟨_, _, _, _, _, rfl, h⟩
        · have h := h.2 hc
          refine EV.seg (c' := (80, [some (.ref 0), some (.int v1), none, some (.int v3), some (.int v4), some (.int v5), some (.int v6), some (.int v7), some (.int v8), some (.int x4), some (.int x5), none, none], [.int v4, .int x5], (w_e e_many e_spring e_leapable e_found e_whereOf e_rows e_from e_depth e_order e_places e_lesser), [], 0)) 2 rfl trivial ?_
          refine EV.br (c1 := (90, [some (.ref 0), some (.int v1), none, some (.int v3), some (.int v4), some (.int v5), some (.int v6), some (.int v7), some (.int v8), some (.int x4), some (.int x5), none, none], [], (w_e e_many e_spring e_leapable e_found e_whereOf e_rows e_from e_depth e_order e_places e_lesser), [], 0)) (c2 := (83, [some (.ref 0), some (.int v1), none, some (.int v3), some (.int v4), some (.int v5), some (.int v6), some (.int v7), some (.int v8), some (.int x4), some (.int x5), none, none], [], (w_e e_many e_spring e_leapable e_found e_whereOf e_rows e_from e_depth e_order e_places e_lesser), [], 0)) rfl (fun hc => ?_) (fun hc => ?_)
          · have h := h.1 hc
            refine EV.seg (c' := (92, [some (.ref 0), some (.int v1), none, some (.int v3), some (.int v4), some (.int v5), some (.int v6), some (.int v7), some (.int v8), some (.int x4), some (.int x5), none, none], [.int v7], (w_e e_many e_spring e_leapable e_found e_whereOf e_rows e_from e_depth e_order e_places e_lesser), [], 0)) 1 rfl trivial ?_
            exact (ok_X5_leapFrom_92 ih) _ _ _ _ _ _ _ _ _ _ _ _ _ _ _ h
          · have h := h.2 hc
            refine EV.seg (c' := (92, [some (.ref 0), some (.int v1), none, some (.int v3), some (.int v4), some (.int v5), some (.int v6), some (.int v7), some (.int v8), some (.int x4), some (.int x5), none, none], [.int (v7 + (1 : Int32))], (w_e e_many e_spring e_leapable e_found e_whereOf e_rows e_from e_depth e_order e_places e_lesser), [], 0)) 4 rfl trivial ?_
            exact (ok_X5_leapFrom_92 ih) _ _ _ _ _ _ _ _ _ _ _ _ _ _ _ h
theorem em_X5_leapFrom {X : Nat × (Nat → Int32)} {N : Nat} {e_many : Int32} {e_spring : Int32} {e_leapable : Nat → Int32} {e_order : Nat → Int32} {e_places : Nat → Int32} {e_lesser : Nat → Int32} {p0 : Int32} {p1 : Int32} {p2 : Int32} {e_found : Int32} {e_whereOf : Nat → Int32} {e_rows : Nat → Int32} {e_from : Nat → Int32} {e_depth : Nat → Int32} {Q : (Int32) → (Nat → Int32) → (Nat → Int32) → (Nat → Int32) → (Nat → Int32) → Prop} (h : wp_X5_leapFrom N e_many e_spring e_leapable e_order e_lesser Q p0 p1 p2 e_found e_whereOf e_rows e_from e_depth) : EM (ax_GG X) m_X5_leapFrom [.ref 0, .int p0, .int p1, .int p2] (w_e e_many e_spring e_leapable e_found e_whereOf e_rows e_from e_depth e_order e_places e_lesser) (po_X5_leapFrom e_many e_spring e_leapable e_order e_places e_lesser Q) := by
  unfold wp_X5_leapFrom at h
  show EV _ _ _ (0, [some (.ref 0), some (.int p0), some (.int p1), some (.int p2), none, none, none, none, none, none, none, none, none], [], (w_e e_many e_spring e_leapable e_found e_whereOf e_rows e_from e_depth e_order e_places e_lesser), [], 0)
  obtain ⟨g1, h⟩ := h
  refine EV.seg (c' := (8, [some (.ref 0), some (.int p0), some (.int p1), some (.int p2), some (.int (e_order p2.toNatClampNeg)), none, none, none, none, none, none, none, none], [], (w_e e_many e_spring e_leapable e_found e_whereOf e_rows e_from e_depth e_order e_places e_lesser), [], 0)) 5 rfl (And.intro g1 trivial) ?_
  obtain ⟨x1, e_x1⟩ : ∃ z : Int32, z = e_order p2.toNatClampNeg := ⟨_, rfl⟩
  have h := h x1 e_x1
  rw [← e_x1]
  obtain ⟨g1, h⟩ := h
  refine EV.seg (c' := (16, [some (.ref 0), some (.int p0), some (.int p1), some (.int p2), some (.int x1), some (.int (e_rows p0.toNatClampNeg)), none, none, none, none, none, none, none], [], (w_e e_many e_spring e_leapable e_found e_whereOf e_rows e_from e_depth e_order e_places e_lesser), [], 0)) 5 rfl (And.intro g1 trivial) ?_
  obtain ⟨x2, e_x2⟩ : ∃ z : Int32, z = e_rows p0.toNatClampNeg := ⟨_, rfl⟩
  have h := h x2 e_x2
  rw [← e_x2]
  obtain ⟨g1, h⟩ := h
  refine EV.seg (c' := (27, [some (.ref 0), some (.int p0), some (.int p1), some (.int p2), some (.int x1), some (.int x2), some (.int p1), some (.int (e_lesser p2.toNatClampNeg)), none, none, none, none, none], [], (w_e e_many e_spring e_leapable e_found e_whereOf e_rows e_from e_depth e_order e_places e_lesser), [], 0)) 7 rfl (And.intro g1 trivial) ?_
  obtain ⟨x3, e_x3⟩ : ∃ z : Int32, z = e_lesser p2.toNatClampNeg := ⟨_, rfl⟩
  have h := h x3 e_x3
  rw [← e_x3]
  refine EV.seg (c' := (30, [some (.ref 0), some (.int p0), some (.int p1), some (.int p2), some (.int x1), some (.int x2), some (.int p1), some (.int x3), some (.int (1 : Int32)), none, none, none, none], [], (w_e e_many e_spring e_leapable e_found e_whereOf e_rows e_from e_depth e_order e_places e_lesser), [], 0)) 2 rfl trivial ?_
  refine EV.mask (ls' := [some (.ref 0), some (.int p0), none, some (.int p2), some (.int x1), some (.int x2), some (.int p1), some (.int x3), some (.int (1 : Int32)), none, none, none, none]) rfl rfl ?_
  exact (ok_X5_leapFrom_30  N) _ _ _ _ _ _ _ _ _ _ _ _ h
abbrev po_X5_leaveFrom (e_many : Int32) (e_spring : Int32) (e_leapable : Nat → Int32) (Q : (Int32) → (Nat → Int32) → (Nat → Int32) → (Nat → Int32) → (Nat → Int32) → (Nat → Int32) → (Nat → Int32) → (Nat → Int32) → Prop) : ax_E → Prop := fun out => ∃ (e_found' : Int32) (e_whereOf' : Nat → Int32) (e_rows' : Nat → Int32) (e_from' : Nat → Int32) (e_depth' : Nat → Int32) (e_order' : Nat → Int32) (e_places' : Nat → Int32) (e_lesser' : Nat → Int32), out = (none, (w_e e_many e_spring e_leapable e_found' e_whereOf' e_rows' e_from' e_depth' e_order' e_places' e_lesser'), [], 0) ∧ Q e_found' e_whereOf' e_rows' e_from' e_depth' e_order' e_places' e_lesser'
def wp_X5_leaveFrom_51 (N : Nat) (e_many : Int32) (e_spring : Int32) (e_leapable : Nat → Int32)  (Q : (Int32) → (Nat → Int32) → (Nat → Int32) → (Nat → Int32) → (Nat → Int32) → (Nat → Int32) → (Nat → Int32) → (Nat → Int32) → Prop) : Nat → (Int32) → (Int32) → (Int32) → (Int32) → (Nat → Int32) → (Nat → Int32) → (Nat → Int32) → (Nat → Int32) → (Nat → Int32) → (Nat → Int32) → (Nat → Int32) → Prop
  | 0, _, _, _, _, _, _, _, _, _, _, _ => False
  | n + 1, v1, v2, v3, e_found, e_whereOf, e_rows, e_from, e_depth, e_order, e_places, e_lesser => ((e_many ≤ v3 → Q e_found e_whereOf e_rows e_from e_depth e_order e_places e_lesser) ∧ (¬ (e_many ≤ v3) → vp_in v3 7 ∧ wp_X5_leapFrom N e_many e_spring e_leapable e_order e_lesser (fun m6 m7 m8 m9 m10 => (wp_X5_leaveFrom_51 N e_many e_spring e_leapable  Q n) v1 v2 (v3 + 1) m6 m7 m8 m9 m10 e_order e_places e_lesser) v1 v2 (e_places v3.toNatClampNeg) e_found e_whereOf e_rows e_from e_depth))
def wp_X5_leaveFrom_2 (N : Nat) (e_many : Int32) (e_spring : Int32) (e_leapable : Nat → Int32)  (Q : (Int32) → (Nat → Int32) → (Nat → Int32) → (Nat → Int32) → (Nat → Int32) → (Nat → Int32) → (Nat → Int32) → (Nat → Int32) → Prop) : Nat → (Int32) → (Int32) → (Int32) → (Nat → Int32) → (Nat → Int32) → (Nat → Int32) → (Nat → Int32) → (Nat → Int32) → (Nat → Int32) → (Nat → Int32) → Prop
  | 0, _, _, _, _, _, _, _, _, _, _ => False
  | n + 1, v1, v2, e_found, e_whereOf, e_rows, e_from, e_depth, e_order, e_places, e_lesser => ((e_many ≤ v2 → wp_X5_rank N e_many e_order (fun r1 m2 => (wp_X5_leaveFrom_51 N e_many e_spring e_leapable  Q N) v1 r1 (0 : Int32) e_found e_whereOf e_rows e_from e_depth e_order e_places m2)  e_lesser) ∧ (¬ (e_many ≤ v2) → vp_in v1 5040 ∧ (∀ x3 : Int32, x3 = ((e_rows v1.toNatClampNeg) >>> (((3 : Int32) * v2) &&& 31)) &&& (7 : Int32) → vp_in v2 7 ∧ (∀ a4 : Nat → Int32, a4 = upd e_order v2.toNatClampNeg x3 → vp_in x3 7 ∧ (∀ a5 : Nat → Int32, a5 = upd e_places x3.toNatClampNeg v2 → (wp_X5_leaveFrom_2 N e_many e_spring e_leapable  Q n) v1 (v2 + 1) e_found e_whereOf e_rows e_from e_depth a4 a5 e_lesser)))))
def wp_X5_leaveFrom (N : Nat) (e_many : Int32) (e_spring : Int32) (e_leapable : Nat → Int32) (Q : (Int32) → (Nat → Int32) → (Nat → Int32) → (Nat → Int32) → (Nat → Int32) → (Nat → Int32) → (Nat → Int32) → (Nat → Int32) → Prop) (p0 : Int32) (e_found : Int32) (e_whereOf : Nat → Int32) (e_rows : Nat → Int32) (e_from : Nat → Int32) (e_depth : Nat → Int32) (e_order : Nat → Int32) (e_places : Nat → Int32) (e_lesser : Nat → Int32) : Prop := (wp_X5_leaveFrom_2 N e_many e_spring e_leapable  Q N) p0 (0 : Int32) e_found e_whereOf e_rows e_from e_depth e_order e_places e_lesser
theorem ok_X5_leaveFrom_51 {X : Nat × (Nat → Int32)} {N : Nat} {e_many : Int32} {e_spring : Int32} {e_leapable : Nat → Int32}  {Q : (Int32) → (Nat → Int32) → (Nat → Int32) → (Nat → Int32) → (Nat → Int32) → (Nat → Int32) → (Nat → Int32) → (Nat → Int32) → Prop}  : ∀ (n : Nat) (v1 : Int32) (v2 : Int32) (v3 : Int32) (e_found : Int32) (e_whereOf : Nat → Int32) (e_rows : Nat → Int32) (e_from : Nat → Int32) (e_depth : Nat → Int32) (e_order : Nat → Int32) (e_places : Nat → Int32) (e_lesser : Nat → Int32), wp_X5_leaveFrom_51 N e_many e_spring e_leapable  Q n v1 v2 v3 e_found e_whereOf e_rows e_from e_depth e_order e_places e_lesser → EV (ax_GG X) m_X5_leaveFrom (po_X5_leaveFrom e_many e_spring e_leapable Q) (51, [some (.ref 0), some (.int v1), some (.int v2), some (.int v3)], [], (w_e e_many e_spring e_leapable e_found e_whereOf e_rows e_from e_depth e_order e_places e_lesser), [], 0) := by
  intro n
  induction n with
  | zero => intro _ _ _ _ _ _ _ _ _ _ _ h; exact h.elim
  | succ n ih =>
    intro v1 v2 v3 e_found e_whereOf e_rows e_from e_depth e_order e_places e_lesser h
    unfold wp_X5_leaveFrom_51 at h
    refine EV.seg (c' := (56, [some (.ref 0), some (.int v1), some (.int v2), some (.int v3)], [.int e_many, .int v3], (w_e e_many e_spring e_leapable e_found e_whereOf e_rows e_from e_depth e_order e_places e_lesser), [], 0)) 3 rfl trivial ?_
    refine EV.br (c1 := (77, [some (.ref 0), some (.int v1), some (.int v2), some (.int v3)], [], (w_e e_many e_spring e_leapable e_found e_whereOf e_rows e_from e_depth e_order e_places e_lesser), [], 0)) (c2 := (59, [some (.ref 0), some (.int v1), some (.int v2), some (.int v3)], [], (w_e e_many e_spring e_leapable e_found e_whereOf e_rows e_from e_depth e_order e_places e_lesser), [], 0)) rfl (fun hc => ?_) (fun hc => ?_)
    · have h := h.1 hc
      exact EV.ret rfl trivial ⟨_, _, _, _, _, _, _, _, rfl, h⟩
    · have h := h.2 hc
      obtain ⟨g1, h⟩ := h
      refine EV.seg (c' := (68, [some (.ref 0), some (.int v1), some (.int v2), some (.int v3)], [.int (e_places v3.toNatClampNeg), .int v2, .int v1, .ref 0], (w_e e_many e_spring e_leapable e_found e_whereOf e_rows e_from e_depth e_order e_places e_lesser), [], 0)) 7 rfl (And.intro g1 trivial) ?_
      refine EV.call (M' := m_X5_leapFrom) rfl rfl (Nat.le_of_ble_eq_true rfl) (em_X5_leapFrom (e_many := e_many) (e_spring := e_spring) (e_leapable := e_leapable) (e_order := e_order) (e_places := e_places) (e_lesser := e_lesser) (e_found := e_found) (e_whereOf := e_whereOf) (e_rows := e_rows) (e_from := e_from) (e_depth := e_depth) h) (fun out ho => ?_)
      obtain ⟨m6, m7, m8, m9, m10, rfl, h⟩ := ho
      show EV _ _ _ (71, [some (.ref 0), some (.int v1), some (.int v2), some (.int v3)], [], (w_e e_many e_spring e_leapable m6 m7 m8 m9 m10 e_order e_places e_lesser), [], 0)
      refine EV.seg (c' := (51, [some (.ref 0), some (.int v1), some (.int v2), some (.int (v3 + 1))], [], (w_e e_many e_spring e_leapable m6 m7 m8 m9 m10 e_order e_places e_lesser), [], 0)) 2 rfl trivial ?_
      exact ih _ _ _ _ _ _ _ _ _ _ _ h
theorem ok_X5_leaveFrom_2 {X : Nat × (Nat → Int32)} {N : Nat} {e_many : Int32} {e_spring : Int32} {e_leapable : Nat → Int32}  {Q : (Int32) → (Nat → Int32) → (Nat → Int32) → (Nat → Int32) → (Nat → Int32) → (Nat → Int32) → (Nat → Int32) → (Nat → Int32) → Prop}  : ∀ (n : Nat) (v1 : Int32) (v2 : Int32) (e_found : Int32) (e_whereOf : Nat → Int32) (e_rows : Nat → Int32) (e_from : Nat → Int32) (e_depth : Nat → Int32) (e_order : Nat → Int32) (e_places : Nat → Int32) (e_lesser : Nat → Int32), wp_X5_leaveFrom_2 N e_many e_spring e_leapable  Q n v1 v2 e_found e_whereOf e_rows e_from e_depth e_order e_places e_lesser → EV (ax_GG X) m_X5_leaveFrom (po_X5_leaveFrom e_many e_spring e_leapable Q) (2, [some (.ref 0), some (.int v1), some (.int v2), none], [], (w_e e_many e_spring e_leapable e_found e_whereOf e_rows e_from e_depth e_order e_places e_lesser), [], 0) := by
  intro n
  induction n with
  | zero => intro _ _ _ _ _ _ _ _ _ _ h; exact h.elim
  | succ n ih =>
    intro v1 v2 e_found e_whereOf e_rows e_from e_depth e_order e_places e_lesser h
    unfold wp_X5_leaveFrom_2 at h
    refine EV.seg (c' := (7, [some (.ref 0), some (.int v1), some (.int v2), none], [.int e_many, .int v2], (w_e e_many e_spring e_leapable e_found e_whereOf e_rows e_from e_depth e_order e_places e_lesser), [], 0)) 3 rfl trivial ?_
    refine EV.br (c1 := (44, [some (.ref 0), some (.int v1), some (.int v2), none], [], (w_e e_many e_spring e_leapable e_found e_whereOf e_rows e_from e_depth e_order e_places e_lesser), [], 0)) (c2 := (10, [some (.ref 0), some (.int v1), some (.int v2), none], [], (w_e e_many e_spring e_leapable e_found e_whereOf e_rows e_from e_depth e_order e_places e_lesser), [], 0)) rfl (fun hc => ?_) (fun hc => ?_)
    · have h := h.1 hc
      refine EV.seg (c' := (45, [some (.ref 0), some (.int v1), some (.int v2), none], [.ref 0], (w_e e_many e_spring e_leapable e_found e_whereOf e_rows e_from e_depth e_order e_places e_lesser), [], 0)) 1 rfl trivial ?_
      refine EV.call (M' := m_X5_rank) rfl rfl (Nat.le_of_ble_eq_true rfl) (em_X5_rank (e_many := e_many) (e_spring := e_spring) (e_leapable := e_leapable) (e_found := e_found) (e_whereOf := e_whereOf) (e_rows := e_rows) (e_from := e_from) (e_depth := e_depth) (e_order := e_order) (e_places := e_places) (e_lesser := e_lesser) h) (fun out ho => ?_)
      obtain ⟨r1, m2, rfl, h⟩ := ho
      show EV _ _ _ (48, [some (.ref 0), some (.int v1), some (.int v2), none], [.int r1], (w_e e_many e_spring e_leapable e_found e_whereOf e_rows e_from e_depth e_order e_places m2), [], 0)
      refine EV.seg (c' := (51, [some (.ref 0), some (.int v1), some (.int r1), some (.int (0 : Int32))], [], (w_e e_many e_spring e_leapable e_found e_whereOf e_rows e_from e_depth e_order e_places m2), [], 0)) 3 rfl trivial ?_
      exact (ok_X5_leaveFrom_51  N) _ _ _ _ _ _ _ _ _ _ _ h
    · have h := h.2 hc
      obtain ⟨g1, h⟩ := h
      refine EV.seg (c' := (24, [some (.ref 0), some (.int v1), some (.int v2), some (.int (((e_rows v1.toNatClampNeg) >>> (((3 : Int32) * v2) &&& 31)) &&& (7 : Int32)))], [], (w_e e_many e_spring e_leapable e_found e_whereOf e_rows e_from e_depth e_order e_places e_lesser), [], 0)) 11 rfl (And.intro g1 trivial) ?_
      obtain ⟨x3, e_x3⟩ : ∃ z : Int32, z = ((e_rows v1.toNatClampNeg) >>> (((3 : Int32) * v2) &&& 31)) &&& (7 : Int32) := ⟨_, rfl⟩
      have h := h x3 e_x3
      rw [← e_x3]
      obtain ⟨g1, h⟩ := h
      refine EV.seg (c' := (31, [some (.ref 0), some (.int v1), some (.int v2), some (.int x3)], [], (w_e e_many e_spring e_leapable e_found e_whereOf e_rows e_from e_depth (upd e_order v2.toNatClampNeg x3) e_places e_lesser), [], 0)) 5 rfl (And.intro g1 trivial) ?_
      obtain ⟨a4, e_a4⟩ : ∃ z : Nat → Int32, z = upd e_order v2.toNatClampNeg x3 := ⟨_, rfl⟩
      have h := h a4 e_a4
      rw [← e_a4]
      obtain ⟨g1, h⟩ := h
      refine EV.seg (c' := (38, [some (.ref 0), some (.int v1), some (.int v2), some (.int x3)], [], (w_e e_many e_spring e_leapable e_found e_whereOf e_rows e_from e_depth a4 (upd e_places x3.toNatClampNeg v2) e_lesser), [], 0)) 5 rfl (And.intro g1 trivial) ?_
      obtain ⟨a5, e_a5⟩ : ∃ z : Nat → Int32, z = upd e_places x3.toNatClampNeg v2 := ⟨_, rfl⟩
      have h := h a5 e_a5
      rw [← e_a5]
      refine EV.seg (c' := (2, [some (.ref 0), some (.int v1), some (.int (v2 + 1)), some (.int x3)], [], (w_e e_many e_spring e_leapable e_found e_whereOf e_rows e_from e_depth a4 a5 e_lesser), [], 0)) 2 rfl trivial ?_
      refine EV.mask (ls' := [some (.ref 0), some (.int v1), some (.int (v2 + 1)), none]) rfl rfl ?_
      exact ih _ _ _ _ _ _ _ _ _ _ h
theorem em_X5_leaveFrom {X : Nat × (Nat → Int32)} {N : Nat} {e_many : Int32} {e_spring : Int32} {e_leapable : Nat → Int32} {p0 : Int32} {e_found : Int32} {e_whereOf : Nat → Int32} {e_rows : Nat → Int32} {e_from : Nat → Int32} {e_depth : Nat → Int32} {e_order : Nat → Int32} {e_places : Nat → Int32} {e_lesser : Nat → Int32} {Q : (Int32) → (Nat → Int32) → (Nat → Int32) → (Nat → Int32) → (Nat → Int32) → (Nat → Int32) → (Nat → Int32) → (Nat → Int32) → Prop} (h : wp_X5_leaveFrom N e_many e_spring e_leapable Q p0 e_found e_whereOf e_rows e_from e_depth e_order e_places e_lesser) : EM (ax_GG X) m_X5_leaveFrom [.ref 0, .int p0] (w_e e_many e_spring e_leapable e_found e_whereOf e_rows e_from e_depth e_order e_places e_lesser) (po_X5_leaveFrom e_many e_spring e_leapable Q) := by
  unfold wp_X5_leaveFrom at h
  show EV _ _ _ (0, [some (.ref 0), some (.int p0), none, none], [], (w_e e_many e_spring e_leapable e_found e_whereOf e_rows e_from e_depth e_order e_places e_lesser), [], 0)
  refine EV.seg (c' := (2, [some (.ref 0), some (.int p0), some (.int (0 : Int32)), none], [], (w_e e_many e_spring e_leapable e_found e_whereOf e_rows e_from e_depth e_order e_places e_lesser), [], 0)) 2 rfl trivial ?_
  exact (ok_X5_leaveFrom_2  N) _ _ _ _ _ _ _ _ _ _ h
abbrev po_X5_explore (l_told : Int32) (l_spring : Int32) (l_many : Int32) (l_back : Nat → Int32) (l_leap : Nat → Int32) (l_breath : Nat → Int32) (g_turn : Int32) (g_order : Nat → Int32) (g_back : Nat → Int32) (g_breath : Nat → Int32) (g_leapt : Nat → Int32) (Q : (Int32) → (Int32) → (Nat → Int32) → (Int32) → (Nat → Int32) → (Nat → Int32) → (Nat → Int32) → (Nat → Int32) → (Nat → Int32) → (Nat → Int32) → (Nat → Int32) → Prop) : ax_E → Prop := fun out => ∃ (e_many' : Int32) (e_spring' : Int32) (e_leapable' : Nat → Int32) (e_found' : Int32) (e_whereOf' : Nat → Int32) (e_rows' : Nat → Int32) (e_from' : Nat → Int32) (e_depth' : Nat → Int32) (e_order' : Nat → Int32) (e_places' : Nat → Int32) (e_lesser' : Nat → Int32), out = (none, (w_elg e_many' e_spring' e_leapable' e_found' e_whereOf' e_rows' e_from' e_depth' e_order' e_places' e_lesser' l_told l_spring l_many l_back l_leap l_breath g_turn g_order g_back g_breath g_leapt), [], 0) ∧ Q e_many' e_spring' e_leapable' e_found' e_whereOf' e_rows' e_from' e_depth' e_order' e_places' e_lesser'
def wp_X5_explore_144 (N : Nat) (l_spring : Int32) (l_many : Int32) (l_leap : Nat → Int32) (g_order : Nat → Int32) (g_back : Nat → Int32)  (Q : (Int32) → (Int32) → (Nat → Int32) → (Int32) → (Nat → Int32) → (Nat → Int32) → (Nat → Int32) → (Nat → Int32) → (Nat → Int32) → (Nat → Int32) → (Nat → Int32) → Prop) (e_many : Int32) (e_spring : Int32) (e_leapable : Nat → Int32) (e_found : Int32) (e_whereOf : Nat → Int32) (e_rows : Nat → Int32) (e_from : Nat → Int32) (e_depth : Nat → Int32) (e_order : Nat → Int32) (e_places : Nat → Int32) (e_lesser : Nat → Int32) : Prop := Q e_many e_spring e_leapable e_found e_whereOf e_rows e_from e_depth e_order e_places e_lesser
def wp_X5_explore_115 (N : Nat) (l_spring : Int32) (l_many : Int32) (l_leap : Nat → Int32) (g_order : Nat → Int32) (g_back : Nat → Int32)  (Q : (Int32) → (Int32) → (Nat → Int32) → (Int32) → (Nat → Int32) → (Nat → Int32) → (Nat → Int32) → (Nat → Int32) → (Nat → Int32) → (Nat → Int32) → (Nat → Int32) → Prop) : Nat → (Int32) → (Int32) → (Int32) → (Nat → Int32) → (Int32) → (Nat → Int32) → (Nat → Int32) → (Nat → Int32) → (Nat → Int32) → (Nat → Int32) → (Nat → Int32) → (Nat → Int32) → Prop
  | 0, _, _, _, _, _, _, _, _, _, _, _, _ => False
  | n + 1, v4, e_many, e_spring, e_leapable, e_found, e_whereOf, e_rows, e_from, e_depth, e_order, e_places, e_lesser => ((e_found ≤ v4 → (wp_X5_explore_144 N l_spring l_many l_leap g_order g_back  Q) e_many e_spring e_leapable e_found e_whereOf e_rows e_from e_depth e_order e_places e_lesser) ∧ (¬ (e_found ≤ v4) → (((5040 : Int32) ≤ v4 → (wp_X5_explore_144 N l_spring l_many l_leap g_order g_back  Q) e_many e_spring e_leapable e_found e_whereOf e_rows e_from e_depth e_order e_places e_lesser) ∧ (¬ ((5040 : Int32) ≤ v4) → wp_X5_leaveFrom N e_many e_spring e_leapable (fun m15 m16 m17 m18 m19 m20 m21 m22 => (wp_X5_explore_115 N l_spring l_many l_leap g_order g_back  Q n) (v4 + 1) e_many e_spring e_leapable m15 m16 m17 m18 m19 m20 m21 m22) v4 e_found e_whereOf e_rows e_from e_depth e_order e_places e_lesser))))
def wp_X5_explore_44 (N : Nat) (l_spring : Int32) (l_many : Int32) (l_leap : Nat → Int32) (g_order : Nat → Int32) (g_back : Nat → Int32)  (Q : (Int32) → (Int32) → (Nat → Int32) → (Int32) → (Nat → Int32) → (Nat → Int32) → (Nat → Int32) → (Nat → Int32) → (Nat → Int32) → (Nat → Int32) → (Nat → Int32) → Prop) : Nat → (Int32) → (Int32) → (Int32) → (Int32) → (Nat → Int32) → (Int32) → (Nat → Int32) → (Nat → Int32) → (Nat → Int32) → (Nat → Int32) → (Nat → Int32) → (Nat → Int32) → (Nat → Int32) → Prop
  | 0, _, _, _, _, _, _, _, _, _, _, _, _, _ => False
  | n + 1, v3, v4, e_many, e_spring, e_leapable, e_found, e_whereOf, e_rows, e_from, e_depth, e_order, e_places, e_lesser => ((e_many ≤ v4 → wp_X5_rank N e_many e_order (fun r3 m4 => wp_X5_add N  (fun m5 m6 m7 m8 m9 => (wp_X5_explore_115 N l_spring l_many l_leap g_order g_back  Q N) (0 : Int32) e_many e_spring e_leapable m5 m6 m7 m8 m9 e_order e_places m4) r3 v3 (0 : Int32) (0 : Int32) e_found e_whereOf e_rows e_from e_depth)  e_lesser) ∧ (¬ (e_many ≤ v4) → vp_in v4 7 ∧ (∀ x10 : Int32, x10 = g_order v4.toNatClampNeg → vp_in v4 7 ∧ (∀ a11 : Nat → Int32, a11 = upd e_order v4.toNatClampNeg x10 → (∀ x12 : Int32, x12 = v3 ||| (x10 <<< (((3 : Int32) * v4) &&& 31)) → wp_X5_leapableBy N l_many l_leap g_back (fun r13 => vp_in x10 7 ∧ (∀ a14 : Nat → Int32, a14 = upd e_leapable x10.toNatClampNeg r13 → (wp_X5_explore_44 N l_spring l_many l_leap g_order g_back  Q n) x12 (v4 + 1) e_many e_spring a14 e_found e_whereOf e_rows e_from e_depth a11 e_places e_lesser)) x10 )))))
def wp_X5_explore (N : Nat) (l_spring : Int32) (l_many : Int32) (l_leap : Nat → Int32) (g_order : Nat → Int32) (g_back : Nat → Int32) (Q : (Int32) → (Int32) → (Nat → Int32) → (Int32) → (Nat → Int32) → (Nat → Int32) → (Nat → Int32) → (Nat → Int32) → (Nat → Int32) → (Nat → Int32) → (Nat → Int32) → Prop) (e_many : Int32) (e_spring : Int32) (e_leapable : Nat → Int32) (e_found : Int32) (e_whereOf : Nat → Int32) (e_rows : Nat → Int32) (e_from : Nat → Int32) (e_depth : Nat → Int32) (e_order : Nat → Int32) (e_places : Nat → Int32) (e_lesser : Nat → Int32) : Prop := wp_X5_isAsExplored N e_many e_spring e_leapable e_rows l_spring l_many l_leap g_order g_back (fun r1 => ((r1 = 0 → wp_J7_fill_53178 N 5040 (fun m2 => (wp_X5_explore_44 N l_spring l_many l_leap g_order g_back  Q N) (0 : Int32) (0 : Int32) l_many l_spring e_leapable (0 : Int32) m2 e_rows e_from e_depth e_order e_places e_lesser) (0 : Int32) e_whereOf) ∧ (¬ (r1 = 0) → Q e_many e_spring e_leapable e_found e_whereOf e_rows e_from e_depth e_order e_places e_lesser)))  
theorem ok_X5_explore_144 {X : Nat × (Nat → Int32)} {N : Nat} {l_told : Int32} {l_spring : Int32} {l_many : Int32} {l_back : Nat → Int32} {l_leap : Nat → Int32} {l_breath : Nat → Int32} {g_turn : Int32} {g_order : Nat → Int32} {g_back : Nat → Int32} {g_breath : Nat → Int32} {g_leapt : Nat → Int32}  {Q : (Int32) → (Int32) → (Nat → Int32) → (Int32) → (Nat → Int32) → (Nat → Int32) → (Nat → Int32) → (Nat → Int32) → (Nat → Int32) → (Nat → Int32) → (Nat → Int32) → Prop}  : ∀ (e_many : Int32) (e_spring : Int32) (e_leapable : Nat → Int32) (e_found : Int32) (e_whereOf : Nat → Int32) (e_rows : Nat → Int32) (e_from : Nat → Int32) (e_depth : Nat → Int32) (e_order : Nat → Int32) (e_places : Nat → Int32) (e_lesser : Nat → Int32), wp_X5_explore_144 N l_spring l_many l_leap g_order g_back  Q  e_many e_spring e_leapable e_found e_whereOf e_rows e_from e_depth e_order e_places e_lesser → EV (ax_GG X) m_X5_explore (po_X5_explore l_told l_spring l_many l_back l_leap l_breath g_turn g_order g_back g_breath g_leapt Q) (144, [none, none, none, none, none, none], [], (w_elg e_many e_spring e_leapable e_found e_whereOf e_rows e_from e_depth e_order e_places e_lesser l_told l_spring l_many l_back l_leap l_breath g_turn g_order g_back g_breath g_leapt), [], 0) := by
  intro e_many e_spring e_leapable e_found e_whereOf e_rows e_from e_depth e_order e_places e_lesser h
  unfold wp_X5_explore_144 at h
  exact EV.ret rfl trivial ⟨_, _, _, _, _, _, _, _, _, _, _, rfl, h⟩
theorem ok_X5_explore_115 {X : Nat × (Nat → Int32)} {N : Nat} {l_told : Int32} {l_spring : Int32} {l_many : Int32} {l_back : Nat → Int32} {l_leap : Nat → Int32} {l_breath : Nat → Int32} {g_turn : Int32} {g_order : Nat → Int32} {g_back : Nat → Int32} {g_breath : Nat → Int32} {g_leapt : Nat → Int32}  {Q : (Int32) → (Int32) → (Nat → Int32) → (Int32) → (Nat → Int32) → (Nat → Int32) → (Nat → Int32) → (Nat → Int32) → (Nat → Int32) → (Nat → Int32) → (Nat → Int32) → Prop}  : ∀ (n : Nat) (v4 : Int32) (e_many : Int32) (e_spring : Int32) (e_leapable : Nat → Int32) (e_found : Int32) (e_whereOf : Nat → Int32) (e_rows : Nat → Int32) (e_from : Nat → Int32) (e_depth : Nat → Int32) (e_order : Nat → Int32) (e_places : Nat → Int32) (e_lesser : Nat → Int32), wp_X5_explore_115 N l_spring l_many l_leap g_order g_back  Q n v4 e_many e_spring e_leapable e_found e_whereOf e_rows e_from e_depth e_order e_places e_lesser → EV (ax_GG X) m_X5_explore (po_X5_explore l_told l_spring l_many l_back l_leap l_breath g_turn g_order g_back g_breath g_leapt Q) (115, [some (.ref 0), none, none, none, some (.int v4), none], [], (w_elg e_many e_spring e_leapable e_found e_whereOf e_rows e_from e_depth e_order e_places e_lesser l_told l_spring l_many l_back l_leap l_breath g_turn g_order g_back g_breath g_leapt), [], 0) := by
  intro n
  induction n with
  | zero => intro _ _ _ _ _ _ _ _ _ _ _ _ h; exact h.elim
  | succ n ih =>
    intro v4 e_many e_spring e_leapable e_found e_whereOf e_rows e_from e_depth e_order e_places e_lesser h
    unfold wp_X5_explore_115 at h
    refine EV.seg (c' := (121, [some (.ref 0), none, none, none, some (.int v4), none], [.int e_found, .int v4], (w_elg e_many e_spring e_leapable e_found e_whereOf e_rows e_from e_depth e_order e_places e_lesser l_told l_spring l_many l_back l_leap l_breath g_turn g_order g_back g_breath g_leapt), [], 0)) 3 rfl trivial ?_
    refine EV.br (c1 := (144, [some (.ref 0), none, none, none, some (.int v4), none], [], (w_elg e_many e_spring e_leapable e_found e_whereOf e_rows e_from e_depth e_order e_places e_lesser l_told l_spring l_many l_back l_leap l_breath g_turn g_order g_back g_breath g_leapt), [], 0)) (c2 := (124, [some (.ref 0), none, none, none, some (.int v4), none], [], (w_elg e_many e_spring e_leapable e_found e_whereOf e_rows e_from e_depth e_order e_places e_lesser l_told l_spring l_many l_back l_leap l_breath g_turn g_order g_back g_breath g_leapt), [], 0)) rfl (fun hc => ?_) (fun hc => ?_)
    · have h := h.1 hc
      refine EV.mask (ls' := [none, none, none, none, none, none]) rfl rfl ?_
      exact (ok_X5_explore_144 ) _ _ _ _ _ _ _ _ _ _ _ h
    · have h := h.2 hc
      refine EV.seg (c' := (129, [some (.ref 0), none, none, none, some (.int v4), none], [.int (5040 : Int32), .int v4], (w_elg e_many e_spring e_leapable e_found e_whereOf e_rows e_from e_depth e_order e_places e_lesser l_told l_spring l_many l_back l_leap l_breath g_turn g_order g_back g_breath g_leapt), [], 0)) 2 rfl trivial ?_
      refine EV.br (c1 := (144, [some (.ref 0), none, none, none, some (.int v4), none], [], (w_elg e_many e_spring e_leapable e_found e_whereOf e_rows e_from e_depth e_order e_places e_lesser l_told l_spring l_many l_back l_leap l_breath g_turn g_order g_back g_breath g_leapt), [], 0)) (c2 := (132, [some (.ref 0), none, none, none, some (.int v4), none], [], (w_elg e_many e_spring e_leapable e_found e_whereOf e_rows e_from e_depth e_order e_places e_lesser l_told l_spring l_many l_back l_leap l_breath g_turn g_order g_back g_breath g_leapt), [], 0)) rfl (fun hc => ?_) (fun hc => ?_)
      · have h := h.1 hc
        refine EV.mask (ls' := [none, none, none, none, none, none]) rfl rfl ?_
        exact (ok_X5_explore_144 ) _ _ _ _ _ _ _ _ _ _ _ h
      · have h := h.2 hc
        refine EV.seg (c' := (135, [some (.ref 0), none, none, none, some (.int v4), none], [.int v4, .ref 0], (w_elg e_many e_spring e_leapable e_found e_whereOf e_rows e_from e_depth e_order e_places e_lesser l_told l_spring l_many l_back l_leap l_breath g_turn g_order g_back g_breath g_leapt), [], 0)) 2 rfl trivial ?_
        refine EV.callL (M' := m_X5_leaveFrom) (L := [0, 1, 2, 3, 4, 5, 6, 7, 8]) rfl rfl ⟨rfl, Nat.le_of_ble_eq_true rfl⟩ rfl rfl (em_X5_leaveFrom (e_many := e_many) (e_spring := e_spring) (e_leapable := e_leapable) (e_found := e_found) (e_whereOf := e_whereOf) (e_rows := e_rows) (e_from := e_from) (e_depth := e_depth) (e_order := e_order) (e_places := e_places) (e_lesser := e_lesser) h) (fun out ho => ?_)
        obtain ⟨m15, m16, m17, m18, m19, m20, m21, m22, rfl, h⟩ := ho
        show EV _ _ _ (138, [some (.ref 0), none, none, none, some (.int v4), none], [], (w_elg e_many e_spring e_leapable m15 m16 m17 m18 m19 m20 m21 m22 l_told l_spring l_many l_back l_leap l_breath g_turn g_order g_back g_breath g_leapt), [], 0)
        refine EV.seg (c' := (115, [some (.ref 0), none, none, none, some (.int (v4 + 1)), none], [], (w_elg e_many e_spring e_leapable m15 m16 m17 m18 m19 m20 m21 m22 l_told l_spring l_many l_back l_leap l_breath g_turn g_order g_back g_breath g_leapt), [], 0)) 2 rfl trivial ?_
        exact ih _ _ _ _ _ _ _ _ _ _ _ _ h
theorem ok_X5_explore_44 {X : Nat × (Nat → Int32)} {N : Nat} {l_told : Int32} {l_spring : Int32} {l_many : Int32} {l_back : Nat → Int32} {l_leap : Nat → Int32} {l_breath : Nat → Int32} {g_turn : Int32} {g_order : Nat → Int32} {g_back : Nat → Int32} {g_breath : Nat → Int32} {g_leapt : Nat → Int32}  {Q : (Int32) → (Int32) → (Nat → Int32) → (Int32) → (Nat → Int32) → (Nat → Int32) → (Nat → Int32) → (Nat → Int32) → (Nat → Int32) → (Nat → Int32) → (Nat → Int32) → Prop}  : ∀ (n : Nat) (v3 : Int32) (v4 : Int32) (e_many : Int32) (e_spring : Int32) (e_leapable : Nat → Int32) (e_found : Int32) (e_whereOf : Nat → Int32) (e_rows : Nat → Int32) (e_from : Nat → Int32) (e_depth : Nat → Int32) (e_order : Nat → Int32) (e_places : Nat → Int32) (e_lesser : Nat → Int32), wp_X5_explore_44 N l_spring l_many l_leap g_order g_back  Q n v3 v4 e_many e_spring e_leapable e_found e_whereOf e_rows e_from e_depth e_order e_places e_lesser → EV (ax_GG X) m_X5_explore (po_X5_explore l_told l_spring l_many l_back l_leap l_breath g_turn g_order g_back g_breath g_leapt Q) (44, [some (.ref 0), some (.ref 9), some (.ref 13), some (.int v3), some (.int v4), none], [], (w_elg e_many e_spring e_leapable e_found e_whereOf e_rows e_from e_depth e_order e_places e_lesser l_told l_spring l_many l_back l_leap l_breath g_turn g_order g_back g_breath g_leapt), [], 0) := by
  intro n
  induction n with
  | zero => intro _ _ _ _ _ _ _ _ _ _ _ _ _ h; exact h.elim
  | succ n ih =>
    intro v3 v4 e_many e_spring e_leapable e_found e_whereOf e_rows e_from e_depth e_order e_places e_lesser h
    unfold wp_X5_explore_44 at h
    refine EV.seg (c' := (50, [some (.ref 0), some (.ref 9), some (.ref 13), some (.int v3), some (.int v4), none], [.int e_many, .int v4], (w_elg e_many e_spring e_leapable e_found e_whereOf e_rows e_from e_depth e_order e_places e_lesser l_told l_spring l_many l_back l_leap l_breath g_turn g_order g_back g_breath g_leapt), [], 0)) 3 rfl trivial ?_
    refine EV.br (c1 := (101, [some (.ref 0), some (.ref 9), some (.ref 13), some (.int v3), some (.int v4), none], [], (w_elg e_many e_spring e_leapable e_found e_whereOf e_rows e_from e_depth e_order e_places e_lesser l_told l_spring l_many l_back l_leap l_breath g_turn g_order g_back g_breath g_leapt), [], 0)) (c2 := (53, [some (.ref 0), some (.ref 9), some (.ref 13), some (.int v3), some (.int v4), none], [], (w_elg e_many e_spring e_leapable e_found e_whereOf e_rows e_from e_depth e_order e_places e_lesser l_told l_spring l_many l_back l_leap l_breath g_turn g_order g_back g_breath g_leapt), [], 0)) rfl (fun hc => ?_) (fun hc => ?_)
    · have h := h.1 hc
      refine EV.seg (c' := (103, [some (.ref 0), some (.ref 9), some (.ref 13), some (.int v3), some (.int v4), none], [.ref 0, .ref 0], (w_elg e_many e_spring e_leapable e_found e_whereOf e_rows e_from e_depth e_order e_places e_lesser l_told l_spring l_many l_back l_leap l_breath g_turn g_order g_back g_breath g_leapt), [], 0)) 2 rfl trivial ?_
      refine EV.callL (M' := m_X5_rank) (L := [0, 1, 2, 3, 4, 5, 6, 7, 8]) rfl rfl ⟨rfl, Nat.le_of_ble_eq_true rfl⟩ rfl rfl (em_X5_rank (e_many := e_many) (e_spring := e_spring) (e_leapable := e_leapable) (e_found := e_found) (e_whereOf := e_whereOf) (e_rows := e_rows) (e_from := e_from) (e_depth := e_depth) (e_order := e_order) (e_places := e_places) (e_lesser := e_lesser) h) (fun out ho => ?_)
      obtain ⟨r3, m4, rfl, h⟩ := ho
      show EV _ _ _ (106, [some (.ref 0), some (.ref 9), some (.ref 13), some (.int v3), some (.int v4), none], [.int r3, .ref 0], (w_elg e_many e_spring e_leapable e_found e_whereOf e_rows e_from e_depth e_order e_places m4 l_told l_spring l_many l_back l_leap l_breath g_turn g_order g_back g_breath g_leapt), [], 0)
      refine EV.seg (c' := (109, [some (.ref 0), some (.ref 9), some (.ref 13), some (.int v3), some (.int v4), none], [.int (0 : Int32), .int (0 : Int32), .int v3, .int r3, .ref 0], (w_elg e_many e_spring e_leapable e_found e_whereOf e_rows e_from e_depth e_order e_places m4 l_told l_spring l_many l_back l_leap l_breath g_turn g_order g_back g_breath g_leapt), [], 0)) 3 rfl trivial ?_
      refine EV.callL (M' := m_X5_add) (L := [0, 1, 2, 3, 4, 5, 6, 7, 8]) rfl rfl ⟨rfl, Nat.le_of_ble_eq_true rfl⟩ rfl rfl (em_X5_add (e_many := e_many) (e_spring := e_spring) (e_leapable := e_leapable) (e_order := e_order) (e_places := e_places) (e_lesser := m4) (e_found := e_found) (e_whereOf := e_whereOf) (e_rows := e_rows) (e_from := e_from) (e_depth := e_depth) h) (fun out ho => ?_)
      obtain ⟨m5, m6, m7, m8, m9, rfl, h⟩ := ho
      show EV _ _ _ (112, [some (.ref 0), some (.ref 9), some (.ref 13), some (.int v3), some (.int v4), none], [], (w_elg e_many e_spring e_leapable m5 m6 m7 m8 m9 e_order e_places m4 l_told l_spring l_many l_back l_leap l_breath g_turn g_order g_back g_breath g_leapt), [], 0)
      refine EV.seg (c' := (115, [some (.ref 0), some (.ref 9), some (.ref 13), some (.int v3), some (.int (0 : Int32)), none], [], (w_elg e_many e_spring e_leapable m5 m6 m7 m8 m9 e_order e_places m4 l_told l_spring l_many l_back l_leap l_breath g_turn g_order g_back g_breath g_leapt), [], 0)) 2 rfl trivial ?_
      refine EV.mask (ls' := [some (.ref 0), none, none, none, some (.int (0 : Int32)), none]) rfl rfl ?_
      exact (ok_X5_explore_115  N) _ _ _ _ _ _ _ _ _ _ _ _ h
    · have h := h.2 hc
      obtain ⟨g1, h⟩ := h
      refine EV.seg (c' := (62, [some (.ref 0), some (.ref 9), some (.ref 13), some (.int v3), some (.int v4), some (.int (g_order v4.toNatClampNeg))], [], (w_elg e_many e_spring e_leapable e_found e_whereOf e_rows e_from e_depth e_order e_places e_lesser l_told l_spring l_many l_back l_leap l_breath g_turn g_order g_back g_breath g_leapt), [], 0)) 5 rfl (And.intro g1 trivial) ?_
      obtain ⟨x10, e_x10⟩ : ∃ z : Int32, z = g_order v4.toNatClampNeg := ⟨_, rfl⟩
      have h := h x10 e_x10
      rw [← e_x10]
      obtain ⟨g1, h⟩ := h
      refine EV.seg (c' := (71, [some (.ref 0), some (.ref 9), some (.ref 13), some (.int v3), some (.int v4), some (.int x10)], [], (w_elg e_many e_spring e_leapable e_found e_whereOf e_rows e_from e_depth (upd e_order v4.toNatClampNeg x10) e_places e_lesser l_told l_spring l_many l_back l_leap l_breath g_turn g_order g_back g_breath g_leapt), [], 0)) 5 rfl (And.intro g1 trivial) ?_
      obtain ⟨a11, e_a11⟩ : ∃ z : Nat → Int32, z = upd e_order v4.toNatClampNeg x10 := ⟨_, rfl⟩
      have h := h a11 e_a11
      rw [← e_a11]
      refine EV.seg (c' := (81, [some (.ref 0), some (.ref 9), some (.ref 13), some (.int (v3 ||| (x10 <<< (((3 : Int32) * v4) &&& 31)))), some (.int v4), some (.int x10)], [], (w_elg e_many e_spring e_leapable e_found e_whereOf e_rows e_from e_depth a11 e_places e_lesser l_told l_spring l_many l_back l_leap l_breath g_turn g_order g_back g_breath g_leapt), [], 0)) 8 rfl trivial ?_
      obtain ⟨x12, e_x12⟩ : ∃ z : Int32, z = v3 ||| (x10 <<< (((3 : Int32) * v4) &&& 31)) := ⟨_, rfl⟩
      have h := h x12 e_x12
      rw [← e_x12]
      refine EV.seg (c' := (91, [some (.ref 0), some (.ref 9), some (.ref 13), some (.int x12), some (.int v4), some (.int x10)], [.int x10, .ref 13, .ref 9, .int x10, .ref 1], (w_elg e_many e_spring e_leapable e_found e_whereOf e_rows e_from e_depth a11 e_places e_lesser l_told l_spring l_many l_back l_leap l_breath g_turn g_order g_back g_breath g_leapt), [], 0)) 6 rfl trivial ?_
      refine EV.callL (M' := m_X5_leapableBy) (L := [9, 10, 11, 12, 13, 14, 15, 16, 17]) rfl rfl ⟨rfl, Nat.le_of_ble_eq_true rfl⟩ rfl rfl (em_X5_leapableBy (l_told := l_told) (l_spring := l_spring) (l_many := l_many) (l_back := l_back) (l_leap := l_leap) (l_breath := l_breath) (g_turn := g_turn) (g_order := g_order) (g_back := g_back) (g_breath := g_breath) (g_leapt := g_leapt)  h) (fun out ho => ?_)
      obtain ⟨r13, rfl, h⟩ := ho
      show EV _ _ _ (94, [some (.ref 0), some (.ref 9), some (.ref 13), some (.int x12), some (.int v4), some (.int x10)], [.int r13, .int x10, .ref 1], (w_elg e_many e_spring e_leapable e_found e_whereOf e_rows e_from e_depth a11 e_places e_lesser l_told l_spring l_many l_back l_leap l_breath g_turn g_order g_back g_breath g_leapt), [], 0)
      obtain ⟨g1, h⟩ := h
      refine EV.seg (c' := (95, [some (.ref 0), some (.ref 9), some (.ref 13), some (.int x12), some (.int v4), some (.int x10)], [], (w_elg e_many e_spring (upd e_leapable x10.toNatClampNeg r13) e_found e_whereOf e_rows e_from e_depth a11 e_places e_lesser l_told l_spring l_many l_back l_leap l_breath g_turn g_order g_back g_breath g_leapt), [], 0)) 1 rfl (And.intro g1 trivial) ?_
      obtain ⟨a14, e_a14⟩ : ∃ z : Nat → Int32, z = upd e_leapable x10.toNatClampNeg r13 := ⟨_, rfl⟩
      have h := h a14 e_a14
      rw [← e_a14]
      refine EV.seg (c' := (44, [some (.ref 0), some (.ref 9), some (.ref 13), some (.int x12), some (.int (v4 + 1)), some (.int x10)], [], (w_elg e_many e_spring a14 e_found e_whereOf e_rows e_from e_depth a11 e_places e_lesser l_told l_spring l_many l_back l_leap l_breath g_turn g_order g_back g_breath g_leapt), [], 0)) 2 rfl trivial ?_
      refine EV.mask (ls' := [some (.ref 0), some (.ref 9), some (.ref 13), some (.int x12), some (.int (v4 + 1)), none]) rfl rfl ?_
      exact ih _ _ _ _ _ _ _ _ _ _ _ _ _ h
theorem em_X5_explore {X : Nat × (Nat → Int32)} {N : Nat} {l_told : Int32} {l_spring : Int32} {l_many : Int32} {l_back : Nat → Int32} {l_leap : Nat → Int32} {l_breath : Nat → Int32} {g_turn : Int32} {g_order : Nat → Int32} {g_back : Nat → Int32} {g_breath : Nat → Int32} {g_leapt : Nat → Int32} {e_many : Int32} {e_spring : Int32} {e_leapable : Nat → Int32} {e_found : Int32} {e_whereOf : Nat → Int32} {e_rows : Nat → Int32} {e_from : Nat → Int32} {e_depth : Nat → Int32} {e_order : Nat → Int32} {e_places : Nat → Int32} {e_lesser : Nat → Int32} {Q : (Int32) → (Int32) → (Nat → Int32) → (Int32) → (Nat → Int32) → (Nat → Int32) → (Nat → Int32) → (Nat → Int32) → (Nat → Int32) → (Nat → Int32) → (Nat → Int32) → Prop} (h : wp_X5_explore N l_spring l_many l_leap g_order g_back Q e_many e_spring e_leapable e_found e_whereOf e_rows e_from e_depth e_order e_places e_lesser) : EM (ax_GG X) m_X5_explore [.ref 0, .ref 9, .ref 13] (w_elg e_many e_spring e_leapable e_found e_whereOf e_rows e_from e_depth e_order e_places e_lesser l_told l_spring l_many l_back l_leap l_breath g_turn g_order g_back g_breath g_leapt) (po_X5_explore l_told l_spring l_many l_back l_leap l_breath g_turn g_order g_back g_breath g_leapt Q) := by
  unfold wp_X5_explore at h
  show EV _ _ _ (0, [some (.ref 0), some (.ref 9), some (.ref 13), none, none, none], [], (w_elg e_many e_spring e_leapable e_found e_whereOf e_rows e_from e_depth e_order e_places e_lesser l_told l_spring l_many l_back l_leap l_breath g_turn g_order g_back g_breath g_leapt), [], 0)
  refine EV.seg (c' := (3, [some (.ref 0), some (.ref 9), some (.ref 13), none, none, none], [.ref 13, .ref 9, .ref 0], (w_elg e_many e_spring e_leapable e_found e_whereOf e_rows e_from e_depth e_order e_places e_lesser l_told l_spring l_many l_back l_leap l_breath g_turn g_order g_back g_breath g_leapt), [], 0)) 3 rfl trivial ?_
  refine EV.call (M' := m_X5_isAsExplored) rfl rfl (Nat.le_of_ble_eq_true rfl) (em_X5_isAsExplored (e_many := e_many) (e_spring := e_spring) (e_leapable := e_leapable) (e_found := e_found) (e_whereOf := e_whereOf) (e_rows := e_rows) (e_from := e_from) (e_depth := e_depth) (e_order := e_order) (e_places := e_places) (e_lesser := e_lesser) (l_told := l_told) (l_spring := l_spring) (l_many := l_many) (l_back := l_back) (l_leap := l_leap) (l_breath := l_breath) (g_turn := g_turn) (g_order := g_order) (g_back := g_back) (g_breath := g_breath) (g_leapt := g_leapt)  h) (fun out ho => ?_)
  obtain ⟨r1, rfl, h⟩ := ho
  show EV _ _ _ (6, [some (.ref 0), some (.ref 9), some (.ref 13), none, none, none], [.int r1], (w_elg e_many e_spring e_leapable e_found e_whereOf e_rows e_from e_depth e_order e_places e_lesser l_told l_spring l_many l_back l_leap l_breath g_turn g_order g_back g_breath g_leapt), [], 0)
  refine EV.br (c1 := (10, [some (.ref 0), some (.ref 9), some (.ref 13), none, none, none], [], (w_elg e_many e_spring e_leapable e_found e_whereOf e_rows e_from e_depth e_order e_places e_lesser l_told l_spring l_many l_back l_leap l_breath g_turn g_order g_back g_breath g_leapt), [], 0)) (c2 := (9, [some (.ref 0), some (.ref 9), some (.ref 13), none, none, none], [], (w_elg e_many e_spring e_leapable e_found e_whereOf e_rows e_from e_depth e_order e_places e_lesser l_told l_spring l_many l_back l_leap l_breath g_turn g_order g_back g_breath g_leapt), [], 0)) rfl (fun hc => ?_) (fun hc => ?_)
  · have h := h.1 hc
    refine EV.seg (c' := (36, [some (.ref 0), some (.ref 9), some (.ref 13), none, none, none], [.int (0 : Int32), .ref 2], (w_elg l_many l_spring e_leapable (0 : Int32) e_whereOf e_rows e_from e_depth e_order e_places e_lesser l_told l_spring l_many l_back l_leap l_breath g_turn g_order g_back g_breath g_leapt), [], 0)) 14 rfl trivial ?_
    refine EV.callL (M' := m_J7_fill_53178) (L := [2]) rfl rfl ⟨rfl, Nat.le_of_ble_eq_true rfl⟩ rfl rfl (em_J7_fill_53178 (y0_len := 5040) (y0_a := e_whereOf) h) (fun out ho => ?_)
    obtain ⟨m2, rfl, h⟩ := ho
    show EV _ _ _ (39, [some (.ref 0), some (.ref 9), some (.ref 13), none, none, none], [], (w_elg l_many l_spring e_leapable (0 : Int32) m2 e_rows e_from e_depth e_order e_places e_lesser l_told l_spring l_many l_back l_leap l_breath g_turn g_order g_back g_breath g_leapt), [], 0)
    refine EV.seg (c' := (44, [some (.ref 0), some (.ref 9), some (.ref 13), some (.int (0 : Int32)), some (.int (0 : Int32)), none], [], (w_elg l_many l_spring e_leapable (0 : Int32) m2 e_rows e_from e_depth e_order e_places e_lesser l_told l_spring l_many l_back l_leap l_breath g_turn g_order g_back g_breath g_leapt), [], 0)) 4 rfl trivial ?_
    exact (ok_X5_explore_44  N) _ _ _ _ _ _ _ _ _ _ _ _ _ h
  · have h := h.2 hc
    exact EV.ret rfl trivial ⟨_, _, _, _, _, _, _, _, _, _, _, rfl, h⟩
abbrev po_X5_find (e_many : Int32) (e_spring : Int32) (e_leapable : Nat → Int32) (e_found : Int32) (e_whereOf : Nat → Int32) (e_rows : Nat → Int32) (e_from : Nat → Int32) (e_depth : Nat → Int32) (e_places : Nat → Int32) (Q : Int32 → (Nat → Int32) → (Nat → Int32) → Prop) : ax_E → Prop := fun out => ∃ (r : Int32) (e_order' : Nat → Int32) (e_lesser' : Nat → Int32), out = (some (.int r), (w_e e_many e_spring e_leapable e_found e_whereOf e_rows e_from e_depth e_order' e_places e_lesser'), [], 0) ∧ Q r e_order' e_lesser'
def wp_X5_find_64 (N : Nat) (e_many : Int32) (e_whereOf : Nat → Int32)  (Q : Int32 → (Nat → Int32) → (Nat → Int32) → Prop) (s0 : Int32) (e_order : Nat → Int32) (e_lesser : Nat → Int32) : Prop := Q s0 e_order e_lesser
def wp_X5_find_63 (N : Nat) (e_many : Int32) (e_whereOf : Nat → Int32) (K64 : (Int32) → (Nat → Int32) → (Nat → Int32) → Prop) (Q : Int32 → (Nat → Int32) → (Nat → Int32) → Prop) (e_order : Nat → Int32) (e_lesser : Nat → Int32) : Prop := K64 (-1 : Int32) e_order e_lesser
def wp_X5_find_9 (N : Nat) (e_many : Int32) (e_whereOf : Nat → Int32)  (Q : Int32 → (Nat → Int32) → (Nat → Int32) → Prop) : Nat → (Int32) → (Int32) → (Nat → Int32) → (Nat → Int32) → Prop
  | 0, _, _, _, _ => False
  | n + 1, v2, v3, e_order, e_lesser => ((v3 < 0 → wp_X5_rank N e_many e_order (fun r2 m3 => ((r2 < 0 → (wp_X5_find_63 N e_many e_whereOf (wp_X5_find_64 N e_many e_whereOf  Q) Q) e_order m3) ∧ (¬ (r2 < 0) → (((5040 : Int32) ≤ r2 → (wp_X5_find_63 N e_many e_whereOf (wp_X5_find_64 N e_many e_whereOf  Q) Q) e_order m3) ∧ (¬ ((5040 : Int32) ≤ r2) → vp_in r2 5040 ∧ (wp_X5_find_64 N e_many e_whereOf  Q) ((e_whereOf r2.toNatClampNeg) - (1 : Int32)) e_order m3)))))  e_lesser) ∧ (¬ (v3 < 0) → ¬ (10 : Int32) = 0 ∧ vp_in v3 7 ∧ (∀ a4 : Nat → Int32, a4 = upd e_order v3.toNatClampNeg ((v2 - v2 / (10 : Int32) * (10 : Int32)) - (1 : Int32)) → ¬ (10 : Int32) = 0 ∧ (∀ x5 : Int32, x5 = v2 / (10 : Int32) → (wp_X5_find_9 N e_many e_whereOf  Q n) x5 (v3 + (-1)) a4 e_lesser))))
def wp_X5_find (N : Nat) (e_many : Int32) (e_whereOf : Nat → Int32) (Q : Int32 → (Nat → Int32) → (Nat → Int32) → Prop) (p0 : Int32) (e_order : Nat → Int32) (e_lesser : Nat → Int32) : Prop := (∀ x1 : Int32, x1 = e_many - (1 : Int32) → (wp_X5_find_9 N e_many e_whereOf  Q N) p0 x1 e_order e_lesser)
theorem ok_X5_find_64 {X : Nat × (Nat → Int32)} {N : Nat} {e_many : Int32} {e_spring : Int32} {e_leapable : Nat → Int32} {e_found : Int32} {e_whereOf : Nat → Int32} {e_rows : Nat → Int32} {e_from : Nat → Int32} {e_depth : Nat → Int32} {e_places : Nat → Int32}  {Q : Int32 → (Nat → Int32) → (Nat → Int32) → Prop}  : ∀ (s0 : Int32) (e_order : Nat → Int32) (e_lesser : Nat → Int32), wp_X5_find_64 N e_many e_whereOf  Q  s0 e_order e_lesser → EV (ax_GG X) m_X5_find (po_X5_find e_many e_spring e_leapable e_found e_whereOf e_rows e_from e_depth e_places Q) (64, [none, none, none, none], [.int s0], (w_e e_many e_spring e_leapable e_found e_whereOf e_rows e_from e_depth e_order e_places e_lesser), [], 0) := by
  intro s0 e_order e_lesser h
  unfold wp_X5_find_64 at h
  exact EV.ret rfl trivial ⟨_, _, _, rfl, h⟩
theorem ok_X5_find_63 {X : Nat × (Nat → Int32)} {N : Nat} {e_many : Int32} {e_spring : Int32} {e_leapable : Nat → Int32} {e_found : Int32} {e_whereOf : Nat → Int32} {e_rows : Nat → Int32} {e_from : Nat → Int32} {e_depth : Nat → Int32} {e_places : Nat → Int32} {K64 : (Int32) → (Nat → Int32) → (Nat → Int32) → Prop} {Q : Int32 → (Nat → Int32) → (Nat → Int32) → Prop} (hK64 : ∀ (s0 : Int32) (e_order : Nat → Int32) (e_lesser : Nat → Int32), K64 s0 e_order e_lesser → EV (ax_GG X) m_X5_find (po_X5_find e_many e_spring e_leapable e_found e_whereOf e_rows e_from e_depth e_places Q) (64, [none, none, none, none], [.int s0], (w_e e_many e_spring e_leapable e_found e_whereOf e_rows e_from e_depth e_order e_places e_lesser), [], 0)) : ∀ (e_order : Nat → Int32) (e_lesser : Nat → Int32), wp_X5_find_63 N e_many e_whereOf K64 Q  e_order e_lesser → EV (ax_GG X) m_X5_find (po_X5_find e_many e_spring e_leapable e_found e_whereOf e_rows e_from e_depth e_places Q) (63, [none, none, none, none], [], (w_e e_many e_spring e_leapable e_found e_whereOf e_rows e_from e_depth e_order e_places e_lesser), [], 0) := by
  intro e_order e_lesser h
  unfold wp_X5_find_63 at h
  refine EV.seg (c' := (64, [none, none, none, none], [.int (-1 : Int32)], (w_e e_many e_spring e_leapable e_found e_whereOf e_rows e_from e_depth e_order e_places e_lesser), [], 0)) 1 rfl trivial ?_
  exact hK64 _ _ _ h
theorem ok_X5_find_9 {X : Nat × (Nat → Int32)} {N : Nat} {e_many : Int32} {e_spring : Int32} {e_leapable : Nat → Int32} {e_found : Int32} {e_whereOf : Nat → Int32} {e_rows : Nat → Int32} {e_from : Nat → Int32} {e_depth : Nat → Int32} {e_places : Nat → Int32}  {Q : Int32 → (Nat → Int32) → (Nat → Int32) → Prop}  : ∀ (n : Nat) (v2 : Int32) (v3 : Int32) (e_order : Nat → Int32) (e_lesser : Nat → Int32), wp_X5_find_9 N e_many e_whereOf  Q n v2 v3 e_order e_lesser → EV (ax_GG X) m_X5_find (po_X5_find e_many e_spring e_leapable e_found e_whereOf e_rows e_from e_depth e_places Q) (9, [some (.ref 0), none, some (.int v2), some (.int v3)], [], (w_e e_many e_spring e_leapable e_found e_whereOf e_rows e_from e_depth e_order e_places e_lesser), [], 0) := by
  intro n
  induction n with
  | zero => intro _ _ _ _ h; exact h.elim
  | succ n ih =>
    intro v2 v3 e_order e_lesser h
    unfold wp_X5_find_9 at h
    refine EV.seg (c' := (10, [some (.ref 0), none, some (.int v2), some (.int v3)], [.int v3], (w_e e_many e_spring e_leapable e_found e_whereOf e_rows e_from e_depth e_order e_places e_lesser), [], 0)) 1 rfl trivial ?_
    refine EV.br (c1 := (36, [some (.ref 0), none, some (.int v2), some (.int v3)], [], (w_e e_many e_spring e_leapable e_found e_whereOf e_rows e_from e_depth e_order e_places e_lesser), [], 0)) (c2 := (13, [some (.ref 0), none, some (.int v2), some (.int v3)], [], (w_e e_many e_spring e_leapable e_found e_whereOf e_rows e_from e_depth e_order e_places e_lesser), [], 0)) rfl (fun hc => ?_) (fun hc => ?_)
    · have h := h.1 hc
      refine EV.seg (c' := (37, [some (.ref 0), none, some (.int v2), some (.int v3)], [.ref 0], (w_e e_many e_spring e_leapable e_found e_whereOf e_rows e_from e_depth e_order e_places e_lesser), [], 0)) 1 rfl trivial ?_
      refine EV.call (M' := m_X5_rank) rfl rfl (Nat.le_of_ble_eq_true rfl) (em_X5_rank (e_many := e_many) (e_spring := e_spring) (e_leapable := e_leapable) (e_found := e_found) (e_whereOf := e_whereOf) (e_rows := e_rows) (e_from := e_from) (e_depth := e_depth) (e_order := e_order) (e_places := e_places) (e_lesser := e_lesser) h) (fun out ho => ?_)
      obtain ⟨r2, m3, rfl, h⟩ := ho
      show EV _ _ _ (40, [some (.ref 0), none, some (.int v2), some (.int v3)], [.int r2], (w_e e_many e_spring e_leapable e_found e_whereOf e_rows e_from e_depth e_order e_places m3), [], 0)
      refine EV.seg (c' := (42, [some (.ref 0), none, some (.int v2), some (.int r2)], [.int r2], (w_e e_many e_spring e_leapable e_found e_whereOf e_rows e_from e_depth e_order e_places m3), [], 0)) 2 rfl trivial ?_
      refine EV.br (c1 := (63, [some (.ref 0), none, some (.int v2), some (.int r2)], [], (w_e e_many e_spring e_leapable e_found e_whereOf e_rows e_from e_depth e_order e_places m3), [], 0)) (c2 := (45, [some (.ref 0), none, some (.int v2), some (.int r2)], [], (w_e e_many e_spring e_leapable e_found e_whereOf e_rows e_from e_depth e_order e_places m3), [], 0)) rfl (fun hc => ?_) (fun hc => ?_)
      · have h := h.1 hc
        refine EV.mask (ls' := [none, none, none, none]) rfl rfl ?_
        exact (ok_X5_find_63 (ok_X5_find_64 )) _ _ h
      · have h := h.2 hc
        refine EV.seg (c' := (49, [some (.ref 0), none, some (.int v2), some (.int r2)], [.int (5040 : Int32), .int r2], (w_e e_many e_spring e_leapable e_found e_whereOf e_rows e_from e_depth e_order e_places m3), [], 0)) 2 rfl trivial ?_
        refine EV.br (c1 := (63, [some (.ref 0), none, some (.int v2), some (.int r2)], [], (w_e e_many e_spring e_leapable e_found e_whereOf e_rows e_from e_depth e_order e_places m3), [], 0)) (c2 := (52, [some (.ref 0), none, some (.int v2), some (.int r2)], [], (w_e e_many e_spring e_leapable e_found e_whereOf e_rows e_from e_depth e_order e_places m3), [], 0)) rfl (fun hc => ?_) (fun hc => ?_)
        · have h := h.1 hc
          refine EV.mask (ls' := [none, none, none, none]) rfl rfl ?_
          exact (ok_X5_find_63 (ok_X5_find_64 )) _ _ h
        · have h := h.2 hc
          obtain ⟨g1, h⟩ := h
          refine EV.seg (c' := (64, [some (.ref 0), none, some (.int v2), some (.int r2)], [.int ((e_whereOf r2.toNatClampNeg) - (1 : Int32))], (w_e e_many e_spring e_leapable e_found e_whereOf e_rows e_from e_depth e_order e_places m3), [], 0)) 7 rfl (And.intro g1 trivial) ?_
          refine EV.mask (ls' := [none, none, none, none]) rfl rfl ?_
          exact (ok_X5_find_64 ) _ _ _ h
    · have h := h.2 hc
      obtain ⟨g1, g2, h⟩ := h
      refine EV.seg (c' := (25, [some (.ref 0), none, some (.int v2), some (.int v3)], [], (w_e e_many e_spring e_leapable e_found e_whereOf e_rows e_from e_depth (upd e_order v3.toNatClampNeg ((v2 - v2 / (10 : Int32) * (10 : Int32)) - (1 : Int32))) e_places e_lesser), [], 0)) 9 rfl (And.intro g1 (And.intro g2 trivial)) ?_
      obtain ⟨a4, e_a4⟩ : ∃ z : Nat → Int32, z = upd e_order v3.toNatClampNeg ((v2 - v2 / (10 : Int32) * (10 : Int32)) - (1 : Int32)) := ⟨_, rfl⟩
      have h := h a4 e_a4
      rw [← e_a4]
      obtain ⟨g1, h⟩ := h
      refine EV.seg (c' := (30, [some (.ref 0), none, some (.int (v2 / (10 : Int32))), some (.int v3)], [], (w_e e_many e_spring e_leapable e_found e_whereOf e_rows e_from e_depth a4 e_places e_lesser), [], 0)) 4 rfl (And.intro g1 trivial) ?_
      obtain ⟨x5, e_x5⟩ : ∃ z : Int32, z = v2 / (10 : Int32) := ⟨_, rfl⟩
      have h := h x5 e_x5
      rw [← e_x5]
      refine EV.seg (c' := (9, [some (.ref 0), none, some (.int x5), some (.int (v3 + (-1)))], [], (w_e e_many e_spring e_leapable e_found e_whereOf e_rows e_from e_depth a4 e_places e_lesser), [], 0)) 2 rfl trivial ?_
      exact ih _ _ _ _ h
theorem em_X5_find {X : Nat × (Nat → Int32)} {N : Nat} {e_many : Int32} {e_spring : Int32} {e_leapable : Nat → Int32} {e_found : Int32} {e_whereOf : Nat → Int32} {e_rows : Nat → Int32} {e_from : Nat → Int32} {e_depth : Nat → Int32} {e_places : Nat → Int32} {p0 : Int32} {e_order : Nat → Int32} {e_lesser : Nat → Int32} {Q : Int32 → (Nat → Int32) → (Nat → Int32) → Prop} (h : wp_X5_find N e_many e_whereOf Q p0 e_order e_lesser) : EM (ax_GG X) m_X5_find [.ref 0, .int p0] (w_e e_many e_spring e_leapable e_found e_whereOf e_rows e_from e_depth e_order e_places e_lesser) (po_X5_find e_many e_spring e_leapable e_found e_whereOf e_rows e_from e_depth e_places Q) := by
  unfold wp_X5_find at h
  show EV _ _ _ (0, [some (.ref 0), some (.int p0), none, none], [], (w_e e_many e_spring e_leapable e_found e_whereOf e_rows e_from e_depth e_order e_places e_lesser), [], 0)
  refine EV.seg (c' := (9, [some (.ref 0), some (.int p0), some (.int p0), some (.int (e_many - (1 : Int32)))], [], (w_e e_many e_spring e_leapable e_found e_whereOf e_rows e_from e_depth e_order e_places e_lesser), [], 0)) 7 rfl trivial ?_
  obtain ⟨x1, e_x1⟩ : ∃ z : Int32, z = e_many - (1 : Int32) := ⟨_, rfl⟩
  have h := h x1 e_x1
  rw [← e_x1]
  refine EV.mask (ls' := [some (.ref 0), none, some (.int p0), some (.int x1)]) rfl rfl ?_
  exact (ok_X5_find_9  N) _ _ _ _ h
abbrev po_X5_leapOf (e_many : Int32) (e_spring : Int32) (e_leapable : Nat → Int32) (e_found : Int32) (e_whereOf : Nat → Int32) (e_rows : Nat → Int32) (e_from : Nat → Int32) (e_depth : Nat → Int32) (e_order : Nat → Int32) (e_places : Nat → Int32) (e_lesser : Nat → Int32) (Q : Int32 → Prop) : ax_E → Prop := fun out => ∃ (r : Int32), out = (some (.int r), (w_e e_many e_spring e_leapable e_found e_whereOf e_rows e_from e_depth e_order e_places e_lesser), [], 0) ∧ Q r
def wp_X5_leapOf_10 (N : Nat) (e_from : Nat → Int32) (e_depth : Nat → Int32)  (Q : Int32 → Prop) : Nat → (Int32) → (Int32) → (Int32) → Prop
  | 0, _, _, _ => False
  | n + 1, v2, v3, v4 => ((v4 ≤ (v2 + (1 : Int32)) → vp_in v3 5040 ∧ Q ((e_from v3.toNatClampNeg) &&& (63 : Int32))) ∧ (¬ (v4 ≤ (v2 + (1 : Int32))) → vp_in v3 5040 ∧ (∀ x2 : Int32, x2 = (e_from v3.toNatClampNeg) >>> ((6 : Int32) &&& 31) → (wp_X5_leapOf_10 N e_from e_depth  Q n) v2 x2 (v4 + (-1)))))
def wp_X5_leapOf (N : Nat) (e_from : Nat → Int32) (e_depth : Nat → Int32) (Q : Int32 → Prop) (p0 : Int32) (p1 : Int32) : Prop := vp_in p0 5040 ∧ (∀ x1 : Int32, x1 = e_depth p0.toNatClampNeg → (wp_X5_leapOf_10 N e_from e_depth  Q N) p1 p0 x1)
theorem ok_X5_leapOf_10 {X : Nat × (Nat → Int32)} {N : Nat} {e_many : Int32} {e_spring : Int32} {e_leapable : Nat → Int32} {e_found : Int32} {e_whereOf : Nat → Int32} {e_rows : Nat → Int32} {e_from : Nat → Int32} {e_depth : Nat → Int32} {e_order : Nat → Int32} {e_places : Nat → Int32} {e_lesser : Nat → Int32}  {Q : Int32 → Prop}  : ∀ (n : Nat) (v2 : Int32) (v3 : Int32) (v4 : Int32), wp_X5_leapOf_10 N e_from e_depth  Q n v2 v3 v4 → EV (ax_GG X) m_X5_leapOf (po_X5_leapOf e_many e_spring e_leapable e_found e_whereOf e_rows e_from e_depth e_order e_places e_lesser Q) (10, [some (.ref 0), none, some (.int v2), some (.int v3), some (.int v4)], [], (w_e e_many e_spring e_leapable e_found e_whereOf e_rows e_from e_depth e_order e_places e_lesser), [], 0) := by
  intro n
  induction n with
  | zero => intro _ _ _ h; exact h.elim
  | succ n ih =>
    intro v2 v3 v4 h
    unfold wp_X5_leapOf_10 at h
    refine EV.seg (c' := (15, [some (.ref 0), none, some (.int v2), some (.int v3), some (.int v4)], [.int (v2 + (1 : Int32)), .int v4], (w_e e_many e_spring e_leapable e_found e_whereOf e_rows e_from e_depth e_order e_places e_lesser), [], 0)) 4 rfl trivial ?_
    refine EV.br (c1 := (34, [some (.ref 0), none, some (.int v2), some (.int v3), some (.int v4)], [], (w_e e_many e_spring e_leapable e_found e_whereOf e_rows e_from e_depth e_order e_places e_lesser), [], 0)) (c2 := (18, [some (.ref 0), none, some (.int v2), some (.int v3), some (.int v4)], [], (w_e e_many e_spring e_leapable e_found e_whereOf e_rows e_from e_depth e_order e_places e_lesser), [], 0)) rfl (fun hc => ?_) (fun hc => ?_)
    · have h := h.1 hc
      obtain ⟨g1, h⟩ := h
      refine EV.seg (c' := (43, [some (.ref 0), none, some (.int v2), some (.int v3), some (.int v4)], [.int ((e_from v3.toNatClampNeg) &&& (63 : Int32))], (w_e e_many e_spring e_leapable e_found e_whereOf e_rows e_from e_depth e_order e_places e_lesser), [], 0)) 6 rfl (And.intro g1 trivial) ?_
      exact EV.ret rfl trivial ⟨_, rfl, h⟩
    · have h := h.2 hc
      obtain ⟨g1, h⟩ := h
      refine EV.seg (c' := (28, [some (.ref 0), none, some (.int v2), some (.int ((e_from v3.toNatClampNeg) >>> ((6 : Int32) &&& 31))), some (.int v4)], [], (w_e e_many e_spring e_leapable e_found e_whereOf e_rows e_from e_depth e_order e_places e_lesser), [], 0)) 7 rfl (And.intro g1 trivial) ?_
      obtain ⟨x2, e_x2⟩ : ∃ z : Int32, z = (e_from v3.toNatClampNeg) >>> ((6 : Int32) &&& 31) := ⟨_, rfl⟩
      have h := h x2 e_x2
      rw [← e_x2]
      refine EV.seg (c' := (10, [some (.ref 0), none, some (.int v2), some (.int x2), some (.int (v4 + (-1)))], [], (w_e e_many e_spring e_leapable e_found e_whereOf e_rows e_from e_depth e_order e_places e_lesser), [], 0)) 2 rfl trivial ?_
      exact ih _ _ _ h
theorem em_X5_leapOf {X : Nat × (Nat → Int32)} {N : Nat} {e_many : Int32} {e_spring : Int32} {e_leapable : Nat → Int32} {e_found : Int32} {e_whereOf : Nat → Int32} {e_rows : Nat → Int32} {e_from : Nat → Int32} {e_depth : Nat → Int32} {e_order : Nat → Int32} {e_places : Nat → Int32} {e_lesser : Nat → Int32} {p0 : Int32} {p1 : Int32} {Q : Int32 → Prop} (h : wp_X5_leapOf N e_from e_depth Q p0 p1) : EM (ax_GG X) m_X5_leapOf [.ref 0, .int p0, .int p1] (w_e e_many e_spring e_leapable e_found e_whereOf e_rows e_from e_depth e_order e_places e_lesser) (po_X5_leapOf e_many e_spring e_leapable e_found e_whereOf e_rows e_from e_depth e_order e_places e_lesser Q) := by
  unfold wp_X5_leapOf at h
  show EV _ _ _ (0, [some (.ref 0), some (.int p0), some (.int p1), none, none], [], (w_e e_many e_spring e_leapable e_found e_whereOf e_rows e_from e_depth e_order e_places e_lesser), [], 0)
  obtain ⟨g1, h⟩ := h
  refine EV.seg (c' := (10, [some (.ref 0), some (.int p0), some (.int p1), some (.int p0), some (.int (e_depth p0.toNatClampNeg))], [], (w_e e_many e_spring e_leapable e_found e_whereOf e_rows e_from e_depth e_order e_places e_lesser), [], 0)) 7 rfl (And.intro g1 trivial) ?_
  obtain ⟨x1, e_x1⟩ : ∃ z : Int32, z = e_depth p0.toNatClampNeg := ⟨_, rfl⟩
  have h := h x1 e_x1
  rw [← e_x1]
  refine EV.mask (ls' := [some (.ref 0), none, some (.int p1), some (.int p0), some (.int x1)]) rfl rfl ?_
  exact (ok_X5_leapOf_10  N) _ _ _ h
abbrev po_X5_within (e_many : Int32) (e_spring : Int32) (e_leapable : Nat → Int32) (e_found : Int32) (e_whereOf : Nat → Int32) (e_rows : Nat → Int32) (e_from : Nat → Int32) (e_depth : Nat → Int32) (e_order : Nat → Int32) (e_places : Nat → Int32) (e_lesser : Nat → Int32) (Q : Int32 → Prop) : ax_E → Prop := fun out => ∃ (r : Int32), out = (some (.int r), (w_e e_many e_spring e_leapable e_found e_whereOf e_rows e_from e_depth e_order e_places e_lesser), [], 0) ∧ Q r
def wp_X5_within_28 (N : Nat) (e_found : Int32) (e_depth : Nat → Int32) (K4 : (Int32) → (Int32) → (Int32) → Prop) (Q : Int32 → Prop) (v1 : Int32) (v3 : Int32) (s0 : Int32) (s1 : Int32) : Prop := (∀ x1 : Int32, x1 = s1 + s0 → K4 v1 x1 (v3 + 1))
def wp_X5_within_4 (N : Nat) (e_found : Int32) (e_depth : Nat → Int32)  (Q : Int32 → Prop) : Nat → (Int32) → (Int32) → (Int32) → Prop
  | 0, _, _, _ => False
  | n + 1, v1, v2, v3 => ((e_found ≤ v3 → Q v2) ∧ (¬ (e_found ≤ v3) → vp_in v3 5040 ∧ ((v1 < (e_depth v3.toNatClampNeg) → (wp_X5_within_28 N e_found e_depth (wp_X5_within_4 N e_found e_depth  Q n) Q) v1 v3 (0 : Int32) v2) ∧ (¬ (v1 < (e_depth v3.toNatClampNeg)) → (wp_X5_within_28 N e_found e_depth (wp_X5_within_4 N e_found e_depth  Q n) Q) v1 v3 (1 : Int32) v2))))
def wp_X5_within (N : Nat) (e_found : Int32) (e_depth : Nat → Int32) (Q : Int32 → Prop) (p0 : Int32) : Prop := (wp_X5_within_4 N e_found e_depth  Q N) p0 (0 : Int32) (0 : Int32)
theorem ok_X5_within_28 {X : Nat × (Nat → Int32)} {N : Nat} {e_many : Int32} {e_spring : Int32} {e_leapable : Nat → Int32} {e_found : Int32} {e_whereOf : Nat → Int32} {e_rows : Nat → Int32} {e_from : Nat → Int32} {e_depth : Nat → Int32} {e_order : Nat → Int32} {e_places : Nat → Int32} {e_lesser : Nat → Int32} {K4 : (Int32) → (Int32) → (Int32) → Prop} {Q : Int32 → Prop} (hK4 : ∀ (v1 : Int32) (v2 : Int32) (v3 : Int32), K4 v1 v2 v3 → EV (ax_GG X) m_X5_within (po_X5_within e_many e_spring e_leapable e_found e_whereOf e_rows e_from e_depth e_order e_places e_lesser Q) (4, [some (.ref 0), some (.int v1), some (.int v2), some (.int v3)], [], (w_e e_many e_spring e_leapable e_found e_whereOf e_rows e_from e_depth e_order e_places e_lesser), [], 0)) : ∀ (v1 : Int32) (v3 : Int32) (s0 : Int32) (s1 : Int32), wp_X5_within_28 N e_found e_depth K4 Q  v1 v3 s0 s1 → EV (ax_GG X) m_X5_within (po_X5_within e_many e_spring e_leapable e_found e_whereOf e_rows e_from e_depth e_order e_places e_lesser Q) (28, [some (.ref 0), some (.int v1), none, some (.int v3)], [.int s0, .int s1], (w_e e_many e_spring e_leapable e_found e_whereOf e_rows e_from e_depth e_order e_places e_lesser), [], 0) := by
  intro v1 v3 s0 s1 h
  unfold wp_X5_within_28 at h
  refine EV.seg (c' := (30, [some (.ref 0), some (.int v1), some (.int (s1 + s0)), some (.int v3)], [], (w_e e_many e_spring e_leapable e_found e_whereOf e_rows e_from e_depth e_order e_places e_lesser), [], 0)) 2 rfl trivial ?_
  obtain ⟨x1, e_x1⟩ : ∃ z : Int32, z = s1 + s0 := ⟨_, rfl⟩
  have h := h x1 e_x1
  rw [← e_x1]
  refine EV.seg (c' := (4, [some (.ref 0), some (.int v1), some (.int x1), some (.int (v3 + 1))], [], (w_e e_many e_spring e_leapable e_found e_whereOf e_rows e_from e_depth e_order e_places e_lesser), [], 0)) 2 rfl trivial ?_
  exact hK4 _ _ _ h
theorem ok_X5_within_4 {X : Nat × (Nat → Int32)} {N : Nat} {e_many : Int32} {e_spring : Int32} {e_leapable : Nat → Int32} {e_found : Int32} {e_whereOf : Nat → Int32} {e_rows : Nat → Int32} {e_from : Nat → Int32} {e_depth : Nat → Int32} {e_order : Nat → Int32} {e_places : Nat → Int32} {e_lesser : Nat → Int32}  {Q : Int32 → Prop}  : ∀ (n : Nat) (v1 : Int32) (v2 : Int32) (v3 : Int32), wp_X5_within_4 N e_found e_depth  Q n v1 v2 v3 → EV (ax_GG X) m_X5_within (po_X5_within e_many e_spring e_leapable e_found e_whereOf e_rows e_from e_depth e_order e_places e_lesser Q) (4, [some (.ref 0), some (.int v1), some (.int v2), some (.int v3)], [], (w_e e_many e_spring e_leapable e_found e_whereOf e_rows e_from e_depth e_order e_places e_lesser), [], 0) := by
  intro n
  induction n with
  | zero => intro _ _ _ h; exact h.elim
  | succ n ih =>
    intro v1 v2 v3 h
    unfold wp_X5_within_4 at h
    refine EV.seg (c' := (9, [some (.ref 0), some (.int v1), some (.int v2), some (.int v3)], [.int e_found, .int v3], (w_e e_many e_spring e_leapable e_found e_whereOf e_rows e_from e_depth e_order e_places e_lesser), [], 0)) 3 rfl trivial ?_
    refine EV.br (c1 := (36, [some (.ref 0), some (.int v1), some (.int v2), some (.int v3)], [], (w_e e_many e_spring e_leapable e_found e_whereOf e_rows e_from e_depth e_order e_places e_lesser), [], 0)) (c2 := (12, [some (.ref 0), some (.int v1), some (.int v2), some (.int v3)], [], (w_e e_many e_spring e_leapable e_found e_whereOf e_rows e_from e_depth e_order e_places e_lesser), [], 0)) rfl (fun hc => ?_) (fun hc => ?_)
    · have h := h.1 hc
      refine EV.seg (c' := (37, [some (.ref 0), some (.int v1), some (.int v2), some (.int v3)], [.int v2], (w_e e_many e_spring e_leapable e_found e_whereOf e_rows e_from e_depth e_order e_places e_lesser), [], 0)) 1 rfl trivial ?_
      exact EV.ret rfl trivial ⟨_, rfl, h⟩
    · have h := h.2 hc
      obtain ⟨g1, h⟩ := h
      refine EV.seg (c' := (20, [some (.ref 0), some (.int v1), some (.int v2), some (.int v3)], [.int v1, .int (e_depth v3.toNatClampNeg), .int v2], (w_e e_many e_spring e_leapable e_found e_whereOf e_rows e_from e_depth e_order e_places e_lesser), [], 0)) 6 rfl (And.intro g1 trivial) ?_
      refine EV.br (c1 := (27, [some (.ref 0), some (.int v1), some (.int v2), some (.int v3)], [.int v2], (w_e e_many e_spring e_leapable e_found e_whereOf e_rows e_from e_depth e_order e_places e_lesser), [], 0)) (c2 := (23, [some (.ref 0), some (.int v1), some (.int v2), some (.int v3)], [.int v2], (w_e e_many e_spring e_leapable e_found e_whereOf e_rows e_from e_depth e_order e_places e_lesser), [], 0)) rfl (fun hc => ?_) (fun hc => ?_)
      · have h := h.1 hc
        refine EV.seg (c' := (28, [some (.ref 0), some (.int v1), some (.int v2), some (.int v3)], [.int (0 : Int32), .int v2], (w_e e_many e_spring e_leapable e_found e_whereOf e_rows e_from e_depth e_order e_places e_lesser), [], 0)) 1 rfl trivial ?_
        refine EV.mask (ls' := [some (.ref 0), some (.int v1), none, some (.int v3)]) rfl rfl ?_
        exact (ok_X5_within_28 ih) _ _ _ _ h
      · have h := h.2 hc
        refine EV.seg (c' := (28, [some (.ref 0), some (.int v1), some (.int v2), some (.int v3)], [.int (1 : Int32), .int v2], (w_e e_many e_spring e_leapable e_found e_whereOf e_rows e_from e_depth e_order e_places e_lesser), [], 0)) 2 rfl trivial ?_
        refine EV.mask (ls' := [some (.ref 0), some (.int v1), none, some (.int v3)]) rfl rfl ?_
        exact (ok_X5_within_28 ih) _ _ _ _ h
theorem em_X5_within {X : Nat × (Nat → Int32)} {N : Nat} {e_many : Int32} {e_spring : Int32} {e_leapable : Nat → Int32} {e_found : Int32} {e_whereOf : Nat → Int32} {e_rows : Nat → Int32} {e_from : Nat → Int32} {e_depth : Nat → Int32} {e_order : Nat → Int32} {e_places : Nat → Int32} {e_lesser : Nat → Int32} {p0 : Int32} {Q : Int32 → Prop} (h : wp_X5_within N e_found e_depth Q p0) : EM (ax_GG X) m_X5_within [.ref 0, .int p0] (w_e e_many e_spring e_leapable e_found e_whereOf e_rows e_from e_depth e_order e_places e_lesser) (po_X5_within e_many e_spring e_leapable e_found e_whereOf e_rows e_from e_depth e_order e_places e_lesser Q) := by
  unfold wp_X5_within at h
  show EV _ _ _ (0, [some (.ref 0), some (.int p0), none, none], [], (w_e e_many e_spring e_leapable e_found e_whereOf e_rows e_from e_depth e_order e_places e_lesser), [], 0)
  refine EV.seg (c' := (4, [some (.ref 0), some (.int p0), some (.int (0 : Int32)), some (.int (0 : Int32))], [], (w_e e_many e_spring e_leapable e_found e_whereOf e_rows e_from e_depth e_order e_places e_lesser), [], 0)) 4 rfl trivial ?_
  exact (ok_X5_within_4  N) _ _ _ h
abbrev po_X5_most (e_many : Int32) (e_spring : Int32) (e_leapable : Nat → Int32) (e_found : Int32) (e_whereOf : Nat → Int32) (e_rows : Nat → Int32) (e_from : Nat → Int32) (e_depth : Nat → Int32) (e_order : Nat → Int32) (e_places : Nat → Int32) (e_lesser : Nat → Int32) (Q : Int32 → Prop) : ax_E → Prop := fun out => ∃ (r : Int32), out = (some (.int r), (w_e e_many e_spring e_leapable e_found e_whereOf e_rows e_from e_depth e_order e_places e_lesser), [], 0) ∧ Q r
def wp_X5_most_22 (N : Nat) (e_found : Int32) (e_depth : Nat → Int32)  (Q : Int32 → Prop) (s0 : Int32) : Prop := Q s0
def wp_X5_most (N : Nat) (e_found : Int32) (e_depth : Nat → Int32) (Q : Int32 → Prop)  : Prop := ((e_found ≤ 0 → (wp_X5_most_22 N e_found e_depth  Q) (0 : Int32)) ∧ (¬ (e_found ≤ 0) → vp_in (e_found - (1 : Int32)) 5040 ∧ (wp_X5_most_22 N e_found e_depth  Q) (e_depth (e_found - (1 : Int32)).toNatClampNeg)))
theorem ok_X5_most_22 {X : Nat × (Nat → Int32)} {N : Nat} {e_many : Int32} {e_spring : Int32} {e_leapable : Nat → Int32} {e_found : Int32} {e_whereOf : Nat → Int32} {e_rows : Nat → Int32} {e_from : Nat → Int32} {e_depth : Nat → Int32} {e_order : Nat → Int32} {e_places : Nat → Int32} {e_lesser : Nat → Int32}  {Q : Int32 → Prop}  : ∀ (s0 : Int32), wp_X5_most_22 N e_found e_depth  Q  s0 → EV (ax_GG X) m_X5_most (po_X5_most e_many e_spring e_leapable e_found e_whereOf e_rows e_from e_depth e_order e_places e_lesser Q) (22, [none], [.int s0], (w_e e_many e_spring e_leapable e_found e_whereOf e_rows e_from e_depth e_order e_places e_lesser), [], 0) := by
  intro s0 h
  unfold wp_X5_most_22 at h
  exact EV.ret rfl trivial ⟨_, rfl, h⟩
theorem em_X5_most {X : Nat × (Nat → Int32)} {N : Nat} {e_many : Int32} {e_spring : Int32} {e_leapable : Nat → Int32} {e_found : Int32} {e_whereOf : Nat → Int32} {e_rows : Nat → Int32} {e_from : Nat → Int32} {e_depth : Nat → Int32} {e_order : Nat → Int32} {e_places : Nat → Int32} {e_lesser : Nat → Int32}  {Q : Int32 → Prop} (h : wp_X5_most N e_found e_depth Q ) : EM (ax_GG X) m_X5_most [.ref 0] (w_e e_many e_spring e_leapable e_found e_whereOf e_rows e_from e_depth e_order e_places e_lesser) (po_X5_most e_many e_spring e_leapable e_found e_whereOf e_rows e_from e_depth e_order e_places e_lesser Q) := by
  unfold wp_X5_most at h
  show EV _ _ _ (0, [some (.ref 0)], [], (w_e e_many e_spring e_leapable e_found e_whereOf e_rows e_from e_depth e_order e_places e_lesser), [], 0)
  refine EV.seg (c' := (4, [some (.ref 0)], [.int e_found], (w_e e_many e_spring e_leapable e_found e_whereOf e_rows e_from e_depth e_order e_places e_lesser), [], 0)) 2 rfl trivial ?_
  refine EV.br (c1 := (21, [some (.ref 0)], [], (w_e e_many e_spring e_leapable e_found e_whereOf e_rows e_from e_depth e_order e_places e_lesser), [], 0)) (c2 := (7, [some (.ref 0)], [], (w_e e_many e_spring e_leapable e_found e_whereOf e_rows e_from e_depth e_order e_places e_lesser), [], 0)) rfl (fun hc => ?_) (fun hc => ?_)
  · have h := h.1 hc
    refine EV.seg (c' := (22, [some (.ref 0)], [.int (0 : Int32)], (w_e e_many e_spring e_leapable e_found e_whereOf e_rows e_from e_depth e_order e_places e_lesser), [], 0)) 1 rfl trivial ?_
    refine EV.mask (ls' := [none]) rfl rfl ?_
    exact (ok_X5_most_22 ) _ h
  · have h := h.2 hc
    obtain ⟨g1, h⟩ := h
    refine EV.seg (c' := (22, [some (.ref 0)], [.int (e_depth (e_found - (1 : Int32)).toNatClampNeg)], (w_e e_many e_spring e_leapable e_found e_whereOf e_rows e_from e_depth e_order e_places e_lesser), [], 0)) 8 rfl (And.intro g1 trivial) ?_
    refine EV.mask (ls' := [none]) rfl rfl ?_
    exact (ok_X5_most_22 ) _ h
abbrev po_X5_numberOf (e_many : Int32) (e_spring : Int32) (e_leapable : Nat → Int32) (e_found : Int32) (e_whereOf : Nat → Int32) (e_rows : Nat → Int32) (e_from : Nat → Int32) (e_depth : Nat → Int32) (e_order : Nat → Int32) (e_places : Nat → Int32) (e_lesser : Nat → Int32) (Q : Int32 → Prop) : ax_E → Prop := fun out => ∃ (r : Int32), out = (some (.int r), (w_e e_many e_spring e_leapable e_found e_whereOf e_rows e_from e_depth e_order e_places e_lesser), [], 0) ∧ Q r
def wp_X5_numberOf_4 (N : Nat) (e_many : Int32)  (Q : Int32 → Prop) : Nat → (Int32) → (Int32) → (Int32) → Prop
  | 0, _, _, _ => False
  | n + 1, v1, v2, v3 => ((e_many ≤ v3 → Q v2) ∧ (¬ (e_many ≤ v3) → (∀ x1 : Int32, x1 = (((10 : Int32) * v2) + ((v1 >>> (((3 : Int32) * v3) &&& 31)) &&& (7 : Int32))) + (1 : Int32) → (wp_X5_numberOf_4 N e_many  Q n) v1 x1 (v3 + 1))))
def wp_X5_numberOf (N : Nat) (e_many : Int32) (Q : Int32 → Prop) (p0 : Int32) : Prop := (wp_X5_numberOf_4 N e_many  Q N) p0 (0 : Int32) (0 : Int32)
theorem ok_X5_numberOf_4 {X : Nat × (Nat → Int32)} {N : Nat} {e_many : Int32} {e_spring : Int32} {e_leapable : Nat → Int32} {e_found : Int32} {e_whereOf : Nat → Int32} {e_rows : Nat → Int32} {e_from : Nat → Int32} {e_depth : Nat → Int32} {e_order : Nat → Int32} {e_places : Nat → Int32} {e_lesser : Nat → Int32}  {Q : Int32 → Prop}  : ∀ (n : Nat) (v1 : Int32) (v2 : Int32) (v3 : Int32), wp_X5_numberOf_4 N e_many  Q n v1 v2 v3 → EV (ax_GG X) m_X5_numberOf (po_X5_numberOf e_many e_spring e_leapable e_found e_whereOf e_rows e_from e_depth e_order e_places e_lesser Q) (4, [some (.ref 0), some (.int v1), some (.int v2), some (.int v3)], [], (w_e e_many e_spring e_leapable e_found e_whereOf e_rows e_from e_depth e_order e_places e_lesser), [], 0) := by
  intro n
  induction n with
  | zero => intro _ _ _ h; exact h.elim
  | succ n ih =>
    intro v1 v2 v3 h
    unfold wp_X5_numberOf_4 at h
    refine EV.seg (c' := (9, [some (.ref 0), some (.int v1), some (.int v2), some (.int v3)], [.int e_many, .int v3], (w_e e_many e_spring e_leapable e_found e_whereOf e_rows e_from e_depth e_order e_places e_lesser), [], 0)) 3 rfl trivial ?_
    refine EV.br (c1 := (34, [some (.ref 0), some (.int v1), some (.int v2), some (.int v3)], [], (w_e e_many e_spring e_leapable e_found e_whereOf e_rows e_from e_depth e_order e_places e_lesser), [], 0)) (c2 := (12, [some (.ref 0), some (.int v1), some (.int v2), some (.int v3)], [], (w_e e_many e_spring e_leapable e_found e_whereOf e_rows e_from e_depth e_order e_places e_lesser), [], 0)) rfl (fun hc => ?_) (fun hc => ?_)
    · have h := h.1 hc
      refine EV.seg (c' := (35, [some (.ref 0), some (.int v1), some (.int v2), some (.int v3)], [.int v2], (w_e e_many e_spring e_leapable e_found e_whereOf e_rows e_from e_depth e_order e_places e_lesser), [], 0)) 1 rfl trivial ?_
      exact EV.ret rfl trivial ⟨_, rfl, h⟩
    · have h := h.2 hc
      refine EV.seg (c' := (28, [some (.ref 0), some (.int v1), some (.int ((((10 : Int32) * v2) + ((v1 >>> (((3 : Int32) * v3) &&& 31)) &&& (7 : Int32))) + (1 : Int32))), some (.int v3)], [], (w_e e_many e_spring e_leapable e_found e_whereOf e_rows e_from e_depth e_order e_places e_lesser), [], 0)) 14 rfl trivial ?_
      obtain ⟨x1, e_x1⟩ : ∃ z : Int32, z = (((10 : Int32) * v2) + ((v1 >>> (((3 : Int32) * v3) &&& 31)) &&& (7 : Int32))) + (1 : Int32) := ⟨_, rfl⟩
      have h := h x1 e_x1
      rw [← e_x1]
      refine EV.seg (c' := (4, [some (.ref 0), some (.int v1), some (.int x1), some (.int (v3 + 1))], [], (w_e e_many e_spring e_leapable e_found e_whereOf e_rows e_from e_depth e_order e_places e_lesser), [], 0)) 2 rfl trivial ?_
      exact ih _ _ _ h
theorem em_X5_numberOf {X : Nat × (Nat → Int32)} {N : Nat} {e_many : Int32} {e_spring : Int32} {e_leapable : Nat → Int32} {e_found : Int32} {e_whereOf : Nat → Int32} {e_rows : Nat → Int32} {e_from : Nat → Int32} {e_depth : Nat → Int32} {e_order : Nat → Int32} {e_places : Nat → Int32} {e_lesser : Nat → Int32} {p0 : Int32} {Q : Int32 → Prop} (h : wp_X5_numberOf N e_many Q p0) : EM (ax_GG X) m_X5_numberOf [.ref 0, .int p0] (w_e e_many e_spring e_leapable e_found e_whereOf e_rows e_from e_depth e_order e_places e_lesser) (po_X5_numberOf e_many e_spring e_leapable e_found e_whereOf e_rows e_from e_depth e_order e_places e_lesser Q) := by
  unfold wp_X5_numberOf at h
  show EV _ _ _ (0, [some (.ref 0), some (.int p0), none, none], [], (w_e e_many e_spring e_leapable e_found e_whereOf e_rows e_from e_depth e_order e_places e_lesser), [], 0)
  refine EV.seg (c' := (4, [some (.ref 0), some (.int p0), some (.int (0 : Int32)), some (.int (0 : Int32))], [], (w_e e_many e_spring e_leapable e_found e_whereOf e_rows e_from e_depth e_order e_places e_lesser), [], 0)) 4 rfl trivial ?_
  exact (ok_X5_numberOf_4  N) _ _ _ h
abbrev po_X5_farthestOrder (e_many : Int32) (e_spring : Int32) (e_leapable : Nat → Int32) (e_found : Int32) (e_whereOf : Nat → Int32) (e_rows : Nat → Int32) (e_from : Nat → Int32) (e_depth : Nat → Int32) (e_order : Nat → Int32) (e_places : Nat → Int32) (e_lesser : Nat → Int32) (Q : Int32 → Prop) : ax_E → Prop := fun out => ∃ (r : Int32), out = (some (.int r), (w_e e_many e_spring e_leapable e_found e_whereOf e_rows e_from e_depth e_order e_places e_lesser), [], 0) ∧ Q r
def wp_X5_farthestOrder_41 (N : Nat) (e_many : Int32) (e_found : Int32) (e_rows : Nat → Int32) (e_depth : Nat → Int32) (K5 : (Int32) → (Int32) → Prop) (Q : Int32 → Prop) (v1 : Int32) (v2 : Int32) : Prop := K5 v1 (v2 + 1)
def wp_X5_farthestOrder_5 (N : Nat) (e_many : Int32) (e_found : Int32) (e_rows : Nat → Int32) (e_depth : Nat → Int32)  (Q : Int32 → Prop) : Nat → (Int32) → (Int32) → Prop
  | 0, _, _ => False
  | n + 1, v1, v2 => ((e_found ≤ v2 → Q v1) ∧ (¬ (e_found ≤ v2) → vp_in v2 5040 ∧ wp_X5_most N e_found e_depth (fun r1 => (((e_depth v2.toNatClampNeg) = r1 → vp_in v2 5040 ∧ wp_X5_numberOf N e_many (fun r2 => wp_J9_min_7cf53 N  (fun r3 => (wp_X5_farthestOrder_41 N e_many e_found e_rows e_depth (wp_X5_farthestOrder_5 N e_many e_found e_rows e_depth  Q n) Q) r3 v2) v1 r2 ) (e_rows v2.toNatClampNeg) ) ∧ (¬ ((e_depth v2.toNatClampNeg) = r1) → (wp_X5_farthestOrder_41 N e_many e_found e_rows e_depth (wp_X5_farthestOrder_5 N e_many e_found e_rows e_depth  Q n) Q) v1 v2)))  ))
def wp_X5_farthestOrder (N : Nat) (e_many : Int32) (e_found : Int32) (e_rows : Nat → Int32) (e_depth : Nat → Int32) (Q : Int32 → Prop)  : Prop := (wp_X5_farthestOrder_5 N e_many e_found e_rows e_depth  Q N) (7654321 : Int32) (0 : Int32)
theorem ok_X5_farthestOrder_41 {X : Nat × (Nat → Int32)} {N : Nat} {e_many : Int32} {e_spring : Int32} {e_leapable : Nat → Int32} {e_found : Int32} {e_whereOf : Nat → Int32} {e_rows : Nat → Int32} {e_from : Nat → Int32} {e_depth : Nat → Int32} {e_order : Nat → Int32} {e_places : Nat → Int32} {e_lesser : Nat → Int32} {K5 : (Int32) → (Int32) → Prop} {Q : Int32 → Prop} (hK5 : ∀ (v1 : Int32) (v2 : Int32), K5 v1 v2 → EV (ax_GG X) m_X5_farthestOrder (po_X5_farthestOrder e_many e_spring e_leapable e_found e_whereOf e_rows e_from e_depth e_order e_places e_lesser Q) (5, [some (.ref 0), some (.int v1), some (.int v2)], [], (w_e e_many e_spring e_leapable e_found e_whereOf e_rows e_from e_depth e_order e_places e_lesser), [], 0)) : ∀ (v1 : Int32) (v2 : Int32), wp_X5_farthestOrder_41 N e_many e_found e_rows e_depth K5 Q  v1 v2 → EV (ax_GG X) m_X5_farthestOrder (po_X5_farthestOrder e_many e_spring e_leapable e_found e_whereOf e_rows e_from e_depth e_order e_places e_lesser Q) (41, [some (.ref 0), some (.int v1), some (.int v2)], [], (w_e e_many e_spring e_leapable e_found e_whereOf e_rows e_from e_depth e_order e_places e_lesser), [], 0) := by
  intro v1 v2 h
  unfold wp_X5_farthestOrder_41 at h
  refine EV.seg (c' := (5, [some (.ref 0), some (.int v1), some (.int (v2 + 1))], [], (w_e e_many e_spring e_leapable e_found e_whereOf e_rows e_from e_depth e_order e_places e_lesser), [], 0)) 2 rfl trivial ?_
  exact hK5 _ _ h
theorem ok_X5_farthestOrder_5 {X : Nat × (Nat → Int32)} {N : Nat} {e_many : Int32} {e_spring : Int32} {e_leapable : Nat → Int32} {e_found : Int32} {e_whereOf : Nat → Int32} {e_rows : Nat → Int32} {e_from : Nat → Int32} {e_depth : Nat → Int32} {e_order : Nat → Int32} {e_places : Nat → Int32} {e_lesser : Nat → Int32}  {Q : Int32 → Prop}  : ∀ (n : Nat) (v1 : Int32) (v2 : Int32), wp_X5_farthestOrder_5 N e_many e_found e_rows e_depth  Q n v1 v2 → EV (ax_GG X) m_X5_farthestOrder (po_X5_farthestOrder e_many e_spring e_leapable e_found e_whereOf e_rows e_from e_depth e_order e_places e_lesser Q) (5, [some (.ref 0), some (.int v1), some (.int v2)], [], (w_e e_many e_spring e_leapable e_found e_whereOf e_rows e_from e_depth e_order e_places e_lesser), [], 0) := by
  intro n
  induction n with
  | zero => intro _ _ h; exact h.elim
  | succ n ih =>
    intro v1 v2 h
    unfold wp_X5_farthestOrder_5 at h
    refine EV.seg (c' := (10, [some (.ref 0), some (.int v1), some (.int v2)], [.int e_found, .int v2], (w_e e_many e_spring e_leapable e_found e_whereOf e_rows e_from e_depth e_order e_places e_lesser), [], 0)) 3 rfl trivial ?_
    refine EV.br (c1 := (47, [some (.ref 0), some (.int v1), some (.int v2)], [], (w_e e_many e_spring e_leapable e_found e_whereOf e_rows e_from e_depth e_order e_places e_lesser), [], 0)) (c2 := (13, [some (.ref 0), some (.int v1), some (.int v2)], [], (w_e e_many e_spring e_leapable e_found e_whereOf e_rows e_from e_depth e_order e_places e_lesser), [], 0)) rfl (fun hc => ?_) (fun hc => ?_)
    · have h := h.1 hc
      refine EV.seg (c' := (48, [some (.ref 0), some (.int v1), some (.int v2)], [.int v1], (w_e e_many e_spring e_leapable e_found e_whereOf e_rows e_from e_depth e_order e_places e_lesser), [], 0)) 1 rfl trivial ?_
      exact EV.ret rfl trivial ⟨_, rfl, h⟩
    · have h := h.2 hc
      obtain ⟨g1, h⟩ := h
      refine EV.seg (c' := (20, [some (.ref 0), some (.int v1), some (.int v2)], [.ref 0, .int (e_depth v2.toNatClampNeg)], (w_e e_many e_spring e_leapable e_found e_whereOf e_rows e_from e_depth e_order e_places e_lesser), [], 0)) 5 rfl (And.intro g1 trivial) ?_
      refine EV.call (M' := m_X5_most) rfl rfl (Nat.le_of_ble_eq_true rfl) (em_X5_most (e_many := e_many) (e_spring := e_spring) (e_leapable := e_leapable) (e_found := e_found) (e_whereOf := e_whereOf) (e_rows := e_rows) (e_from := e_from) (e_depth := e_depth) (e_order := e_order) (e_places := e_places) (e_lesser := e_lesser)  h) (fun out ho => ?_)
      obtain ⟨r1, rfl, h⟩ := ho
      show EV _ _ _ (23, [some (.ref 0), some (.int v1), some (.int v2)], [.int r1, .int (e_depth v2.toNatClampNeg)], (w_e e_many e_spring e_leapable e_found e_whereOf e_rows e_from e_depth e_order e_places e_lesser), [], 0)
      refine EV.br (c1 := (26, [some (.ref 0), some (.int v1), some (.int v2)], [], (w_e e_many e_spring e_leapable e_found e_whereOf e_rows e_from e_depth e_order e_places e_lesser), [], 0)) (c2 := (41, [some (.ref 0), some (.int v1), some (.int v2)], [], (w_e e_many e_spring e_leapable e_found e_whereOf e_rows e_from e_depth e_order e_places e_lesser), [], 0)) rfl (fun hc => ?_) (fun hc => ?_)
      · have h := h.1 hc
        obtain ⟨g1, h⟩ := h
        refine EV.seg (c' := (34, [some (.ref 0), some (.int v1), some (.int v2)], [.int (e_rows v2.toNatClampNeg), .ref 0, .int v1], (w_e e_many e_spring e_leapable e_found e_whereOf e_rows e_from e_depth e_order e_places e_lesser), [], 0)) 6 rfl (And.intro g1 trivial) ?_
        refine EV.call (M' := m_X5_numberOf) rfl rfl (Nat.le_of_ble_eq_true rfl) (em_X5_numberOf (e_many := e_many) (e_spring := e_spring) (e_leapable := e_leapable) (e_found := e_found) (e_whereOf := e_whereOf) (e_rows := e_rows) (e_from := e_from) (e_depth := e_depth) (e_order := e_order) (e_places := e_places) (e_lesser := e_lesser)  h) (fun out ho => ?_)
        obtain ⟨r2, rfl, h⟩ := ho
        show EV _ _ _ (37, [some (.ref 0), some (.int v1), some (.int v2)], [.int r2, .int v1], (w_e e_many e_spring e_leapable e_found e_whereOf e_rows e_from e_depth e_order e_places e_lesser), [], 0)
        refine EV.call (M' := m_J9_min_7cf53) rfl rfl (Nat.le_of_ble_eq_true rfl) (em_J9_min_7cf53  h) (fun out ho => ?_)
        obtain ⟨r3, rfl, h⟩ := ho
        show EV _ _ _ (40, [some (.ref 0), some (.int v1), some (.int v2)], [.int r3], (w_e e_many e_spring e_leapable e_found e_whereOf e_rows e_from e_depth e_order e_places e_lesser), [], 0)
        refine EV.seg (c' := (41, [some (.ref 0), some (.int r3), some (.int v2)], [], (w_e e_many e_spring e_leapable e_found e_whereOf e_rows e_from e_depth e_order e_places e_lesser), [], 0)) 1 rfl trivial ?_
        exact (ok_X5_farthestOrder_41 ih) _ _ h
      · have h := h.2 hc
        exact (ok_X5_farthestOrder_41 ih) _ _ h
theorem em_X5_farthestOrder {X : Nat × (Nat → Int32)} {N : Nat} {e_many : Int32} {e_spring : Int32} {e_leapable : Nat → Int32} {e_found : Int32} {e_whereOf : Nat → Int32} {e_rows : Nat → Int32} {e_from : Nat → Int32} {e_depth : Nat → Int32} {e_order : Nat → Int32} {e_places : Nat → Int32} {e_lesser : Nat → Int32}  {Q : Int32 → Prop} (h : wp_X5_farthestOrder N e_many e_found e_rows e_depth Q ) : EM (ax_GG X) m_X5_farthestOrder [.ref 0] (w_e e_many e_spring e_leapable e_found e_whereOf e_rows e_from e_depth e_order e_places e_lesser) (po_X5_farthestOrder e_many e_spring e_leapable e_found e_whereOf e_rows e_from e_depth e_order e_places e_lesser Q) := by
  unfold wp_X5_farthestOrder at h
  show EV _ _ _ (0, [some (.ref 0), none, none], [], (w_e e_many e_spring e_leapable e_found e_whereOf e_rows e_from e_depth e_order e_places e_lesser), [], 0)
  refine EV.seg (c' := (5, [some (.ref 0), some (.int (7654321 : Int32)), some (.int (0 : Int32))], [], (w_e e_many e_spring e_leapable e_found e_whereOf e_rows e_from e_depth e_order e_places e_lesser), [], 0)) 4 rfl trivial ?_
  exact (ok_X5_farthestOrder_5  N) _ _ h
abbrev po_X5_soonestFirst (e_many : Int32) (e_spring : Int32) (e_leapable : Nat → Int32) (e_found : Int32) (e_whereOf : Nat → Int32) (e_rows : Nat → Int32) (e_from : Nat → Int32) (e_depth : Nat → Int32) (e_order : Nat → Int32) (e_places : Nat → Int32) (e_lesser : Nat → Int32) (Q : Int32 → Prop) : ax_E → Prop := fun out => ∃ (r : Int32), out = (some (.int r), (w_e e_many e_spring e_leapable e_found e_whereOf e_rows e_from e_depth e_order e_places e_lesser), [], 0) ∧ Q r
def wp_X5_soonestFirst_2 (N : Nat) (e_found : Int32) (e_rows : Nat → Int32) (e_depth : Nat → Int32)  (Q : Int32 → Prop) : Nat → (Int32) → (Int32) → Prop
  | 0, _, _ => False
  | n + 1, v1, v2 => ((e_found ≤ v2 → Q (-2 : Int32)) ∧ (¬ (e_found ≤ v2) → vp_in v2 5040 ∧ ((((e_rows v2.toNatClampNeg) &&& (7 : Int32)) = v1 → vp_in v2 5040 ∧ Q (e_depth v2.toNatClampNeg)) ∧ (¬ (((e_rows v2.toNatClampNeg) &&& (7 : Int32)) = v1) → (wp_X5_soonestFirst_2 N e_found e_rows e_depth  Q n) v1 (v2 + 1)))))
def wp_X5_soonestFirst (N : Nat) (e_found : Int32) (e_rows : Nat → Int32) (e_depth : Nat → Int32) (Q : Int32 → Prop) (p0 : Int32) : Prop := (wp_X5_soonestFirst_2 N e_found e_rows e_depth  Q N) p0 (0 : Int32)
theorem ok_X5_soonestFirst_2 {X : Nat × (Nat → Int32)} {N : Nat} {e_many : Int32} {e_spring : Int32} {e_leapable : Nat → Int32} {e_found : Int32} {e_whereOf : Nat → Int32} {e_rows : Nat → Int32} {e_from : Nat → Int32} {e_depth : Nat → Int32} {e_order : Nat → Int32} {e_places : Nat → Int32} {e_lesser : Nat → Int32}  {Q : Int32 → Prop}  : ∀ (n : Nat) (v1 : Int32) (v2 : Int32), wp_X5_soonestFirst_2 N e_found e_rows e_depth  Q n v1 v2 → EV (ax_GG X) m_X5_soonestFirst (po_X5_soonestFirst e_many e_spring e_leapable e_found e_whereOf e_rows e_from e_depth e_order e_places e_lesser Q) (2, [some (.ref 0), some (.int v1), some (.int v2)], [], (w_e e_many e_spring e_leapable e_found e_whereOf e_rows e_from e_depth e_order e_places e_lesser), [], 0) := by
  intro n
  induction n with
  | zero => intro _ _ h; exact h.elim
  | succ n ih =>
    intro v1 v2 h
    unfold wp_X5_soonestFirst_2 at h
    refine EV.seg (c' := (7, [some (.ref 0), some (.int v1), some (.int v2)], [.int e_found, .int v2], (w_e e_many e_spring e_leapable e_found e_whereOf e_rows e_from e_depth e_order e_places e_lesser), [], 0)) 3 rfl trivial ?_
    refine EV.br (c1 := (36, [some (.ref 0), some (.int v1), some (.int v2)], [], (w_e e_many e_spring e_leapable e_found e_whereOf e_rows e_from e_depth e_order e_places e_lesser), [], 0)) (c2 := (10, [some (.ref 0), some (.int v1), some (.int v2)], [], (w_e e_many e_spring e_leapable e_found e_whereOf e_rows e_from e_depth e_order e_places e_lesser), [], 0)) rfl (fun hc => ?_) (fun hc => ?_)
    · have h := h.1 hc
      refine EV.seg (c' := (38, [some (.ref 0), some (.int v1), some (.int v2)], [.int (-2 : Int32)], (w_e e_many e_spring e_leapable e_found e_whereOf e_rows e_from e_depth e_order e_places e_lesser), [], 0)) 1 rfl trivial ?_
      exact EV.ret rfl trivial ⟨_, rfl, h⟩
    · have h := h.2 hc
      obtain ⟨g1, h⟩ := h
      refine EV.seg (c' := (20, [some (.ref 0), some (.int v1), some (.int v2)], [.int v1, .int ((e_rows v2.toNatClampNeg) &&& (7 : Int32))], (w_e e_many e_spring e_leapable e_found e_whereOf e_rows e_from e_depth e_order e_places e_lesser), [], 0)) 7 rfl (And.intro g1 trivial) ?_
      refine EV.br (c1 := (23, [some (.ref 0), some (.int v1), some (.int v2)], [], (w_e e_many e_spring e_leapable e_found e_whereOf e_rows e_from e_depth e_order e_places e_lesser), [], 0)) (c2 := (30, [some (.ref 0), some (.int v1), some (.int v2)], [], (w_e e_many e_spring e_leapable e_found e_whereOf e_rows e_from e_depth e_order e_places e_lesser), [], 0)) rfl (fun hc => ?_) (fun hc => ?_)
      · have h := h.1 hc
        obtain ⟨g1, h⟩ := h
        refine EV.seg (c' := (29, [some (.ref 0), some (.int v1), some (.int v2)], [.int (e_depth v2.toNatClampNeg)], (w_e e_many e_spring e_leapable e_found e_whereOf e_rows e_from e_depth e_order e_places e_lesser), [], 0)) 4 rfl (And.intro g1 trivial) ?_
        exact EV.ret rfl trivial ⟨_, rfl, h⟩
      · have h := h.2 hc
        refine EV.seg (c' := (2, [some (.ref 0), some (.int v1), some (.int (v2 + 1))], [], (w_e e_many e_spring e_leapable e_found e_whereOf e_rows e_from e_depth e_order e_places e_lesser), [], 0)) 2 rfl trivial ?_
        exact ih _ _ h
theorem em_X5_soonestFirst {X : Nat × (Nat → Int32)} {N : Nat} {e_many : Int32} {e_spring : Int32} {e_leapable : Nat → Int32} {e_found : Int32} {e_whereOf : Nat → Int32} {e_rows : Nat → Int32} {e_from : Nat → Int32} {e_depth : Nat → Int32} {e_order : Nat → Int32} {e_places : Nat → Int32} {e_lesser : Nat → Int32} {p0 : Int32} {Q : Int32 → Prop} (h : wp_X5_soonestFirst N e_found e_rows e_depth Q p0) : EM (ax_GG X) m_X5_soonestFirst [.ref 0, .int p0] (w_e e_many e_spring e_leapable e_found e_whereOf e_rows e_from e_depth e_order e_places e_lesser) (po_X5_soonestFirst e_many e_spring e_leapable e_found e_whereOf e_rows e_from e_depth e_order e_places e_lesser Q) := by
  unfold wp_X5_soonestFirst at h
  show EV _ _ _ (0, [some (.ref 0), some (.int p0), none], [], (w_e e_many e_spring e_leapable e_found e_whereOf e_rows e_from e_depth e_order e_places e_lesser), [], 0)
  refine EV.seg (c' := (2, [some (.ref 0), some (.int p0), some (.int (0 : Int32))], [], (w_e e_many e_spring e_leapable e_found e_whereOf e_rows e_from e_depth e_order e_places e_lesser), [], 0)) 2 rfl trivial ?_
  exact (ok_X5_soonestFirst_2  N) _ _ h
abbrev po_X5_aheadIn (e_many : Int32) (e_spring : Int32) (e_leapable : Nat → Int32) (e_found : Int32) (e_whereOf : Nat → Int32) (e_rows : Nat → Int32) (e_from : Nat → Int32) (e_depth : Nat → Int32) (e_order : Nat → Int32) (e_places : Nat → Int32) (e_lesser : Nat → Int32) (Q : Int32 → Prop) : ax_E → Prop := fun out => ∃ (r : Int32), out = (some (.int r), (w_e e_many e_spring e_leapable e_found e_whereOf e_rows e_from e_depth e_order e_places e_lesser), [], 0) ∧ Q r
def wp_X5_aheadIn_5 (N : Nat) (e_many : Int32)  (Q : Int32 → Prop) : Nat → (Int32) → (Int32) → (Int32) → (Int32) → Prop
  | 0, _, _, _, _ => False
  | n + 1, v1, v2, v3, v4 => ((e_many ≤ v4 → Q v3) ∧ (¬ (e_many ≤ v4) → (∀ x1 : Int32, x1 = (v1 >>> (((3 : Int32) * v4) &&& 31)) &&& (7 : Int32) → ((x1 = v2 → Q v3) ∧ (¬ (x1 = v2) → (∀ x2 : Int32, x2 = v3 ||| ((1 : Int32) <<< (x1 &&& 31)) → (wp_X5_aheadIn_5 N e_many  Q n) v1 v2 x2 (v4 + 1)))))))
def wp_X5_aheadIn (N : Nat) (e_many : Int32) (Q : Int32 → Prop) (p0 : Int32) (p1 : Int32) : Prop := (wp_X5_aheadIn_5 N e_many  Q N) p0 p1 (0 : Int32) (0 : Int32)
theorem ok_X5_aheadIn_5 {X : Nat × (Nat → Int32)} {N : Nat} {e_many : Int32} {e_spring : Int32} {e_leapable : Nat → Int32} {e_found : Int32} {e_whereOf : Nat → Int32} {e_rows : Nat → Int32} {e_from : Nat → Int32} {e_depth : Nat → Int32} {e_order : Nat → Int32} {e_places : Nat → Int32} {e_lesser : Nat → Int32}  {Q : Int32 → Prop}  : ∀ (n : Nat) (v1 : Int32) (v2 : Int32) (v3 : Int32) (v4 : Int32), wp_X5_aheadIn_5 N e_many  Q n v1 v2 v3 v4 → EV (ax_GG X) m_X5_aheadIn (po_X5_aheadIn e_many e_spring e_leapable e_found e_whereOf e_rows e_from e_depth e_order e_places e_lesser Q) (5, [some (.ref 0), some (.int v1), some (.int v2), some (.int v3), some (.int v4), none], [], (w_e e_many e_spring e_leapable e_found e_whereOf e_rows e_from e_depth e_order e_places e_lesser), [], 0) := by
  intro n
  induction n with
  | zero => intro _ _ _ _ h; exact h.elim
  | succ n ih =>
    intro v1 v2 v3 v4 h
    unfold wp_X5_aheadIn_5 at h
    refine EV.seg (c' := (11, [some (.ref 0), some (.int v1), some (.int v2), some (.int v3), some (.int v4), none], [.int e_many, .int v4], (w_e e_many e_spring e_leapable e_found e_whereOf e_rows e_from e_depth e_order e_places e_lesser), [], 0)) 3 rfl trivial ?_
    refine EV.br (c1 := (46, [some (.ref 0), some (.int v1), some (.int v2), some (.int v3), some (.int v4), none], [], (w_e e_many e_spring e_leapable e_found e_whereOf e_rows e_from e_depth e_order e_places e_lesser), [], 0)) (c2 := (14, [some (.ref 0), some (.int v1), some (.int v2), some (.int v3), some (.int v4), none], [], (w_e e_many e_spring e_leapable e_found e_whereOf e_rows e_from e_depth e_order e_places e_lesser), [], 0)) rfl (fun hc => ?_) (fun hc => ?_)
    · have h := h.1 hc
      refine EV.seg (c' := (47, [some (.ref 0), some (.int v1), some (.int v2), some (.int v3), some (.int v4), none], [.int v3], (w_e e_many e_spring e_leapable e_found e_whereOf e_rows e_from e_depth e_order e_places e_lesser), [], 0)) 1 rfl trivial ?_
      exact EV.ret rfl trivial ⟨_, rfl, h⟩
    · have h := h.2 hc
      refine EV.seg (c' := (25, [some (.ref 0), some (.int v1), some (.int v2), some (.int v3), some (.int v4), some (.int ((v1 >>> (((3 : Int32) * v4) &&& 31)) &&& (7 : Int32)))], [], (w_e e_many e_spring e_leapable e_found e_whereOf e_rows e_from e_depth e_order e_places e_lesser), [], 0)) 8 rfl trivial ?_
      obtain ⟨x1, e_x1⟩ : ∃ z : Int32, z = (v1 >>> (((3 : Int32) * v4) &&& 31)) &&& (7 : Int32) := ⟨_, rfl⟩
      have h := h x1 e_x1
      rw [← e_x1]
      refine EV.seg (c' := (28, [some (.ref 0), some (.int v1), some (.int v2), some (.int v3), some (.int v4), some (.int x1)], [.int v2, .int x1], (w_e e_many e_spring e_leapable e_found e_whereOf e_rows e_from e_depth e_order e_places e_lesser), [], 0)) 2 rfl trivial ?_
      refine EV.br (c1 := (31, [some (.ref 0), some (.int v1), some (.int v2), some (.int v3), some (.int v4), some (.int x1)], [], (w_e e_many e_spring e_leapable e_found e_whereOf e_rows e_from e_depth e_order e_places e_lesser), [], 0)) (c2 := (33, [some (.ref 0), some (.int v1), some (.int v2), some (.int v3), some (.int v4), some (.int x1)], [], (w_e e_many e_spring e_leapable e_found e_whereOf e_rows e_from e_depth e_order e_places e_lesser), [], 0)) rfl (fun hc => ?_) (fun hc => ?_)
      · have h := h.1 hc
        refine EV.seg (c' := (32, [some (.ref 0), some (.int v1), some (.int v2), some (.int v3), some (.int v4), some (.int x1)], [.int v3], (w_e e_many e_spring e_leapable e_found e_whereOf e_rows e_from e_depth e_order e_places e_lesser), [], 0)) 1 rfl trivial ?_
        exact EV.ret rfl trivial ⟨_, rfl, h⟩
      · have h := h.2 hc
        refine EV.seg (c' := (40, [some (.ref 0), some (.int v1), some (.int v2), some (.int (v3 ||| ((1 : Int32) <<< (x1 &&& 31)))), some (.int v4), some (.int x1)], [], (w_e e_many e_spring e_leapable e_found e_whereOf e_rows e_from e_depth e_order e_places e_lesser), [], 0)) 6 rfl trivial ?_
        obtain ⟨x2, e_x2⟩ : ∃ z : Int32, z = v3 ||| ((1 : Int32) <<< (x1 &&& 31)) := ⟨_, rfl⟩
        have h := h x2 e_x2
        rw [← e_x2]
        refine EV.seg (c' := (5, [some (.ref 0), some (.int v1), some (.int v2), some (.int x2), some (.int (v4 + 1)), some (.int x1)], [], (w_e e_many e_spring e_leapable e_found e_whereOf e_rows e_from e_depth e_order e_places e_lesser), [], 0)) 2 rfl trivial ?_
        refine EV.mask (ls' := [some (.ref 0), some (.int v1), some (.int v2), some (.int x2), some (.int (v4 + 1)), none]) rfl rfl ?_
        exact ih _ _ _ _ h
theorem em_X5_aheadIn {X : Nat × (Nat → Int32)} {N : Nat} {e_many : Int32} {e_spring : Int32} {e_leapable : Nat → Int32} {e_found : Int32} {e_whereOf : Nat → Int32} {e_rows : Nat → Int32} {e_from : Nat → Int32} {e_depth : Nat → Int32} {e_order : Nat → Int32} {e_places : Nat → Int32} {e_lesser : Nat → Int32} {p0 : Int32} {p1 : Int32} {Q : Int32 → Prop} (h : wp_X5_aheadIn N e_many Q p0 p1) : EM (ax_GG X) m_X5_aheadIn [.ref 0, .int p0, .int p1] (w_e e_many e_spring e_leapable e_found e_whereOf e_rows e_from e_depth e_order e_places e_lesser) (po_X5_aheadIn e_many e_spring e_leapable e_found e_whereOf e_rows e_from e_depth e_order e_places e_lesser Q) := by
  unfold wp_X5_aheadIn at h
  show EV _ _ _ (0, [some (.ref 0), some (.int p0), some (.int p1), none, none, none], [], (w_e e_many e_spring e_leapable e_found e_whereOf e_rows e_from e_depth e_order e_places e_lesser), [], 0)
  refine EV.seg (c' := (5, [some (.ref 0), some (.int p0), some (.int p1), some (.int (0 : Int32)), some (.int (0 : Int32)), none], [], (w_e e_many e_spring e_leapable e_found e_whereOf e_rows e_from e_depth e_order e_places e_lesser), [], 0)) 4 rfl trivial ?_
  exact (ok_X5_aheadIn_5  N) _ _ _ _ h
abbrev po_X5_alwaysAhead (e_many : Int32) (e_spring : Int32) (e_leapable : Nat → Int32) (e_found : Int32) (e_whereOf : Nat → Int32) (e_rows : Nat → Int32) (e_from : Nat → Int32) (e_depth : Nat → Int32) (e_order : Nat → Int32) (e_places : Nat → Int32) (e_lesser : Nat → Int32) (Q : Int32 → Prop) : ax_E → Prop := fun out => ∃ (r : Int32), out = (some (.int r), (w_e e_many e_spring e_leapable e_found e_whereOf e_rows e_from e_depth e_order e_places e_lesser), [], 0) ∧ Q r
def wp_X5_alwaysAhead_11 (N : Nat) (e_many : Int32) (e_found : Int32) (e_rows : Nat → Int32)  (Q : Int32 → Prop) : Nat → (Int32) → (Int32) → (Int32) → Prop
  | 0, _, _, _ => False
  | n + 1, v1, v2, v3 => ((e_found ≤ v3 → Q v2) ∧ (¬ (e_found ≤ v3) → vp_in v3 5040 ∧ wp_X5_aheadIn N e_many (fun r2 => (∀ x3 : Int32, x3 = v2 &&& r2 → (wp_X5_alwaysAhead_11 N e_many e_found e_rows  Q n) v1 x3 (v3 + 1))) (e_rows v3.toNatClampNeg) v1 ))
def wp_X5_alwaysAhead (N : Nat) (e_many : Int32) (e_found : Int32) (e_rows : Nat → Int32) (Q : Int32 → Prop) (p0 : Int32) : Prop := (∀ x1 : Int32, x1 = ((1 : Int32) <<< (e_many &&& 31)) - (1 : Int32) → (wp_X5_alwaysAhead_11 N e_many e_found e_rows  Q N) p0 x1 (0 : Int32))
theorem ok_X5_alwaysAhead_11 {X : Nat × (Nat → Int32)} {N : Nat} {e_many : Int32} {e_spring : Int32} {e_leapable : Nat → Int32} {e_found : Int32} {e_whereOf : Nat → Int32} {e_rows : Nat → Int32} {e_from : Nat → Int32} {e_depth : Nat → Int32} {e_order : Nat → Int32} {e_places : Nat → Int32} {e_lesser : Nat → Int32}  {Q : Int32 → Prop}  : ∀ (n : Nat) (v1 : Int32) (v2 : Int32) (v3 : Int32), wp_X5_alwaysAhead_11 N e_many e_found e_rows  Q n v1 v2 v3 → EV (ax_GG X) m_X5_alwaysAhead (po_X5_alwaysAhead e_many e_spring e_leapable e_found e_whereOf e_rows e_from e_depth e_order e_places e_lesser Q) (11, [some (.ref 0), some (.int v1), some (.int v2), some (.int v3)], [], (w_e e_many e_spring e_leapable e_found e_whereOf e_rows e_from e_depth e_order e_places e_lesser), [], 0) := by
  intro n
  induction n with
  | zero => intro _ _ _ h; exact h.elim
  | succ n ih =>
    intro v1 v2 v3 h
    unfold wp_X5_alwaysAhead_11 at h
    refine EV.seg (c' := (16, [some (.ref 0), some (.int v1), some (.int v2), some (.int v3)], [.int e_found, .int v3], (w_e e_many e_spring e_leapable e_found e_whereOf e_rows e_from e_depth e_order e_places e_lesser), [], 0)) 3 rfl trivial ?_
    refine EV.br (c1 := (39, [some (.ref 0), some (.int v1), some (.int v2), some (.int v3)], [], (w_e e_many e_spring e_leapable e_found e_whereOf e_rows e_from e_depth e_order e_places e_lesser), [], 0)) (c2 := (19, [some (.ref 0), some (.int v1), some (.int v2), some (.int v3)], [], (w_e e_many e_spring e_leapable e_found e_whereOf e_rows e_from e_depth e_order e_places e_lesser), [], 0)) rfl (fun hc => ?_) (fun hc => ?_)
    · have h := h.1 hc
      refine EV.seg (c' := (40, [some (.ref 0), some (.int v1), some (.int v2), some (.int v3)], [.int v2], (w_e e_many e_spring e_leapable e_found e_whereOf e_rows e_from e_depth e_order e_places e_lesser), [], 0)) 1 rfl trivial ?_
      exact EV.ret rfl trivial ⟨_, rfl, h⟩
    · have h := h.2 hc
      obtain ⟨g1, h⟩ := h
      refine EV.seg (c' := (28, [some (.ref 0), some (.int v1), some (.int v2), some (.int v3)], [.int v1, .int (e_rows v3.toNatClampNeg), .ref 0, .int v2], (w_e e_many e_spring e_leapable e_found e_whereOf e_rows e_from e_depth e_order e_places e_lesser), [], 0)) 7 rfl (And.intro g1 trivial) ?_
      refine EV.call (M' := m_X5_aheadIn) rfl rfl (Nat.le_of_ble_eq_true rfl) (em_X5_aheadIn (e_many := e_many) (e_spring := e_spring) (e_leapable := e_leapable) (e_found := e_found) (e_whereOf := e_whereOf) (e_rows := e_rows) (e_from := e_from) (e_depth := e_depth) (e_order := e_order) (e_places := e_places) (e_lesser := e_lesser)  h) (fun out ho => ?_)
      obtain ⟨r2, rfl, h⟩ := ho
      show EV _ _ _ (31, [some (.ref 0), some (.int v1), some (.int v2), some (.int v3)], [.int r2, .int v2], (w_e e_many e_spring e_leapable e_found e_whereOf e_rows e_from e_depth e_order e_places e_lesser), [], 0)
      refine EV.seg (c' := (33, [some (.ref 0), some (.int v1), some (.int (v2 &&& r2)), some (.int v3)], [], (w_e e_many e_spring e_leapable e_found e_whereOf e_rows e_from e_depth e_order e_places e_lesser), [], 0)) 2 rfl trivial ?_
      obtain ⟨x3, e_x3⟩ : ∃ z : Int32, z = v2 &&& r2 := ⟨_, rfl⟩
      have h := h x3 e_x3
      rw [← e_x3]
      refine EV.seg (c' := (11, [some (.ref 0), some (.int v1), some (.int x3), some (.int (v3 + 1))], [], (w_e e_many e_spring e_leapable e_found e_whereOf e_rows e_from e_depth e_order e_places e_lesser), [], 0)) 2 rfl trivial ?_
      exact ih _ _ _ h
theorem em_X5_alwaysAhead {X : Nat × (Nat → Int32)} {N : Nat} {e_many : Int32} {e_spring : Int32} {e_leapable : Nat → Int32} {e_found : Int32} {e_whereOf : Nat → Int32} {e_rows : Nat → Int32} {e_from : Nat → Int32} {e_depth : Nat → Int32} {e_order : Nat → Int32} {e_places : Nat → Int32} {e_lesser : Nat → Int32} {p0 : Int32} {Q : Int32 → Prop} (h : wp_X5_alwaysAhead N e_many e_found e_rows Q p0) : EM (ax_GG X) m_X5_alwaysAhead [.ref 0, .int p0] (w_e e_many e_spring e_leapable e_found e_whereOf e_rows e_from e_depth e_order e_places e_lesser) (po_X5_alwaysAhead e_many e_spring e_leapable e_found e_whereOf e_rows e_from e_depth e_order e_places e_lesser Q) := by
  unfold wp_X5_alwaysAhead at h
  show EV _ _ _ (0, [some (.ref 0), some (.int p0), none, none], [], (w_e e_many e_spring e_leapable e_found e_whereOf e_rows e_from e_depth e_order e_places e_lesser), [], 0)
  refine EV.seg (c' := (9, [some (.ref 0), some (.int p0), some (.int (((1 : Int32) <<< (e_many &&& 31)) - (1 : Int32))), none], [], (w_e e_many e_spring e_leapable e_found e_whereOf e_rows e_from e_depth e_order e_places e_lesser), [], 0)) 7 rfl trivial ?_
  obtain ⟨x1, e_x1⟩ : ∃ z : Int32, z = ((1 : Int32) <<< (e_many &&& 31)) - (1 : Int32) := ⟨_, rfl⟩
  have h := h x1 e_x1
  rw [← e_x1]
  refine EV.seg (c' := (11, [some (.ref 0), some (.int p0), some (.int x1), some (.int (0 : Int32))], [], (w_e e_many e_spring e_leapable e_found e_whereOf e_rows e_from e_depth e_order e_places e_lesser), [], 0)) 2 rfl trivial ?_
  exact (ok_X5_alwaysAhead_11  N) _ _ _ h
abbrev po_X6_valueOf (y0_a : Nat → Int64) (Q : Int64 → Prop) : ax_E → Prop := fun out => ∃ (r : Int64), out = (some (.long r), (w_y110 y0_a), [], 0) ∧ Q r
def wp_X6_valueOf_31 (N : Nat) (y0_a : Nat → Int64)  (Q : Int64 → Prop) (s0 : Int64) : Prop := Q s0
def wp_X6_valueOf_30 (N : Nat) (y0_a : Nat → Int64) (K31 : (Int64) → Prop) (Q : Int64 → Prop)  : Prop := K31 (0 : Int64)
def wp_X6_valueOf (N : Nat) (y0_a : Nat → Int64) (Q : Int64 → Prop) (p0 : Int32) : Prop := (∀ x1 : Int32, x1 = p0 >>> ((5 : Int32) &&& 31) → (((p0 &&& (31 : Int32)) = 0 → Q x1.toInt64) ∧ (¬ ((p0 &&& (31 : Int32)) = 0) → ((x1 < 0 → (wp_X6_valueOf_30 N y0_a (wp_X6_valueOf_31 N y0_a  Q) Q) ) ∧ (¬ (x1 < 0) → (((Int32.ofNat 10) ≤ x1 → (wp_X6_valueOf_30 N y0_a (wp_X6_valueOf_31 N y0_a  Q) Q) ) ∧ (¬ ((Int32.ofNat 10) ≤ x1) → vp_in x1 10 ∧ (wp_X6_valueOf_31 N y0_a  Q) (y0_a x1.toNatClampNeg))))))))
theorem ok_X6_valueOf_31 {X : Nat × (Nat → Int32)} {N : Nat} {y0_a : Nat → Int64}  {Q : Int64 → Prop}  : ∀ (s0 : Int64), wp_X6_valueOf_31 N y0_a  Q  s0 → EV (ax_GG X) m_X6_valueOf (po_X6_valueOf y0_a Q) (31, [none, none, none], [.long s0], (w_y110 y0_a), [], 0) := by
  intro s0 h
  unfold wp_X6_valueOf_31 at h
  exact EV.ret rfl trivial ⟨_, rfl, h⟩
theorem ok_X6_valueOf_30 {X : Nat × (Nat → Int32)} {N : Nat} {y0_a : Nat → Int64} {K31 : (Int64) → Prop} {Q : Int64 → Prop} (hK31 : ∀ (s0 : Int64), K31 s0 → EV (ax_GG X) m_X6_valueOf (po_X6_valueOf y0_a Q) (31, [none, none, none], [.long s0], (w_y110 y0_a), [], 0)) : wp_X6_valueOf_30 N y0_a K31 Q   → EV (ax_GG X) m_X6_valueOf (po_X6_valueOf y0_a Q) (30, [none, none, none], [], (w_y110 y0_a), [], 0) := by
  intro  h
  unfold wp_X6_valueOf_30 at h
  refine EV.seg (c' := (31, [none, none, none], [.long (0 : Int64)], (w_y110 y0_a), [], 0)) 1 rfl trivial ?_
  exact hK31 _ h
theorem em_X6_valueOf {X : Nat × (Nat → Int32)} {N : Nat} {y0_a : Nat → Int64} {p0 : Int32} {Q : Int64 → Prop} (h : wp_X6_valueOf N y0_a Q p0) : EM (ax_GG X) m_X6_valueOf [.int p0, .ref 0] (w_y110 y0_a) (po_X6_valueOf y0_a Q) := by
  unfold wp_X6_valueOf at h
  show EV _ _ _ (0, [some (.int p0), some (.ref 0), none], [], (w_y110 y0_a), [], 0)
  refine EV.seg (c' := (4, [some (.int p0), some (.ref 0), some (.int (p0 >>> ((5 : Int32) &&& 31)))], [], (w_y110 y0_a), [], 0)) 4 rfl trivial ?_
  obtain ⟨x1, e_x1⟩ : ∃ z : Int32, z = p0 >>> ((5 : Int32) &&& 31) := ⟨_, rfl⟩
  have h := h x1 e_x1
  rw [← e_x1]
  refine EV.seg (c' := (8, [some (.int p0), some (.ref 0), some (.int x1)], [.int (p0 &&& (31 : Int32))], (w_y110 y0_a), [], 0)) 3 rfl trivial ?_
  refine EV.br (c1 := (11, [some (.int p0), some (.ref 0), some (.int x1)], [], (w_y110 y0_a), [], 0)) (c2 := (14, [some (.int p0), some (.ref 0), some (.int x1)], [], (w_y110 y0_a), [], 0)) rfl (fun hc => ?_) (fun hc => ?_)
  · have h := h.1 hc
    refine EV.seg (c' := (13, [some (.int p0), some (.ref 0), some (.int x1)], [.long x1.toInt64], (w_y110 y0_a), [], 0)) 2 rfl trivial ?_
    exact EV.ret rfl trivial ⟨_, rfl, h⟩
  · have h := h.2 hc
    refine EV.seg (c' := (15, [some (.int p0), some (.ref 0), some (.int x1)], [.int x1], (w_y110 y0_a), [], 0)) 1 rfl trivial ?_
    refine EV.br (c1 := (30, [some (.int p0), some (.ref 0), some (.int x1)], [], (w_y110 y0_a), [], 0)) (c2 := (18, [some (.int p0), some (.ref 0), some (.int x1)], [], (w_y110 y0_a), [], 0)) rfl (fun hc => ?_) (fun hc => ?_)
    · have h := h.1 hc
      refine EV.mask (ls' := [none, none, none]) rfl rfl ?_
      exact (ok_X6_valueOf_30 (ok_X6_valueOf_31 ))  h
    · have h := h.2 hc
      refine EV.seg (c' := (21, [some (.int p0), some (.ref 0), some (.int x1)], [.int (Int32.ofNat 10), .int x1], (w_y110 y0_a), [], 0)) 3 rfl trivial ?_
      refine EV.br (c1 := (30, [some (.int p0), some (.ref 0), some (.int x1)], [], (w_y110 y0_a), [], 0)) (c2 := (24, [some (.int p0), some (.ref 0), some (.int x1)], [], (w_y110 y0_a), [], 0)) rfl (fun hc => ?_) (fun hc => ?_)
      · have h := h.1 hc
        refine EV.mask (ls' := [none, none, none]) rfl rfl ?_
        exact (ok_X6_valueOf_30 (ok_X6_valueOf_31 ))  h
      · have h := h.2 hc
        obtain ⟨g1, h⟩ := h
        refine EV.seg (c' := (31, [some (.int p0), some (.ref 0), some (.int x1)], [.long (y0_a x1.toNatClampNeg)], (w_y110 y0_a), [], 0)) 4 rfl (And.intro g1 trivial) ?_
        refine EV.mask (ls' := [none, none, none]) rfl rfl ?_
        exact (ok_X6_valueOf_31 ) _ h
abbrev po_X6_worked (w0 : ax_W) (Q : Int64 → Prop) : ax_E → Prop := fun out => ∃ (r : Int64), out = (some (.long r), w0, [], 0) ∧ Q r
def wp_X6_worked_175 (N : Nat)   (Q : Int64 → Prop) (s0 : Int64) : Prop := Q s0
def wp_X6_worked_163 (N : Nat)   (Q : Int64 → Prop) (s0 : Int64) : Prop := Q s0
def wp_X6_worked_151 (N : Nat)   (Q : Int64 → Prop) (s0 : Int64) : Prop := Q s0
def wp_X6_worked_139 (N : Nat)   (Q : Int64 → Prop) (s0 : Int64) : Prop := Q s0
def wp_X6_worked_127 (N : Nat)   (Q : Int64 → Prop) (s0 : Int64) : Prop := Q s0
def wp_X6_worked_99 (N : Nat)   (Q : Int64 → Prop) (s0 : Int64) : Prop := Q s0
def wp_X6_worked_85 (N : Nat)   (Q : Int64 → Prop) (s0 : Int64) : Prop := Q s0
def wp_X6_worked (N : Nat)  (Q : Int64 → Prop) (p0 : Int32) (p1 : Int64) (p2 : Int64) : Prop := ((p0 = 2 → Q (p1 * p2)) ∧ (¬ (p0 = 2) → ((p0 = 3 → (((lg_cmp p2 (0 : Int64)) = 0 → (wp_X6_worked_85 N   Q) (0 : Int64)) ∧ (¬ ((lg_cmp p2 (0 : Int64)) = 0) → ¬ p2 = 0 ∧ (wp_X6_worked_85 N   Q) (p1 / p2)))) ∧ (¬ (p0 = 3) → ((p0 = 4 → (((lg_cmp p2 (0 : Int64)) = 0 → (wp_X6_worked_99 N   Q) (0 : Int64)) ∧ (¬ ((lg_cmp p2 (0 : Int64)) = 0) → ¬ p2 = 0 ∧ (wp_X6_worked_99 N   Q) (p1 - p1 / p2 * p2)))) ∧ (¬ (p0 = 4) → ((p0 = 5 → Q (p1 + p2)) ∧ (¬ (p0 = 5) → ((p0 = 6 → Q (p1 - p2)) ∧ (¬ (p0 = 6) → ((p0 = 7 → ((0 ≤ (lg_cmp p1 p2) → (wp_X6_worked_127 N   Q) (0 : Int64)) ∧ (¬ (0 ≤ (lg_cmp p1 p2)) → (wp_X6_worked_127 N   Q) (1 : Int64)))) ∧ (¬ (p0 = 7) → ((p0 = 8 → ((0 < (lg_cmp p1 p2) → (wp_X6_worked_139 N   Q) (0 : Int64)) ∧ (¬ (0 < (lg_cmp p1 p2)) → (wp_X6_worked_139 N   Q) (1 : Int64)))) ∧ (¬ (p0 = 8) → ((p0 = 9 → (((lg_cmp p1 p2) = 0 → (wp_X6_worked_151 N   Q) (1 : Int64)) ∧ (¬ ((lg_cmp p1 p2) = 0) → (wp_X6_worked_151 N   Q) (0 : Int64)))) ∧ (¬ (p0 = 9) → ((p0 = 10 → (((lg_cmp p1 p2) < 0 → (wp_X6_worked_163 N   Q) (0 : Int64)) ∧ (¬ ((lg_cmp p1 p2) < 0) → (wp_X6_worked_163 N   Q) (1 : Int64)))) ∧ (¬ (p0 = 10) → ((p0 = 11 → (((lg_cmp p1 p2) ≤ 0 → (wp_X6_worked_175 N   Q) (0 : Int64)) ∧ (¬ ((lg_cmp p1 p2) ≤ 0) → (wp_X6_worked_175 N   Q) (1 : Int64)))) ∧ (¬ (p0 = 11) → ((p0 = 12 → (((lg_cmp p1 p2) ≤ 0 → (wp_X6_worked_175 N   Q) (0 : Int64)) ∧ (¬ ((lg_cmp p1 p2) ≤ 0) → (wp_X6_worked_175 N   Q) (1 : Int64)))) ∧ (¬ (p0 = 12) → ((p0 = 13 → Q (p1 &&& p2)) ∧ (¬ (p0 = 13) → ((p0 = 14 → Q (p1 ||| p2)) ∧ (¬ (p0 = 14) → (((lg_cmp p1 p2) ≤ 0 → (wp_X6_worked_175 N   Q) (0 : Int64)) ∧ (¬ ((lg_cmp p1 p2) ≤ 0) → (wp_X6_worked_175 N   Q) (1 : Int64)))))))))))))))))))))))))))))
theorem ok_X6_worked_175 {X : Nat × (Nat → Int32)} {N : Nat} {w0 : ax_W}  {Q : Int64 → Prop}  : ∀ (s0 : Int64), wp_X6_worked_175 N   Q  s0 → EV (ax_GG X) m_X6_worked (po_X6_worked w0 Q) (175, [none, none, none, none, none], [.long s0], w0, [], 0) := by
  intro s0 h
  unfold wp_X6_worked_175 at h
  exact EV.ret rfl trivial ⟨_, rfl, h⟩
theorem ok_X6_worked_163 {X : Nat × (Nat → Int32)} {N : Nat} {w0 : ax_W}  {Q : Int64 → Prop}  : ∀ (s0 : Int64), wp_X6_worked_163 N   Q  s0 → EV (ax_GG X) m_X6_worked (po_X6_worked w0 Q) (163, [none, none, none, none, none], [.long s0], w0, [], 0) := by
  intro s0 h
  unfold wp_X6_worked_163 at h
  exact EV.ret rfl trivial ⟨_, rfl, h⟩
theorem ok_X6_worked_151 {X : Nat × (Nat → Int32)} {N : Nat} {w0 : ax_W}  {Q : Int64 → Prop}  : ∀ (s0 : Int64), wp_X6_worked_151 N   Q  s0 → EV (ax_GG X) m_X6_worked (po_X6_worked w0 Q) (151, [none, none, none, none, none], [.long s0], w0, [], 0) := by
  intro s0 h
  unfold wp_X6_worked_151 at h
  exact EV.ret rfl trivial ⟨_, rfl, h⟩
theorem ok_X6_worked_139 {X : Nat × (Nat → Int32)} {N : Nat} {w0 : ax_W}  {Q : Int64 → Prop}  : ∀ (s0 : Int64), wp_X6_worked_139 N   Q  s0 → EV (ax_GG X) m_X6_worked (po_X6_worked w0 Q) (139, [none, none, none, none, none], [.long s0], w0, [], 0) := by
  intro s0 h
  unfold wp_X6_worked_139 at h
  exact EV.ret rfl trivial ⟨_, rfl, h⟩
theorem ok_X6_worked_127 {X : Nat × (Nat → Int32)} {N : Nat} {w0 : ax_W}  {Q : Int64 → Prop}  : ∀ (s0 : Int64), wp_X6_worked_127 N   Q  s0 → EV (ax_GG X) m_X6_worked (po_X6_worked w0 Q) (127, [none, none, none, none, none], [.long s0], w0, [], 0) := by
  intro s0 h
  unfold wp_X6_worked_127 at h
  exact EV.ret rfl trivial ⟨_, rfl, h⟩
theorem ok_X6_worked_99 {X : Nat × (Nat → Int32)} {N : Nat} {w0 : ax_W}  {Q : Int64 → Prop}  : ∀ (s0 : Int64), wp_X6_worked_99 N   Q  s0 → EV (ax_GG X) m_X6_worked (po_X6_worked w0 Q) (99, [none, none, none, none, none], [.long s0], w0, [], 0) := by
  intro s0 h
  unfold wp_X6_worked_99 at h
  exact EV.ret rfl trivial ⟨_, rfl, h⟩
theorem ok_X6_worked_85 {X : Nat × (Nat → Int32)} {N : Nat} {w0 : ax_W}  {Q : Int64 → Prop}  : ∀ (s0 : Int64), wp_X6_worked_85 N   Q  s0 → EV (ax_GG X) m_X6_worked (po_X6_worked w0 Q) (85, [none, none, none, none, none], [.long s0], w0, [], 0) := by
  intro s0 h
  unfold wp_X6_worked_85 at h
  exact EV.ret rfl trivial ⟨_, rfl, h⟩
theorem em_X6_worked {X : Nat × (Nat → Int32)} {N : Nat} {w0 : ax_W} {p0 : Int32} {p1 : Int64} {p2 : Int64} {Q : Int64 → Prop} (h : wp_X6_worked N  Q p0 p1 p2) : EM (ax_GG X) m_X6_worked [.int p0, .long p1, .long p2] w0 (po_X6_worked w0 Q) := by
  unfold wp_X6_worked at h
  show EV _ _ _ (0, [some (.int p0), some (.long p1), none, some (.long p2), none], [], w0, [], 0)
  refine EV.seg (c' := (1, [some (.int p0), some (.long p1), none, some (.long p2), none], [.int p0], w0, [], 0)) 1 rfl trivial ?_
  refine EV.sw rfl ?_
  show EV _ _ _ (ax_ch [(p0 = 2, (68, [some (.int p0), some (.long p1), none, some (.long p2), none], [], w0, [], 0)), (p0 = 3, (72, [some (.int p0), some (.long p1), none, some (.long p2), none], [], w0, [], 0)), (p0 = 4, (86, [some (.int p0), some (.long p1), none, some (.long p2), none], [], w0, [], 0)), (p0 = 5, (100, [some (.int p0), some (.long p1), none, some (.long p2), none], [], w0, [], 0)), (p0 = 6, (104, [some (.int p0), some (.long p1), none, some (.long p2), none], [], w0, [], 0)), (p0 = 7, (116, [some (.int p0), some (.long p1), none, some (.long p2), none], [], w0, [], 0)), (p0 = 8, (128, [some (.int p0), some (.long p1), none, some (.long p2), none], [], w0, [], 0)), (p0 = 9, (140, [some (.int p0), some (.long p1), none, some (.long p2), none], [], w0, [], 0)), (p0 = 10, (152, [some (.int p0), some (.long p1), none, some (.long p2), none], [], w0, [], 0)), (p0 = 11, (164, [some (.int p0), some (.long p1), none, some (.long p2), none], [], w0, [], 0)), (p0 = 12, (164, [some (.int p0), some (.long p1), none, some (.long p2), none], [], w0, [], 0)), (p0 = 13, (108, [some (.int p0), some (.long p1), none, some (.long p2), none], [], w0, [], 0)), (p0 = 14, (112, [some (.int p0), some (.long p1), none, some (.long p2), none], [], w0, [], 0))] (164, [some (.int p0), some (.long p1), none, some (.long p2), none], [], w0, [], 0))
  refine EV.ch (fun hc => ?_) (fun hc => ?_)
  · have h := h.1 hc
    refine EV.seg (c' := (71, [some (.int p0), some (.long p1), none, some (.long p2), none], [.long (p1 * p2)], w0, [], 0)) 3 rfl trivial ?_
    exact EV.ret rfl trivial ⟨_, rfl, h⟩
  have h := h.2 hc
  refine EV.ch (fun hc => ?_) (fun hc => ?_)
  · have h := h.1 hc
    refine EV.seg (c' := (75, [some (.int p0), some (.long p1), none, some (.long p2), none], [.int (lg_cmp p2 (0 : Int64))], w0, [], 0)) 3 rfl trivial ?_
    refine EV.br (c1 := (78, [some (.int p0), some (.long p1), none, some (.long p2), none], [], w0, [], 0)) (c2 := (82, [some (.int p0), some (.long p1), none, some (.long p2), none], [], w0, [], 0)) rfl (fun hc => ?_) (fun hc => ?_)
    · have h := h.1 hc
      refine EV.seg (c' := (85, [some (.int p0), some (.long p1), none, some (.long p2), none], [.long (0 : Int64)], w0, [], 0)) 2 rfl trivial ?_
      refine EV.mask (ls' := [none, none, none, none, none]) rfl rfl ?_
      exact (ok_X6_worked_85 ) _ h
    · have h := h.2 hc
      obtain ⟨g1, h⟩ := h
      refine EV.seg (c' := (85, [some (.int p0), some (.long p1), none, some (.long p2), none], [.long (p1 / p2)], w0, [], 0)) 3 rfl (And.intro g1 trivial) ?_
      refine EV.mask (ls' := [none, none, none, none, none]) rfl rfl ?_
      exact (ok_X6_worked_85 ) _ h
  have h := h.2 hc
  refine EV.ch (fun hc => ?_) (fun hc => ?_)
  · have h := h.1 hc
    refine EV.seg (c' := (89, [some (.int p0), some (.long p1), none, some (.long p2), none], [.int (lg_cmp p2 (0 : Int64))], w0, [], 0)) 3 rfl trivial ?_
    refine EV.br (c1 := (92, [some (.int p0), some (.long p1), none, some (.long p2), none], [], w0, [], 0)) (c2 := (96, [some (.int p0), some (.long p1), none, some (.long p2), none], [], w0, [], 0)) rfl (fun hc => ?_) (fun hc => ?_)
    · have h := h.1 hc
      refine EV.seg (c' := (99, [some (.int p0), some (.long p1), none, some (.long p2), none], [.long (0 : Int64)], w0, [], 0)) 2 rfl trivial ?_
      refine EV.mask (ls' := [none, none, none, none, none]) rfl rfl ?_
      exact (ok_X6_worked_99 ) _ h
    · have h := h.2 hc
      obtain ⟨g1, h⟩ := h
      refine EV.seg (c' := (99, [some (.int p0), some (.long p1), none, some (.long p2), none], [.long (p1 - p1 / p2 * p2)], w0, [], 0)) 3 rfl (And.intro g1 trivial) ?_
      refine EV.mask (ls' := [none, none, none, none, none]) rfl rfl ?_
      exact (ok_X6_worked_99 ) _ h
  have h := h.2 hc
  refine EV.ch (fun hc => ?_) (fun hc => ?_)
  · have h := h.1 hc
    refine EV.seg (c' := (103, [some (.int p0), some (.long p1), none, some (.long p2), none], [.long (p1 + p2)], w0, [], 0)) 3 rfl trivial ?_
    exact EV.ret rfl trivial ⟨_, rfl, h⟩
  have h := h.2 hc
  refine EV.ch (fun hc => ?_) (fun hc => ?_)
  · have h := h.1 hc
    refine EV.seg (c' := (107, [some (.int p0), some (.long p1), none, some (.long p2), none], [.long (p1 - p2)], w0, [], 0)) 3 rfl trivial ?_
    exact EV.ret rfl trivial ⟨_, rfl, h⟩
  have h := h.2 hc
  refine EV.ch (fun hc => ?_) (fun hc => ?_)
  · have h := h.1 hc
    refine EV.seg (c' := (119, [some (.int p0), some (.long p1), none, some (.long p2), none], [.int (lg_cmp p1 p2)], w0, [], 0)) 3 rfl trivial ?_
    refine EV.br (c1 := (126, [some (.int p0), some (.long p1), none, some (.long p2), none], [], w0, [], 0)) (c2 := (122, [some (.int p0), some (.long p1), none, some (.long p2), none], [], w0, [], 0)) rfl (fun hc => ?_) (fun hc => ?_)
    · have h := h.1 hc
      refine EV.seg (c' := (127, [some (.int p0), some (.long p1), none, some (.long p2), none], [.long (0 : Int64)], w0, [], 0)) 1 rfl trivial ?_
      refine EV.mask (ls' := [none, none, none, none, none]) rfl rfl ?_
      exact (ok_X6_worked_127 ) _ h
    · have h := h.2 hc
      refine EV.seg (c' := (127, [some (.int p0), some (.long p1), none, some (.long p2), none], [.long (1 : Int64)], w0, [], 0)) 2 rfl trivial ?_
      refine EV.mask (ls' := [none, none, none, none, none]) rfl rfl ?_
      exact (ok_X6_worked_127 ) _ h
  have h := h.2 hc
  refine EV.ch (fun hc => ?_) (fun hc => ?_)
  · have h := h.1 hc
    refine EV.seg (c' := (131, [some (.int p0), some (.long p1), none, some (.long p2), none], [.int (lg_cmp p1 p2)], w0, [], 0)) 3 rfl trivial ?_
    refine EV.br (c1 := (138, [some (.int p0), some (.long p1), none, some (.long p2), none], [], w0, [], 0)) (c2 := (134, [some (.int p0), some (.long p1), none, some (.long p2), none], [], w0, [], 0)) rfl (fun hc => ?_) (fun hc => ?_)
    · have h := h.1 hc
      refine EV.seg (c' := (139, [some (.int p0), some (.long p1), none, some (.long p2), none], [.long (0 : Int64)], w0, [], 0)) 1 rfl trivial ?_
      refine EV.mask (ls' := [none, none, none, none, none]) rfl rfl ?_
      exact (ok_X6_worked_139 ) _ h
    · have h := h.2 hc
      refine EV.seg (c' := (139, [some (.int p0), some (.long p1), none, some (.long p2), none], [.long (1 : Int64)], w0, [], 0)) 2 rfl trivial ?_
      refine EV.mask (ls' := [none, none, none, none, none]) rfl rfl ?_
      exact (ok_X6_worked_139 ) _ h
  have h := h.2 hc
  refine EV.ch (fun hc => ?_) (fun hc => ?_)
  · have h := h.1 hc
    refine EV.seg (c' := (143, [some (.int p0), some (.long p1), none, some (.long p2), none], [.int (lg_cmp p1 p2)], w0, [], 0)) 3 rfl trivial ?_
    refine EV.br (c1 := (146, [some (.int p0), some (.long p1), none, some (.long p2), none], [], w0, [], 0)) (c2 := (150, [some (.int p0), some (.long p1), none, some (.long p2), none], [], w0, [], 0)) rfl (fun hc => ?_) (fun hc => ?_)
    · have h := h.1 hc
      refine EV.seg (c' := (151, [some (.int p0), some (.long p1), none, some (.long p2), none], [.long (1 : Int64)], w0, [], 0)) 2 rfl trivial ?_
      refine EV.mask (ls' := [none, none, none, none, none]) rfl rfl ?_
      exact (ok_X6_worked_151 ) _ h
    · have h := h.2 hc
      refine EV.seg (c' := (151, [some (.int p0), some (.long p1), none, some (.long p2), none], [.long (0 : Int64)], w0, [], 0)) 1 rfl trivial ?_
      refine EV.mask (ls' := [none, none, none, none, none]) rfl rfl ?_
      exact (ok_X6_worked_151 ) _ h
  have h := h.2 hc
  refine EV.ch (fun hc => ?_) (fun hc => ?_)
  · have h := h.1 hc
    refine EV.seg (c' := (155, [some (.int p0), some (.long p1), none, some (.long p2), none], [.int (lg_cmp p1 p2)], w0, [], 0)) 3 rfl trivial ?_
    refine EV.br (c1 := (162, [some (.int p0), some (.long p1), none, some (.long p2), none], [], w0, [], 0)) (c2 := (158, [some (.int p0), some (.long p1), none, some (.long p2), none], [], w0, [], 0)) rfl (fun hc => ?_) (fun hc => ?_)
    · have h := h.1 hc
      refine EV.seg (c' := (163, [some (.int p0), some (.long p1), none, some (.long p2), none], [.long (0 : Int64)], w0, [], 0)) 1 rfl trivial ?_
      refine EV.mask (ls' := [none, none, none, none, none]) rfl rfl ?_
      exact (ok_X6_worked_163 ) _ h
    · have h := h.2 hc
      refine EV.seg (c' := (163, [some (.int p0), some (.long p1), none, some (.long p2), none], [.long (1 : Int64)], w0, [], 0)) 2 rfl trivial ?_
      refine EV.mask (ls' := [none, none, none, none, none]) rfl rfl ?_
      exact (ok_X6_worked_163 ) _ h
  have h := h.2 hc
  refine EV.ch (fun hc => ?_) (fun hc => ?_)
  · have h := h.1 hc
    refine EV.seg (c' := (167, [some (.int p0), some (.long p1), none, some (.long p2), none], [.int (lg_cmp p1 p2)], w0, [], 0)) 3 rfl trivial ?_
    refine EV.br (c1 := (174, [some (.int p0), some (.long p1), none, some (.long p2), none], [], w0, [], 0)) (c2 := (170, [some (.int p0), some (.long p1), none, some (.long p2), none], [], w0, [], 0)) rfl (fun hc => ?_) (fun hc => ?_)
    · have h := h.1 hc
      refine EV.seg (c' := (175, [some (.int p0), some (.long p1), none, some (.long p2), none], [.long (0 : Int64)], w0, [], 0)) 1 rfl trivial ?_
      refine EV.mask (ls' := [none, none, none, none, none]) rfl rfl ?_
      exact (ok_X6_worked_175 ) _ h
    · have h := h.2 hc
      refine EV.seg (c' := (175, [some (.int p0), some (.long p1), none, some (.long p2), none], [.long (1 : Int64)], w0, [], 0)) 2 rfl trivial ?_
      refine EV.mask (ls' := [none, none, none, none, none]) rfl rfl ?_
      exact (ok_X6_worked_175 ) _ h
  have h := h.2 hc
  refine EV.ch (fun hc => ?_) (fun hc => ?_)
  · have h := h.1 hc
    refine EV.seg (c' := (167, [some (.int p0), some (.long p1), none, some (.long p2), none], [.int (lg_cmp p1 p2)], w0, [], 0)) 3 rfl trivial ?_
    refine EV.br (c1 := (174, [some (.int p0), some (.long p1), none, some (.long p2), none], [], w0, [], 0)) (c2 := (170, [some (.int p0), some (.long p1), none, some (.long p2), none], [], w0, [], 0)) rfl (fun hc => ?_) (fun hc => ?_)
    · have h := h.1 hc
      refine EV.seg (c' := (175, [some (.int p0), some (.long p1), none, some (.long p2), none], [.long (0 : Int64)], w0, [], 0)) 1 rfl trivial ?_
      refine EV.mask (ls' := [none, none, none, none, none]) rfl rfl ?_
      exact (ok_X6_worked_175 ) _ h
    · have h := h.2 hc
      refine EV.seg (c' := (175, [some (.int p0), some (.long p1), none, some (.long p2), none], [.long (1 : Int64)], w0, [], 0)) 2 rfl trivial ?_
      refine EV.mask (ls' := [none, none, none, none, none]) rfl rfl ?_
      exact (ok_X6_worked_175 ) _ h
  have h := h.2 hc
  refine EV.ch (fun hc => ?_) (fun hc => ?_)
  · have h := h.1 hc
    refine EV.seg (c' := (111, [some (.int p0), some (.long p1), none, some (.long p2), none], [.long (p1 &&& p2)], w0, [], 0)) 3 rfl trivial ?_
    exact EV.ret rfl trivial ⟨_, rfl, h⟩
  have h := h.2 hc
  refine EV.ch (fun hc => ?_) (fun hc => ?_)
  · have h := h.1 hc
    refine EV.seg (c' := (115, [some (.int p0), some (.long p1), none, some (.long p2), none], [.long (p1 ||| p2)], w0, [], 0)) 3 rfl trivial ?_
    exact EV.ret rfl trivial ⟨_, rfl, h⟩
  have h := h.2 hc
  refine EV.seg (c' := (167, [some (.int p0), some (.long p1), none, some (.long p2), none], [.int (lg_cmp p1 p2)], w0, [], 0)) 3 rfl trivial ?_
  refine EV.br (c1 := (174, [some (.int p0), some (.long p1), none, some (.long p2), none], [], w0, [], 0)) (c2 := (170, [some (.int p0), some (.long p1), none, some (.long p2), none], [], w0, [], 0)) rfl (fun hc => ?_) (fun hc => ?_)
  · have h := h.1 hc
    refine EV.seg (c' := (175, [some (.int p0), some (.long p1), none, some (.long p2), none], [.long (0 : Int64)], w0, [], 0)) 1 rfl trivial ?_
    refine EV.mask (ls' := [none, none, none, none, none]) rfl rfl ?_
    exact (ok_X6_worked_175 ) _ h
  · have h := h.2 hc
    refine EV.seg (c' := (175, [some (.int p0), some (.long p1), none, some (.long p2), none], [.long (1 : Int64)], w0, [], 0)) 2 rfl trivial ?_
    refine EV.mask (ls' := [none, none, none, none, none]) rfl rfl ?_
    exact (ok_X6_worked_175 ) _ h
abbrev po_X6_worth (r_len : Nat) (r_code : Nat → Int32) (y0_a : Nat → Int64) (Q : Int64 → (Nat → Int64) → Prop) : ax_E → Prop := fun out => ∃ (r : Int64) (y1_a' : Nat → Int64), out = (some (.long r), (w_ry110y140 r_len r_code y0_a y1_a'), [], 0) ∧ Q r y1_a'
def wp_X6_worth_151 (N : Nat) (r_code : Nat → Int32) (y0_a : Nat → Int64) (r_len : Nat) (K5 : (Int32) → (Int32) → (Nat → Int64) → Prop) (Q : Int64 → (Nat → Int64) → Prop) (v3 : Int32) (v4 : Int32) (y1_a : Nat → Int64) : Prop := K5 v3 (v4 + 1) y1_a
def wp_X6_worth_125 (N : Nat) (r_code : Nat → Int32) (y0_a : Nat → Int64) (r_len : Nat) (K151 : (Int32) → (Int32) → (Nat → Int64) → Prop) (Q : Int64 → (Nat → Int64) → Prop) (v3 : Int32) (v4 : Int32) (v5 : Int32) (y1_a : Nat → Int64) : Prop := ((v3 ≤ (1 : Int32) → K151 v3 v4 y1_a) ∧ (¬ (v3 ≤ (1 : Int32)) → vp_in ((v3 + (-1)) - (1 : Int32)) 40 ∧ vp_in (v3 + (-1)) 40 ∧ wp_X6_worked N  (fun r5 => vp_in ((v3 + (-1)) - (1 : Int32)) 40 ∧ (∀ a6 : Nat → Int64, a6 = vp_updL y1_a ((v3 + (-1)) - (1 : Int32)).toNatClampNeg r5 → K151 (v3 + (-1)) v4 a6)) v5 (y1_a ((v3 + (-1)) - (1 : Int32)).toNatClampNeg) (y1_a (v3 + (-1)).toNatClampNeg) ))
def wp_X6_worth_90 (N : Nat) (r_code : Nat → Int32) (y0_a : Nat → Int64) (r_len : Nat) (K151 : (Int32) → (Int32) → (Nat → Int64) → Prop) (Q : Int64 → (Nat → Int64) → Prop) (v3 : Int32) (v4 : Int32) (v5 : Int32) (y1_a : Nat → Int64) : Prop := ((v5 = (17 : Int32) → K151 (0 : Int32) v4 y1_a) ∧ (¬ (v5 = (17 : Int32)) → ((v5 = (12 : Int32) → ((v3 ≤ 0 → (wp_X6_worth_125 N r_code y0_a r_len K151 Q) v3 v4 v5 y1_a) ∧ (¬ (v3 ≤ 0) → vp_in (v3 - (1 : Int32)) 40 ∧ vp_in (v3 - (1 : Int32)) 40 ∧ (∀ a4 : Nat → Int64, a4 = vp_updL y1_a (v3 - (1 : Int32)).toNatClampNeg ((y1_a (v3 - (1 : Int32)).toNatClampNeg) ^^^ (1 : Int64)) → K151 v3 v4 a4)))) ∧ (¬ (v5 = (12 : Int32)) → (wp_X6_worth_125 N r_code y0_a r_len K151 Q) v3 v4 v5 y1_a))))
def wp_X6_worth_86 (N : Nat) (r_code : Nat → Int32) (y0_a : Nat → Int64) (r_len : Nat)  (Q : Int64 → (Nat → Int64) → Prop) (y1_a : Nat → Int64) : Prop := vp_in (0 : Int32) 40 ∧ Q (y1_a (0 : Int32).toNatClampNeg) y1_a
def wp_X6_worth_38 (N : Nat) (r_code : Nat → Int32) (y0_a : Nat → Int64) (r_len : Nat) (K151 : (Int32) → (Int32) → (Nat → Int64) → Prop) (Q : Int64 → (Nat → Int64) → Prop) (v3 : Int32) (v4 : Int32) (y1_a : Nat → Int64) : Prop := (((Int32.ofNat 40) ≤ v3 → K151 v3 v4 y1_a) ∧ (¬ ((Int32.ofNat 40) ≤ v3) → vp_in v4 r_len ∧ wp_X6_valueOf N y0_a (fun r2 => vp_in v3 40 ∧ (∀ a3 : Nat → Int64, a3 = vp_updL y1_a v3.toNatClampNeg r2 → K151 (v3 + 1) v4 a3)) (r_code v4.toNatClampNeg) ))
def wp_X6_worth_5 (N : Nat) (r_code : Nat → Int32) (y0_a : Nat → Int64) (r_len : Nat)  (Q : Int64 → (Nat → Int64) → Prop) : Nat → (Int32) → (Int32) → (Nat → Int64) → Prop
  | 0, _, _, _ => False
  | n + 1, v3, v4, y1_a => (((Int32.ofNat r_len) ≤ v4 → Q (0 : Int64) y1_a) ∧ (¬ ((Int32.ofNat r_len) ≤ v4) → vp_in v4 r_len ∧ (∀ x1 : Int32, x1 = (r_code v4.toNatClampNeg) &&& (31 : Int32) → ((x1 = 0 → (wp_X6_worth_38 N r_code y0_a r_len (wp_X6_worth_151 N r_code y0_a r_len (wp_X6_worth_5 N r_code y0_a r_len  Q n) Q) Q) v3 v4 y1_a) ∧ (¬ (x1 = 0) → ((x1 = (1 : Int32) → (wp_X6_worth_38 N r_code y0_a r_len (wp_X6_worth_151 N r_code y0_a r_len (wp_X6_worth_5 N r_code y0_a r_len  Q n) Q) Q) v3 v4 y1_a) ∧ (¬ (x1 = (1 : Int32)) → ((x1 = (16 : Int32) → (wp_X6_worth_86 N r_code y0_a r_len  Q) y1_a) ∧ (¬ (x1 = (16 : Int32)) → ((x1 = (17 : Int32) → vp_in (1 : Int32) 40 ∧ (((lg_cmp (y1_a (1 : Int32).toNatClampNeg) (0 : Int64)) = 0 → (wp_X6_worth_90 N r_code y0_a r_len (wp_X6_worth_151 N r_code y0_a r_len (wp_X6_worth_5 N r_code y0_a r_len  Q n) Q) Q) v3 v4 x1 y1_a) ∧ (¬ ((lg_cmp (y1_a (1 : Int32).toNatClampNeg) (0 : Int64)) = 0) → (wp_X6_worth_86 N r_code y0_a r_len  Q) y1_a))) ∧ (¬ (x1 = (17 : Int32)) → (wp_X6_worth_90 N r_code y0_a r_len (wp_X6_worth_151 N r_code y0_a r_len (wp_X6_worth_5 N r_code y0_a r_len  Q n) Q) Q) v3 v4 x1 y1_a)))))))))))
def wp_X6_worth (N : Nat) (r_code : Nat → Int32) (y0_a : Nat → Int64) (r_len : Nat) (Q : Int64 → (Nat → Int64) → Prop) (y1_a : Nat → Int64) : Prop := (wp_X6_worth_5 N r_code y0_a r_len  Q N) (0 : Int32) (0 : Int32) y1_a
theorem ok_X6_worth_151 {X : Nat × (Nat → Int32)} {N : Nat} {r_len : Nat} {r_code : Nat → Int32} {y0_a : Nat → Int64} {K5 : (Int32) → (Int32) → (Nat → Int64) → Prop} {Q : Int64 → (Nat → Int64) → Prop} (hK5 : ∀ (v3 : Int32) (v4 : Int32) (y1_a : Nat → Int64), K5 v3 v4 y1_a → EV (ax_GG X) m_X6_worth (po_X6_worth r_len r_code y0_a Q) (5, [some (.ref 0), some (.ref 2), some (.ref 3), some (.int v3), some (.int v4), none], [], (w_ry110y140 r_len r_code y0_a y1_a), [], 0)) : ∀ (v3 : Int32) (v4 : Int32) (y1_a : Nat → Int64), wp_X6_worth_151 N r_code y0_a r_len K5 Q  v3 v4 y1_a → EV (ax_GG X) m_X6_worth (po_X6_worth r_len r_code y0_a Q) (151, [some (.ref 0), some (.ref 2), some (.ref 3), some (.int v3), some (.int v4), none], [], (w_ry110y140 r_len r_code y0_a y1_a), [], 0) := by
  intro v3 v4 y1_a h
  unfold wp_X6_worth_151 at h
  refine EV.seg (c' := (5, [some (.ref 0), some (.ref 2), some (.ref 3), some (.int v3), some (.int (v4 + 1)), none], [], (w_ry110y140 r_len r_code y0_a y1_a), [], 0)) 2 rfl trivial ?_
  exact hK5 _ _ _ h
theorem ok_X6_worth_125 {X : Nat × (Nat → Int32)} {N : Nat} {r_len : Nat} {r_code : Nat → Int32} {y0_a : Nat → Int64} {K151 : (Int32) → (Int32) → (Nat → Int64) → Prop} {Q : Int64 → (Nat → Int64) → Prop} (hK151 : ∀ (v3 : Int32) (v4 : Int32) (y1_a : Nat → Int64), K151 v3 v4 y1_a → EV (ax_GG X) m_X6_worth (po_X6_worth r_len r_code y0_a Q) (151, [some (.ref 0), some (.ref 2), some (.ref 3), some (.int v3), some (.int v4), none], [], (w_ry110y140 r_len r_code y0_a y1_a), [], 0)) : ∀ (v3 : Int32) (v4 : Int32) (v5 : Int32) (y1_a : Nat → Int64), wp_X6_worth_125 N r_code y0_a r_len K151 Q  v3 v4 v5 y1_a → EV (ax_GG X) m_X6_worth (po_X6_worth r_len r_code y0_a Q) (125, [some (.ref 0), some (.ref 2), some (.ref 3), some (.int v3), some (.int v4), some (.int v5)], [], (w_ry110y140 r_len r_code y0_a y1_a), [], 0) := by
  intro v3 v4 v5 y1_a h
  unfold wp_X6_worth_125 at h
  refine EV.seg (c' := (127, [some (.ref 0), some (.ref 2), some (.ref 3), some (.int v3), some (.int v4), some (.int v5)], [.int (1 : Int32), .int v3], (w_ry110y140 r_len r_code y0_a y1_a), [], 0)) 2 rfl trivial ?_
  refine EV.br (c1 := (151, [some (.ref 0), some (.ref 2), some (.ref 3), some (.int v3), some (.int v4), some (.int v5)], [], (w_ry110y140 r_len r_code y0_a y1_a), [], 0)) (c2 := (130, [some (.ref 0), some (.ref 2), some (.ref 3), some (.int v3), some (.int v4), some (.int v5)], [], (w_ry110y140 r_len r_code y0_a y1_a), [], 0)) rfl (fun hc => ?_) (fun hc => ?_)
  · have h := h.1 hc
    refine EV.mask (ls' := [some (.ref 0), some (.ref 2), some (.ref 3), some (.int v3), some (.int v4), none]) rfl rfl ?_
    exact hK151 _ _ _ h
  · have h := h.2 hc
    obtain ⟨g1, g2, h⟩ := h
    refine EV.seg (c' := (147, [some (.ref 0), some (.ref 2), some (.ref 3), some (.int (v3 + (-1))), some (.int v4), some (.int v5)], [.long (y1_a (v3 + (-1)).toNatClampNeg), .long (y1_a ((v3 + (-1)) - (1 : Int32)).toNatClampNeg), .int v5, .int ((v3 + (-1)) - (1 : Int32)), .ref 3], (w_ry110y140 r_len r_code y0_a y1_a), [], 0)) 14 rfl (And.intro g1 (And.intro g2 trivial)) ?_
    refine EV.call (M' := m_X6_worked) rfl rfl (Nat.le_of_ble_eq_true rfl) (em_X6_worked  h) (fun out ho => ?_)
    obtain ⟨r5, rfl, h⟩ := ho
    show EV _ _ _ (150, [some (.ref 0), some (.ref 2), some (.ref 3), some (.int (v3 + (-1))), some (.int v4), some (.int v5)], [.long r5, .int ((v3 + (-1)) - (1 : Int32)), .ref 3], (w_ry110y140 r_len r_code y0_a y1_a), [], 0)
    obtain ⟨g1, h⟩ := h
    refine EV.seg (c' := (151, [some (.ref 0), some (.ref 2), some (.ref 3), some (.int (v3 + (-1))), some (.int v4), some (.int v5)], [], (w_ry110y140 r_len r_code y0_a (vp_updL y1_a ((v3 + (-1)) - (1 : Int32)).toNatClampNeg r5)), [], 0)) 1 rfl (And.intro g1 trivial) ?_
    obtain ⟨a6, e_a6⟩ : ∃ z : Nat → Int64, z = vp_updL y1_a ((v3 + (-1)) - (1 : Int32)).toNatClampNeg r5 := ⟨_, rfl⟩
    have h := h a6 e_a6
    rw [← e_a6]
    refine EV.mask (ls' := [some (.ref 0), some (.ref 2), some (.ref 3), some (.int (v3 + (-1))), some (.int v4), none]) rfl rfl ?_
    exact hK151 _ _ _ h
theorem ok_X6_worth_90 {X : Nat × (Nat → Int32)} {N : Nat} {r_len : Nat} {r_code : Nat → Int32} {y0_a : Nat → Int64} {K151 : (Int32) → (Int32) → (Nat → Int64) → Prop} {Q : Int64 → (Nat → Int64) → Prop} (hK151 : ∀ (v3 : Int32) (v4 : Int32) (y1_a : Nat → Int64), K151 v3 v4 y1_a → EV (ax_GG X) m_X6_worth (po_X6_worth r_len r_code y0_a Q) (151, [some (.ref 0), some (.ref 2), some (.ref 3), some (.int v3), some (.int v4), none], [], (w_ry110y140 r_len r_code y0_a y1_a), [], 0)) : ∀ (v3 : Int32) (v4 : Int32) (v5 : Int32) (y1_a : Nat → Int64), wp_X6_worth_90 N r_code y0_a r_len K151 Q  v3 v4 v5 y1_a → EV (ax_GG X) m_X6_worth (po_X6_worth r_len r_code y0_a Q) (90, [some (.ref 0), some (.ref 2), some (.ref 3), some (.int v3), some (.int v4), some (.int v5)], [], (w_ry110y140 r_len r_code y0_a y1_a), [], 0) := by
  intro v3 v4 v5 y1_a h
  unfold wp_X6_worth_90 at h
  refine EV.seg (c' := (94, [some (.ref 0), some (.ref 2), some (.ref 3), some (.int v3), some (.int v4), some (.int v5)], [.int (17 : Int32), .int v5], (w_ry110y140 r_len r_code y0_a y1_a), [], 0)) 2 rfl trivial ?_
  refine EV.br (c1 := (97, [some (.ref 0), some (.ref 2), some (.ref 3), some (.int v3), some (.int v4), some (.int v5)], [], (w_ry110y140 r_len r_code y0_a y1_a), [], 0)) (c2 := (102, [some (.ref 0), some (.ref 2), some (.ref 3), some (.int v3), some (.int v4), some (.int v5)], [], (w_ry110y140 r_len r_code y0_a y1_a), [], 0)) rfl (fun hc => ?_) (fun hc => ?_)
  · have h := h.1 hc
    refine EV.seg (c' := (151, [some (.ref 0), some (.ref 2), some (.ref 3), some (.int (0 : Int32)), some (.int v4), some (.int v5)], [], (w_ry110y140 r_len r_code y0_a y1_a), [], 0)) 3 rfl trivial ?_
    refine EV.mask (ls' := [some (.ref 0), some (.ref 2), some (.ref 3), some (.int (0 : Int32)), some (.int v4), none]) rfl rfl ?_
    exact hK151 _ _ _ h
  · have h := h.2 hc
    refine EV.seg (c' := (106, [some (.ref 0), some (.ref 2), some (.ref 3), some (.int v3), some (.int v4), some (.int v5)], [.int (12 : Int32), .int v5], (w_ry110y140 r_len r_code y0_a y1_a), [], 0)) 2 rfl trivial ?_
    refine EV.br (c1 := (109, [some (.ref 0), some (.ref 2), some (.ref 3), some (.int v3), some (.int v4), some (.int v5)], [], (w_ry110y140 r_len r_code y0_a y1_a), [], 0)) (c2 := (125, [some (.ref 0), some (.ref 2), some (.ref 3), some (.int v3), some (.int v4), some (.int v5)], [], (w_ry110y140 r_len r_code y0_a y1_a), [], 0)) rfl (fun hc => ?_) (fun hc => ?_)
    · have h := h.1 hc
      refine EV.seg (c' := (110, [some (.ref 0), some (.ref 2), some (.ref 3), some (.int v3), some (.int v4), some (.int v5)], [.int v3], (w_ry110y140 r_len r_code y0_a y1_a), [], 0)) 1 rfl trivial ?_
      refine EV.br (c1 := (125, [some (.ref 0), some (.ref 2), some (.ref 3), some (.int v3), some (.int v4), some (.int v5)], [], (w_ry110y140 r_len r_code y0_a y1_a), [], 0)) (c2 := (113, [some (.ref 0), some (.ref 2), some (.ref 3), some (.int v3), some (.int v4), some (.int v5)], [], (w_ry110y140 r_len r_code y0_a y1_a), [], 0)) rfl (fun hc => ?_) (fun hc => ?_)
      · have h := h.1 hc
        exact (ok_X6_worth_125 hK151) _ _ _ _ h
      · have h := h.2 hc
        obtain ⟨g1, g2, h⟩ := h
        refine EV.seg (c' := (122, [some (.ref 0), some (.ref 2), some (.ref 3), some (.int v3), some (.int v4), some (.int v5)], [], (w_ry110y140 r_len r_code y0_a (vp_updL y1_a (v3 - (1 : Int32)).toNatClampNeg ((y1_a (v3 - (1 : Int32)).toNatClampNeg) ^^^ (1 : Int64)))), [], 0)) 9 rfl (And.intro g1 (And.intro g2 trivial)) ?_
        obtain ⟨a4, e_a4⟩ : ∃ z : Nat → Int64, z = vp_updL y1_a (v3 - (1 : Int32)).toNatClampNeg ((y1_a (v3 - (1 : Int32)).toNatClampNeg) ^^^ (1 : Int64)) := ⟨_, rfl⟩
        have h := h a4 e_a4
        rw [← e_a4]
        refine EV.seg (c' := (151, [some (.ref 0), some (.ref 2), some (.ref 3), some (.int v3), some (.int v4), some (.int v5)], [], (w_ry110y140 r_len r_code y0_a a4), [], 0)) 1 rfl trivial ?_
        refine EV.mask (ls' := [some (.ref 0), some (.ref 2), some (.ref 3), some (.int v3), some (.int v4), none]) rfl rfl ?_
        exact hK151 _ _ _ h
    · have h := h.2 hc
      exact (ok_X6_worth_125 hK151) _ _ _ _ h
theorem ok_X6_worth_86 {X : Nat × (Nat → Int32)} {N : Nat} {r_len : Nat} {r_code : Nat → Int32} {y0_a : Nat → Int64}  {Q : Int64 → (Nat → Int64) → Prop}  : ∀ (y1_a : Nat → Int64), wp_X6_worth_86 N r_code y0_a r_len  Q  y1_a → EV (ax_GG X) m_X6_worth (po_X6_worth r_len r_code y0_a Q) (86, [none, none, some (.ref 3), none, none, none], [], (w_ry110y140 r_len r_code y0_a y1_a), [], 0) := by
  intro y1_a h
  unfold wp_X6_worth_86 at h
  obtain ⟨g1, h⟩ := h
  refine EV.seg (c' := (89, [none, none, some (.ref 3), none, none, none], [.long (y1_a (0 : Int32).toNatClampNeg)], (w_ry110y140 r_len r_code y0_a y1_a), [], 0)) 3 rfl (And.intro g1 trivial) ?_
  exact EV.ret rfl trivial ⟨_, _, rfl, h⟩
theorem ok_X6_worth_38 {X : Nat × (Nat → Int32)} {N : Nat} {r_len : Nat} {r_code : Nat → Int32} {y0_a : Nat → Int64} {K151 : (Int32) → (Int32) → (Nat → Int64) → Prop} {Q : Int64 → (Nat → Int64) → Prop} (hK151 : ∀ (v3 : Int32) (v4 : Int32) (y1_a : Nat → Int64), K151 v3 v4 y1_a → EV (ax_GG X) m_X6_worth (po_X6_worth r_len r_code y0_a Q) (151, [some (.ref 0), some (.ref 2), some (.ref 3), some (.int v3), some (.int v4), none], [], (w_ry110y140 r_len r_code y0_a y1_a), [], 0)) : ∀ (v3 : Int32) (v4 : Int32) (y1_a : Nat → Int64), wp_X6_worth_38 N r_code y0_a r_len K151 Q  v3 v4 y1_a → EV (ax_GG X) m_X6_worth (po_X6_worth r_len r_code y0_a Q) (38, [some (.ref 0), some (.ref 2), some (.ref 3), some (.int v3), some (.int v4), none], [], (w_ry110y140 r_len r_code y0_a y1_a), [], 0) := by
  intro v3 v4 y1_a h
  unfold wp_X6_worth_38 at h
  refine EV.seg (c' := (41, [some (.ref 0), some (.ref 2), some (.ref 3), some (.int v3), some (.int v4), none], [.int (Int32.ofNat 40), .int v3], (w_ry110y140 r_len r_code y0_a y1_a), [], 0)) 3 rfl trivial ?_
  refine EV.br (c1 := (151, [some (.ref 0), some (.ref 2), some (.ref 3), some (.int v3), some (.int v4), none], [], (w_ry110y140 r_len r_code y0_a y1_a), [], 0)) (c2 := (44, [some (.ref 0), some (.ref 2), some (.ref 3), some (.int v3), some (.int v4), none], [], (w_ry110y140 r_len r_code y0_a y1_a), [], 0)) rfl (fun hc => ?_) (fun hc => ?_)
  · have h := h.1 hc
    exact hK151 _ _ _ h
  · have h := h.2 hc
    obtain ⟨g1, h⟩ := h
    refine EV.seg (c' := (57, [some (.ref 0), some (.ref 2), some (.ref 3), some (.int (v3 + 1)), some (.int v4), none], [.ref 2, .int (r_code v4.toNatClampNeg), .int v3, .ref 3], (w_ry110y140 r_len r_code y0_a y1_a), [], 0)) 8 rfl (And.intro g1 trivial) ?_
    refine EV.callL (M' := m_X6_valueOf) (L := [2]) rfl rfl ⟨rfl, Nat.le_of_ble_eq_true rfl⟩ rfl rfl (em_X6_valueOf (y0_a := y0_a)  h) (fun out ho => ?_)
    obtain ⟨r2, rfl, h⟩ := ho
    show EV _ _ _ (60, [some (.ref 0), some (.ref 2), some (.ref 3), some (.int (v3 + 1)), some (.int v4), none], [.long r2, .int v3, .ref 3], (w_ry110y140 r_len r_code y0_a y1_a), [], 0)
    obtain ⟨g1, h⟩ := h
    refine EV.seg (c' := (61, [some (.ref 0), some (.ref 2), some (.ref 3), some (.int (v3 + 1)), some (.int v4), none], [], (w_ry110y140 r_len r_code y0_a (vp_updL y1_a v3.toNatClampNeg r2)), [], 0)) 1 rfl (And.intro g1 trivial) ?_
    obtain ⟨a3, e_a3⟩ : ∃ z : Nat → Int64, z = vp_updL y1_a v3.toNatClampNeg r2 := ⟨_, rfl⟩
    have h := h a3 e_a3
    rw [← e_a3]
    refine EV.seg (c' := (151, [some (.ref 0), some (.ref 2), some (.ref 3), some (.int (v3 + 1)), some (.int v4), none], [], (w_ry110y140 r_len r_code y0_a a3), [], 0)) 1 rfl trivial ?_
    exact hK151 _ _ _ h
theorem ok_X6_worth_5 {X : Nat × (Nat → Int32)} {N : Nat} {r_len : Nat} {r_code : Nat → Int32} {y0_a : Nat → Int64}  {Q : Int64 → (Nat → Int64) → Prop}  : ∀ (n : Nat) (v3 : Int32) (v4 : Int32) (y1_a : Nat → Int64), wp_X6_worth_5 N r_code y0_a r_len  Q n v3 v4 y1_a → EV (ax_GG X) m_X6_worth (po_X6_worth r_len r_code y0_a Q) (5, [some (.ref 0), some (.ref 2), some (.ref 3), some (.int v3), some (.int v4), none], [], (w_ry110y140 r_len r_code y0_a y1_a), [], 0) := by
  intro n
  induction n with
  | zero => intro _ _ _ h; exact h.elim
  | succ n ih =>
    intro v3 v4 y1_a h
    unfold wp_X6_worth_5 at h
    refine EV.seg (c' := (12, [some (.ref 0), some (.ref 2), some (.ref 3), some (.int v3), some (.int v4), none], [.int (Int32.ofNat r_len), .int v4], (w_ry110y140 r_len r_code y0_a y1_a), [], 0)) 4 rfl trivial ?_
    refine EV.br (c1 := (157, [some (.ref 0), some (.ref 2), some (.ref 3), some (.int v3), some (.int v4), none], [], (w_ry110y140 r_len r_code y0_a y1_a), [], 0)) (c2 := (15, [some (.ref 0), some (.ref 2), some (.ref 3), some (.int v3), some (.int v4), none], [], (w_ry110y140 r_len r_code y0_a y1_a), [], 0)) rfl (fun hc => ?_) (fun hc => ?_)
    · have h := h.1 hc
      refine EV.seg (c' := (158, [some (.ref 0), some (.ref 2), some (.ref 3), some (.int v3), some (.int v4), none], [.long (0 : Int64)], (w_ry110y140 r_len r_code y0_a y1_a), [], 0)) 1 rfl trivial ?_
      exact EV.ret rfl trivial ⟨_, _, rfl, h⟩
    · have h := h.2 hc
      obtain ⟨g1, h⟩ := h
      refine EV.seg (c' := (27, [some (.ref 0), some (.ref 2), some (.ref 3), some (.int v3), some (.int v4), some (.int ((r_code v4.toNatClampNeg) &&& (31 : Int32)))], [], (w_ry110y140 r_len r_code y0_a y1_a), [], 0)) 7 rfl (And.intro g1 trivial) ?_
      obtain ⟨x1, e_x1⟩ : ∃ z : Int32, z = (r_code v4.toNatClampNeg) &&& (31 : Int32) := ⟨_, rfl⟩
      have h := h x1 e_x1
      rw [← e_x1]
      refine EV.seg (c' := (29, [some (.ref 0), some (.ref 2), some (.ref 3), some (.int v3), some (.int v4), some (.int x1)], [.int x1], (w_ry110y140 r_len r_code y0_a y1_a), [], 0)) 1 rfl trivial ?_
      refine EV.br (c1 := (38, [some (.ref 0), some (.ref 2), some (.ref 3), some (.int v3), some (.int v4), some (.int x1)], [], (w_ry110y140 r_len r_code y0_a y1_a), [], 0)) (c2 := (32, [some (.ref 0), some (.ref 2), some (.ref 3), some (.int v3), some (.int v4), some (.int x1)], [], (w_ry110y140 r_len r_code y0_a y1_a), [], 0)) rfl (fun hc => ?_) (fun hc => ?_)
      · have h := h.1 hc
        refine EV.mask (ls' := [some (.ref 0), some (.ref 2), some (.ref 3), some (.int v3), some (.int v4), none]) rfl rfl ?_
        exact (ok_X6_worth_38 (ok_X6_worth_151 ih)) _ _ _ h
      · have h := h.2 hc
        refine EV.seg (c' := (35, [some (.ref 0), some (.ref 2), some (.ref 3), some (.int v3), some (.int v4), some (.int x1)], [.int (1 : Int32), .int x1], (w_ry110y140 r_len r_code y0_a y1_a), [], 0)) 2 rfl trivial ?_
        refine EV.br (c1 := (38, [some (.ref 0), some (.ref 2), some (.ref 3), some (.int v3), some (.int v4), some (.int x1)], [], (w_ry110y140 r_len r_code y0_a y1_a), [], 0)) (c2 := (64, [some (.ref 0), some (.ref 2), some (.ref 3), some (.int v3), some (.int v4), some (.int x1)], [], (w_ry110y140 r_len r_code y0_a y1_a), [], 0)) rfl (fun hc => ?_) (fun hc => ?_)
        · have h := h.1 hc
          refine EV.mask (ls' := [some (.ref 0), some (.ref 2), some (.ref 3), some (.int v3), some (.int v4), none]) rfl rfl ?_
          exact (ok_X6_worth_38 (ok_X6_worth_151 ih)) _ _ _ h
        · have h := h.2 hc
          refine EV.seg (c' := (68, [some (.ref 0), some (.ref 2), some (.ref 3), some (.int v3), some (.int v4), some (.int x1)], [.int (16 : Int32), .int x1], (w_ry110y140 r_len r_code y0_a y1_a), [], 0)) 2 rfl trivial ?_
          refine EV.br (c1 := (86, [some (.ref 0), some (.ref 2), some (.ref 3), some (.int v3), some (.int v4), some (.int x1)], [], (w_ry110y140 r_len r_code y0_a y1_a), [], 0)) (c2 := (71, [some (.ref 0), some (.ref 2), some (.ref 3), some (.int v3), some (.int v4), some (.int x1)], [], (w_ry110y140 r_len r_code y0_a y1_a), [], 0)) rfl (fun hc => ?_) (fun hc => ?_)
          · have h := h.1 hc
            refine EV.mask (ls' := [none, none, some (.ref 3), none, none, none]) rfl rfl ?_
            exact (ok_X6_worth_86 ) _ h
          · have h := h.2 hc
            refine EV.seg (c' := (75, [some (.ref 0), some (.ref 2), some (.ref 3), some (.int v3), some (.int v4), some (.int x1)], [.int (17 : Int32), .int x1], (w_ry110y140 r_len r_code y0_a y1_a), [], 0)) 2 rfl trivial ?_
            refine EV.br (c1 := (78, [some (.ref 0), some (.ref 2), some (.ref 3), some (.int v3), some (.int v4), some (.int x1)], [], (w_ry110y140 r_len r_code y0_a y1_a), [], 0)) (c2 := (90, [some (.ref 0), some (.ref 2), some (.ref 3), some (.int v3), some (.int v4), some (.int x1)], [], (w_ry110y140 r_len r_code y0_a y1_a), [], 0)) rfl (fun hc => ?_) (fun hc => ?_)
            · have h := h.1 hc
              obtain ⟨g1, h⟩ := h
              refine EV.seg (c' := (83, [some (.ref 0), some (.ref 2), some (.ref 3), some (.int v3), some (.int v4), some (.int x1)], [.int (lg_cmp (y1_a (1 : Int32).toNatClampNeg) (0 : Int64))], (w_ry110y140 r_len r_code y0_a y1_a), [], 0)) 5 rfl (And.intro g1 trivial) ?_
              refine EV.br (c1 := (90, [some (.ref 0), some (.ref 2), some (.ref 3), some (.int v3), some (.int v4), some (.int x1)], [], (w_ry110y140 r_len r_code y0_a y1_a), [], 0)) (c2 := (86, [some (.ref 0), some (.ref 2), some (.ref 3), some (.int v3), some (.int v4), some (.int x1)], [], (w_ry110y140 r_len r_code y0_a y1_a), [], 0)) rfl (fun hc => ?_) (fun hc => ?_)
              · have h := h.1 hc
                exact (ok_X6_worth_90 (ok_X6_worth_151 ih)) _ _ _ _ h
              · have h := h.2 hc
                refine EV.mask (ls' := [none, none, some (.ref 3), none, none, none]) rfl rfl ?_
                exact (ok_X6_worth_86 ) _ h
            · have h := h.2 hc
              exact (ok_X6_worth_90 (ok_X6_worth_151 ih)) _ _ _ _ h
theorem em_X6_worth {X : Nat × (Nat → Int32)} {N : Nat} {r_len : Nat} {r_code : Nat → Int32} {y0_a : Nat → Int64} {y1_a : Nat → Int64} {Q : Int64 → (Nat → Int64) → Prop} (h : wp_X6_worth N r_code y0_a r_len Q y1_a) : EM (ax_GG X) m_X6_worth [.ref 0, .ref 2, .ref 3] (w_ry110y140 r_len r_code y0_a y1_a) (po_X6_worth r_len r_code y0_a Q) := by
  unfold wp_X6_worth at h
  show EV _ _ _ (0, [some (.ref 0), some (.ref 2), some (.ref 3), none, none, none], [], (w_ry110y140 r_len r_code y0_a y1_a), [], 0)
  refine EV.seg (c' := (5, [some (.ref 0), some (.ref 2), some (.ref 3), some (.int (0 : Int32)), some (.int (0 : Int32)), none], [], (w_ry110y140 r_len r_code y0_a y1_a), [], 0)) 4 rfl trivial ?_
  exact (ok_X6_worth_5  N) _ _ _ h
abbrev po_X7_isWord (q_state : Int32) (q_sum : Int32) (q_clauses : Int32) (q_values : Int32) (q_tested : Int32) (q_code : Nat → Int32) (q_length : Int32) (q_pile : Nat → Int32) (q_top : Int32) (q_depth : Int32) (q_open : Int32) (p_bytes : Nat → Int32) (p_length : Int32) (p_at : Int32) (p_sign : Int32) (p_place : Int32) (p_number : Int32) (p_fault : Int32) (Q : Int32 → Prop) : ax_E → Prop := fun out => ∃ (r : Int32), out = (some (.int r), (w_qp (.ref 3) q_state q_sum q_clauses q_values q_tested q_code q_length q_pile q_top q_depth q_open p_bytes p_length p_at p_sign p_place p_number p_fault), [], 0) ∧ Q r
def wp_X7_isWord_20 (N : Nat) (p_sign : Int32)  (Q : Int32 → Prop) (s0 : Int32) : Prop := ((s0 = 0 ∨ s0 = 1) ∧ Q s0)
def wp_X7_isWord (N : Nat) (p_sign : Int32) (Q : Int32 → Prop) (p0 : Int32) : Prop := ((p_sign = ((300 : Int32) + p0) → (wp_X7_isWord_20 N p_sign  Q) (1 : Int32)) ∧ (¬ (p_sign = ((300 : Int32) + p0)) → (wp_X7_isWord_20 N p_sign  Q) (0 : Int32)))
theorem ok_X7_isWord_20 {X : Nat × (Nat → Int32)} {N : Nat} {q_state : Int32} {q_sum : Int32} {q_clauses : Int32} {q_values : Int32} {q_tested : Int32} {q_code : Nat → Int32} {q_length : Int32} {q_pile : Nat → Int32} {q_top : Int32} {q_depth : Int32} {q_open : Int32} {p_bytes : Nat → Int32} {p_length : Int32} {p_at : Int32} {p_sign : Int32} {p_place : Int32} {p_number : Int32} {p_fault : Int32}  {Q : Int32 → Prop}  : ∀ (s0 : Int32), wp_X7_isWord_20 N p_sign  Q  s0 → EV (ax_GG X) m_X7_isWord (po_X7_isWord q_state q_sum q_clauses q_values q_tested q_code q_length q_pile q_top q_depth q_open p_bytes p_length p_at p_sign p_place p_number p_fault Q) (20, [none, none], [.int s0], (w_qp (.ref 3) q_state q_sum q_clauses q_values q_tested q_code q_length q_pile q_top q_depth q_open p_bytes p_length p_at p_sign p_place p_number p_fault), [], 0) := by
  intro s0 h
  unfold wp_X7_isWord_20 at h
  exact EV.ret rfl h.1 ⟨_, rfl, h.2⟩
theorem em_X7_isWord {X : Nat × (Nat → Int32)} {N : Nat} {q_state : Int32} {q_sum : Int32} {q_clauses : Int32} {q_values : Int32} {q_tested : Int32} {q_code : Nat → Int32} {q_length : Int32} {q_pile : Nat → Int32} {q_top : Int32} {q_depth : Int32} {q_open : Int32} {p_bytes : Nat → Int32} {p_length : Int32} {p_at : Int32} {p_sign : Int32} {p_place : Int32} {p_number : Int32} {p_fault : Int32} {p0 : Int32} {Q : Int32 → Prop} (h : wp_X7_isWord N p_sign Q p0) : EM (ax_GG X) m_X7_isWord [.ref 0, .int p0] (w_qp (.ref 3) q_state q_sum q_clauses q_values q_tested q_code q_length q_pile q_top q_depth q_open p_bytes p_length p_at p_sign p_place p_number p_fault) (po_X7_isWord q_state q_sum q_clauses q_values q_tested q_code q_length q_pile q_top q_depth q_open p_bytes p_length p_at p_sign p_place p_number p_fault Q) := by
  unfold wp_X7_isWord at h
  show EV _ _ _ (0, [some (.ref 0), some (.int p0)], [], (w_qp (.ref 3) q_state q_sum q_clauses q_values q_tested q_code q_length q_pile q_top q_depth q_open p_bytes p_length p_at p_sign p_place p_number p_fault), [], 0)
  refine EV.seg (c' := (12, [some (.ref 0), some (.int p0)], [.int ((300 : Int32) + p0), .int p_sign], (w_qp (.ref 3) q_state q_sum q_clauses q_values q_tested q_code q_length q_pile q_top q_depth q_open p_bytes p_length p_at p_sign p_place p_number p_fault), [], 0)) 6 rfl trivial ?_
  refine EV.br (c1 := (15, [some (.ref 0), some (.int p0)], [], (w_qp (.ref 3) q_state q_sum q_clauses q_values q_tested q_code q_length q_pile q_top q_depth q_open p_bytes p_length p_at p_sign p_place p_number p_fault), [], 0)) (c2 := (19, [some (.ref 0), some (.int p0)], [], (w_qp (.ref 3) q_state q_sum q_clauses q_values q_tested q_code q_length q_pile q_top q_depth q_open p_bytes p_length p_at p_sign p_place p_number p_fault), [], 0)) rfl (fun hc => ?_) (fun hc => ?_)
  · have h := h.1 hc
    refine EV.seg (c' := (20, [some (.ref 0), some (.int p0)], [.int (1 : Int32)], (w_qp (.ref 3) q_state q_sum q_clauses q_values q_tested q_code q_length q_pile q_top q_depth q_open p_bytes p_length p_at p_sign p_place p_number p_fault), [], 0)) 2 rfl trivial ?_
    refine EV.mask (ls' := [none, none]) rfl rfl ?_
    exact (ok_X7_isWord_20 ) _ h
  · have h := h.2 hc
    refine EV.seg (c' := (20, [some (.ref 0), some (.int p0)], [.int (0 : Int32)], (w_qp (.ref 3) q_state q_sum q_clauses q_values q_tested q_code q_length q_pile q_top q_depth q_open p_bytes p_length p_at p_sign p_place p_number p_fault), [], 0)) 1 rfl trivial ?_
    refine EV.mask (ls' := [none, none]) rfl rfl ?_
    exact (ok_X7_isWord_20 ) _ h
abbrev po_X7_takeClause (q_values : Int32) (q_code : Nat → Int32) (q_length : Int32) (q_pile : Nat → Int32) (q_top : Int32) (q_depth : Int32) (q_open : Int32) (p_bytes : Nat → Int32) (p_length : Int32) (p_at : Int32) (p_sign : Int32) (p_place : Int32) (p_number : Int32) (Q : (Int32) → (Int32) → (Int32) → (Int32) → (Int32) → Prop) : ax_E → Prop := fun out => ∃ (q_state' : Int32) (q_sum' : Int32) (q_clauses' : Int32) (q_tested' : Int32) (p_fault' : Int32), out = (none, (w_qp (.ref 3) q_state' q_sum' q_clauses' q_values q_tested' q_code q_length q_pile q_top q_depth q_open p_bytes p_length p_at p_sign p_place p_number p_fault'), [], 0) ∧ Q q_state' q_sum' q_clauses' q_tested' p_fault'
def wp_X7_takeClause_64 (N : Nat) (p_sign : Int32) (p_place : Int32)  (Q : (Int32) → (Int32) → (Int32) → (Int32) → (Int32) → Prop) (q_state : Int32) (q_sum : Int32) (q_clauses : Int32) (q_tested : Int32) (p_fault : Int32) : Prop := Q q_state q_sum q_clauses q_tested p_fault
def wp_X7_takeClause (N : Nat) (p_sign : Int32) (p_place : Int32) (Q : (Int32) → (Int32) → (Int32) → (Int32) → (Int32) → Prop) (q_state : Int32) (q_sum : Int32) (q_clauses : Int32) (q_tested : Int32) (p_fault : Int32) : Prop := wp_X7_isWord N p_sign (fun r1 => ((r1 = 0 → wp_X9_fail N p_place (fun m2 => (wp_X7_takeClause_64 N p_sign p_place  Q) q_state q_sum q_clauses q_tested m2) (0 : Int32) p_fault) ∧ (¬ (r1 = 0) → ((q_clauses < (12 : Int32) → (wp_X7_takeClause_64 N p_sign p_place  Q) (1 : Int32) (0 : Int32) (q_clauses + (1 : Int32)) (0 : Int32) p_fault) ∧ (¬ (q_clauses < (12 : Int32)) → wp_X9_fail N p_place (fun m3 => (wp_X7_takeClause_64 N p_sign p_place  Q) q_state q_sum q_clauses q_tested m3) (4 : Int32) p_fault))))) (3 : Int32) 
theorem ok_X7_takeClause_64 {X : Nat × (Nat → Int32)} {N : Nat} {q_values : Int32} {q_code : Nat → Int32} {q_length : Int32} {q_pile : Nat → Int32} {q_top : Int32} {q_depth : Int32} {q_open : Int32} {p_bytes : Nat → Int32} {p_length : Int32} {p_at : Int32} {p_sign : Int32} {p_place : Int32} {p_number : Int32}  {Q : (Int32) → (Int32) → (Int32) → (Int32) → (Int32) → Prop}  : ∀ (q_state : Int32) (q_sum : Int32) (q_clauses : Int32) (q_tested : Int32) (p_fault : Int32), wp_X7_takeClause_64 N p_sign p_place  Q  q_state q_sum q_clauses q_tested p_fault → EV (ax_GG X) m_X7_takeClause (po_X7_takeClause q_values q_code q_length q_pile q_top q_depth q_open p_bytes p_length p_at p_sign p_place p_number Q) (64, [none], [], (w_qp (.ref 3) q_state q_sum q_clauses q_values q_tested q_code q_length q_pile q_top q_depth q_open p_bytes p_length p_at p_sign p_place p_number p_fault), [], 0) := by
  intro q_state q_sum q_clauses q_tested p_fault h
  unfold wp_X7_takeClause_64 at h
  exact EV.ret rfl trivial ⟨_, _, _, _, _, rfl, h⟩
theorem em_X7_takeClause {X : Nat × (Nat → Int32)} {N : Nat} {q_values : Int32} {q_code : Nat → Int32} {q_length : Int32} {q_pile : Nat → Int32} {q_top : Int32} {q_depth : Int32} {q_open : Int32} {p_bytes : Nat → Int32} {p_length : Int32} {p_at : Int32} {p_sign : Int32} {p_place : Int32} {p_number : Int32} {q_state : Int32} {q_sum : Int32} {q_clauses : Int32} {q_tested : Int32} {p_fault : Int32} {Q : (Int32) → (Int32) → (Int32) → (Int32) → (Int32) → Prop} (h : wp_X7_takeClause N p_sign p_place Q q_state q_sum q_clauses q_tested p_fault) : EM (ax_GG X) m_X7_takeClause [.ref 0] (w_qp (.ref 3) q_state q_sum q_clauses q_values q_tested q_code q_length q_pile q_top q_depth q_open p_bytes p_length p_at p_sign p_place p_number p_fault) (po_X7_takeClause q_values q_code q_length q_pile q_top q_depth q_open p_bytes p_length p_at p_sign p_place p_number Q) := by
  unfold wp_X7_takeClause at h
  show EV _ _ _ (0, [some (.ref 0)], [], (w_qp (.ref 3) q_state q_sum q_clauses q_values q_tested q_code q_length q_pile q_top q_depth q_open p_bytes p_length p_at p_sign p_place p_number p_fault), [], 0)
  refine EV.seg (c' := (2, [some (.ref 0)], [.int (3 : Int32), .ref 0], (w_qp (.ref 3) q_state q_sum q_clauses q_values q_tested q_code q_length q_pile q_top q_depth q_open p_bytes p_length p_at p_sign p_place p_number p_fault), [], 0)) 2 rfl trivial ?_
  refine EV.call (M' := m_X7_isWord) rfl rfl (Nat.le_of_ble_eq_true rfl) (em_X7_isWord (q_state := q_state) (q_sum := q_sum) (q_clauses := q_clauses) (q_values := q_values) (q_tested := q_tested) (q_code := q_code) (q_length := q_length) (q_pile := q_pile) (q_top := q_top) (q_depth := q_depth) (q_open := q_open) (p_bytes := p_bytes) (p_length := p_length) (p_at := p_at) (p_sign := p_sign) (p_place := p_place) (p_number := p_number) (p_fault := p_fault)  h) (fun out ho => ?_)
  obtain ⟨r1, rfl, h⟩ := ho
  show EV _ _ _ (5, [some (.ref 0)], [.int r1], (w_qp (.ref 3) q_state q_sum q_clauses q_values q_tested q_code q_length q_pile q_top q_depth q_open p_bytes p_length p_at p_sign p_place p_number p_fault), [], 0)
  refine EV.br (c1 := (8, [some (.ref 0)], [], (w_qp (.ref 3) q_state q_sum q_clauses q_values q_tested q_code q_length q_pile q_top q_depth q_open p_bytes p_length p_at p_sign p_place p_number p_fault), [], 0)) (c2 := (19, [some (.ref 0)], [], (w_qp (.ref 3) q_state q_sum q_clauses q_values q_tested q_code q_length q_pile q_top q_depth q_open p_bytes p_length p_at p_sign p_place p_number p_fault), [], 0)) rfl (fun hc => ?_) (fun hc => ?_)
  · have h := h.1 hc
    refine EV.seg (c' := (13, [some (.ref 0)], [.int (0 : Int32), .ref 3], (w_qp (.ref 3) q_state q_sum q_clauses q_values q_tested q_code q_length q_pile q_top q_depth q_open p_bytes p_length p_at p_sign p_place p_number p_fault), [], 0)) 3 rfl trivial ?_
    refine EV.callL (M' := m_X9_fail) (L := [3, 4]) rfl rfl ⟨rfl, Nat.le_of_ble_eq_true rfl⟩ rfl rfl (em_X9_fail (p_bytes := p_bytes) (p_length := p_length) (p_at := p_at) (p_sign := p_sign) (p_place := p_place) (p_number := p_number) (p_fault := p_fault) h) (fun out ho => ?_)
    obtain ⟨m2, rfl, h⟩ := ho
    show EV _ _ _ (16, [some (.ref 0)], [], (w_qp (.ref 3) q_state q_sum q_clauses q_values q_tested q_code q_length q_pile q_top q_depth q_open p_bytes p_length p_at p_sign p_place p_number m2), [], 0)
    refine EV.seg (c' := (64, [some (.ref 0)], [], (w_qp (.ref 3) q_state q_sum q_clauses q_values q_tested q_code q_length q_pile q_top q_depth q_open p_bytes p_length p_at p_sign p_place p_number m2), [], 0)) 1 rfl trivial ?_
    refine EV.mask (ls' := [none]) rfl rfl ?_
    exact (ok_X7_takeClause_64 ) _ _ _ _ _ h
  · have h := h.2 hc
    refine EV.seg (c' := (25, [some (.ref 0)], [.int (12 : Int32), .int q_clauses], (w_qp (.ref 3) q_state q_sum q_clauses q_values q_tested q_code q_length q_pile q_top q_depth q_open p_bytes p_length p_at p_sign p_place p_number p_fault), [], 0)) 3 rfl trivial ?_
    refine EV.br (c1 := (39, [some (.ref 0)], [], (w_qp (.ref 3) q_state q_sum q_clauses q_values q_tested q_code q_length q_pile q_top q_depth q_open p_bytes p_length p_at p_sign p_place p_number p_fault), [], 0)) (c2 := (28, [some (.ref 0)], [], (w_qp (.ref 3) q_state q_sum q_clauses q_values q_tested q_code q_length q_pile q_top q_depth q_open p_bytes p_length p_at p_sign p_place p_number p_fault), [], 0)) rfl (fun hc => ?_) (fun hc => ?_)
    · have h := h.1 hc
      refine EV.seg (c' := (64, [some (.ref 0)], [], (w_qp (.ref 3) (1 : Int32) (0 : Int32) (q_clauses + (1 : Int32)) q_values (0 : Int32) q_code q_length q_pile q_top q_depth q_open p_bytes p_length p_at p_sign p_place p_number p_fault), [], 0)) 15 rfl (And.intro (Or.inl rfl) trivial) ?_
      refine EV.mask (ls' := [none]) rfl rfl ?_
      exact (ok_X7_takeClause_64 ) _ _ _ _ _ h
    · have h := h.2 hc
      refine EV.seg (c' := (33, [some (.ref 0)], [.int (4 : Int32), .ref 3], (w_qp (.ref 3) q_state q_sum q_clauses q_values q_tested q_code q_length q_pile q_top q_depth q_open p_bytes p_length p_at p_sign p_place p_number p_fault), [], 0)) 3 rfl trivial ?_
      refine EV.callL (M' := m_X9_fail) (L := [3, 4]) rfl rfl ⟨rfl, Nat.le_of_ble_eq_true rfl⟩ rfl rfl (em_X9_fail (p_bytes := p_bytes) (p_length := p_length) (p_at := p_at) (p_sign := p_sign) (p_place := p_place) (p_number := p_number) (p_fault := p_fault) h) (fun out ho => ?_)
      obtain ⟨m3, rfl, h⟩ := ho
      show EV _ _ _ (36, [some (.ref 0)], [], (w_qp (.ref 3) q_state q_sum q_clauses q_values q_tested q_code q_length q_pile q_top q_depth q_open p_bytes p_length p_at p_sign p_place p_number m3), [], 0)
      refine EV.seg (c' := (64, [some (.ref 0)], [], (w_qp (.ref 3) q_state q_sum q_clauses q_values q_tested q_code q_length q_pile q_top q_depth q_open p_bytes p_length p_at p_sign p_place p_number m3), [], 0)) 1 rfl trivial ?_
      refine EV.mask (ls' := [none]) rfl rfl ?_
      exact (ok_X7_takeClause_64 ) _ _ _ _ _ h
abbrev po_X7_write (q_state : Int32) (q_sum : Int32) (q_clauses : Int32) (q_values : Int32) (q_tested : Int32) (q_pile : Nat → Int32) (q_top : Int32) (q_depth : Int32) (q_open : Int32) (p_bytes : Nat → Int32) (p_length : Int32) (p_at : Int32) (p_sign : Int32) (p_place : Int32) (p_number : Int32) (p_fault : Int32) (Q : (Nat → Int32) → (Int32) → Prop) : ax_E → Prop := fun out => ∃ (q_code' : Nat → Int32) (q_length' : Int32), out = (none, (w_qp (.ref 3) q_state q_sum q_clauses q_values q_tested q_code' q_length' q_pile q_top q_depth q_open p_bytes p_length p_at p_sign p_place p_number p_fault), [], 0) ∧ Q q_code' q_length'
def wp_X7_write_29 (N : Nat)   (Q : (Nat → Int32) → (Int32) → Prop) (q_code : Nat → Int32) (q_length : Int32) : Prop := Q q_code q_length
def wp_X7_write (N : Nat)  (Q : (Nat → Int32) → (Int32) → Prop) (p0 : Int32) (q_code : Nat → Int32) (q_length : Int32) : Prop := (((Int32.ofNat 400) ≤ q_length → (wp_X7_write_29 N   Q) q_code q_length) ∧ (¬ ((Int32.ofNat 400) ≤ q_length) → vp_in q_length 400 ∧ (∀ a1 : Nat → Int32, a1 = upd q_code q_length.toNatClampNeg p0 → (wp_X7_write_29 N   Q) a1 (q_length + (1 : Int32)))))
theorem ok_X7_write_29 {X : Nat × (Nat → Int32)} {N : Nat} {q_state : Int32} {q_sum : Int32} {q_clauses : Int32} {q_values : Int32} {q_tested : Int32} {q_pile : Nat → Int32} {q_top : Int32} {q_depth : Int32} {q_open : Int32} {p_bytes : Nat → Int32} {p_length : Int32} {p_at : Int32} {p_sign : Int32} {p_place : Int32} {p_number : Int32} {p_fault : Int32}  {Q : (Nat → Int32) → (Int32) → Prop}  : ∀ (q_code : Nat → Int32) (q_length : Int32), wp_X7_write_29 N   Q  q_code q_length → EV (ax_GG X) m_X7_write (po_X7_write q_state q_sum q_clauses q_values q_tested q_pile q_top q_depth q_open p_bytes p_length p_at p_sign p_place p_number p_fault Q) (29, [none, none], [], (w_qp (.ref 3) q_state q_sum q_clauses q_values q_tested q_code q_length q_pile q_top q_depth q_open p_bytes p_length p_at p_sign p_place p_number p_fault), [], 0) := by
  intro q_code q_length h
  unfold wp_X7_write_29 at h
  exact EV.ret rfl trivial ⟨_, _, rfl, h⟩
theorem em_X7_write {X : Nat × (Nat → Int32)} {N : Nat} {q_state : Int32} {q_sum : Int32} {q_clauses : Int32} {q_values : Int32} {q_tested : Int32} {q_pile : Nat → Int32} {q_top : Int32} {q_depth : Int32} {q_open : Int32} {p_bytes : Nat → Int32} {p_length : Int32} {p_at : Int32} {p_sign : Int32} {p_place : Int32} {p_number : Int32} {p_fault : Int32} {p0 : Int32} {q_code : Nat → Int32} {q_length : Int32} {Q : (Nat → Int32) → (Int32) → Prop} (h : wp_X7_write N  Q p0 q_code q_length) : EM (ax_GG X) m_X7_write [.ref 0, .int p0] (w_qp (.ref 3) q_state q_sum q_clauses q_values q_tested q_code q_length q_pile q_top q_depth q_open p_bytes p_length p_at p_sign p_place p_number p_fault) (po_X7_write q_state q_sum q_clauses q_values q_tested q_pile q_top q_depth q_open p_bytes p_length p_at p_sign p_place p_number p_fault Q) := by
  unfold wp_X7_write at h
  show EV _ _ _ (0, [some (.ref 0), some (.int p0)], [], (w_qp (.ref 3) q_state q_sum q_clauses q_values q_tested q_code q_length q_pile q_top q_depth q_open p_bytes p_length p_at p_sign p_place p_number p_fault), [], 0)
  refine EV.seg (c' := (9, [some (.ref 0), some (.int p0)], [.int (Int32.ofNat 400), .int q_length], (w_qp (.ref 3) q_state q_sum q_clauses q_values q_tested q_code q_length q_pile q_top q_depth q_open p_bytes p_length p_at p_sign p_place p_number p_fault), [], 0)) 5 rfl trivial ?_
  refine EV.br (c1 := (29, [some (.ref 0), some (.int p0)], [], (w_qp (.ref 3) q_state q_sum q_clauses q_values q_tested q_code q_length q_pile q_top q_depth q_open p_bytes p_length p_at p_sign p_place p_number p_fault), [], 0)) (c2 := (12, [some (.ref 0), some (.int p0)], [], (w_qp (.ref 3) q_state q_sum q_clauses q_values q_tested q_code q_length q_pile q_top q_depth q_open p_bytes p_length p_at p_sign p_place p_number p_fault), [], 0)) rfl (fun hc => ?_) (fun hc => ?_)
  · have h := h.1 hc
    refine EV.mask (ls' := [none, none]) rfl rfl ?_
    exact (ok_X7_write_29 ) _ _ h
  · have h := h.2 hc
    obtain ⟨g1, h⟩ := h
    refine EV.seg (c' := (29, [some (.ref 0), some (.int p0)], [], (w_qp (.ref 3) q_state q_sum q_clauses q_values q_tested (upd q_code q_length.toNatClampNeg p0) (q_length + (1 : Int32)) q_pile q_top q_depth q_open p_bytes p_length p_at p_sign p_place p_number p_fault), [], 0)) 11 rfl (And.intro g1 trivial) ?_
    obtain ⟨a1, e_a1⟩ : ∃ z : Nat → Int32, z = upd q_code q_length.toNatClampNeg p0 := ⟨_, rfl⟩
    have h := h a1 e_a1
    rw [← e_a1]
    refine EV.mask (ls' := [none, none]) rfl rfl ?_
    exact (ok_X7_write_29 ) _ _ h
abbrev po_X7_takeValue (q_sum : Int32) (q_clauses : Int32) (q_tested : Int32) (q_pile : Nat → Int32) (q_top : Int32) (q_depth : Int32) (q_open : Int32) (p_bytes : Nat → Int32) (p_length : Int32) (p_at : Int32) (p_sign : Int32) (p_place : Int32) (p_number : Int32) (Q : (Int32) → (Int32) → (Nat → Int32) → (Int32) → (Int32) → Prop) : ax_E → Prop := fun out => ∃ (q_state' : Int32) (q_values' : Int32) (q_code' : Nat → Int32) (q_length' : Int32) (p_fault' : Int32), out = (none, (w_qp (.ref 3) q_state' q_sum q_clauses q_values' q_tested q_code' q_length' q_pile q_top q_depth q_open p_bytes p_length p_at p_sign p_place p_number p_fault'), [], 0) ∧ Q q_state' q_values' q_code' q_length' p_fault'
def wp_X7_takeValue_144 (N : Nat) (p_sign : Int32) (p_place : Int32) (p_number : Int32)  (Q : (Int32) → (Int32) → (Nat → Int32) → (Int32) → (Int32) → Prop) (q_state : Int32) (q_values : Int32) (q_code : Nat → Int32) (q_length : Int32) (p_fault : Int32) : Prop := Q q_state q_values q_code q_length p_fault
def wp_X7_takeValue_136 (N : Nat) (p_sign : Int32) (p_place : Int32) (p_number : Int32) (K144 : (Int32) → (Int32) → (Nat → Int32) → (Int32) → (Int32) → Prop) (Q : (Int32) → (Int32) → (Nat → Int32) → (Int32) → (Int32) → Prop) (s0 : Int32) (q_state : Int32) (q_values : Int32) (q_code : Nat → Int32) (q_length : Int32) (p_fault : Int32) : Prop := wp_X7_write N  (fun m5 m6 => K144 (3 : Int32) q_values m5 m6 p_fault) s0 q_code q_length
def wp_X7_takeValue_82 (N : Nat) (p_sign : Int32) (p_place : Int32) (p_number : Int32) (K144 : (Int32) → (Int32) → (Nat → Int32) → (Int32) → (Int32) → Prop) (Q : (Int32) → (Int32) → (Nat → Int32) → (Int32) → (Int32) → Prop) (v1 : Int32) (v2 : Int32) (q_state : Int32) (q_values : Int32) (q_code : Nat → Int32) (q_length : Int32) (p_fault : Int32) : Prop := ((q_values < (60 : Int32) → ((v1 = 0 → (wp_X7_takeValue_136 N p_sign p_place p_number K144 Q) ((1 : Int32) ||| (v2 <<< ((5 : Int32) &&& 31))) q_state (q_values + (1 : Int32)) q_code q_length p_fault) ∧ (¬ (v1 = 0) → (wp_X7_takeValue_136 N p_sign p_place p_number K144 Q) ((0 : Int32) ||| (p_number <<< ((5 : Int32) &&& 31))) q_state (q_values + (1 : Int32)) q_code q_length p_fault))) ∧ (¬ (q_values < (60 : Int32)) → wp_X9_fail N p_place (fun m4 => K144 q_state q_values q_code q_length m4) (3 : Int32) p_fault))
def wp_X7_takeValue_56 (N : Nat) (p_sign : Int32) (p_place : Int32) (p_number : Int32) (K144 : (Int32) → (Int32) → (Nat → Int32) → (Int32) → (Int32) → Prop) (Q : (Int32) → (Int32) → (Nat → Int32) → (Int32) → (Int32) → Prop) (v1 : Int32) (v2 : Int32) (q_state : Int32) (q_values : Int32) (q_code : Nat → Int32) (q_length : Int32) (p_fault : Int32) : Prop := ((v1 = 0 → (wp_X7_takeValue_82 N p_sign p_place p_number K144 Q) v1 v2 q_state q_values q_code q_length p_fault) ∧ (¬ (v1 = 0) → ((p_number = (-1 : Int32) → wp_X9_fail N p_place (fun m3 => K144 q_state q_values q_code q_length m3) (1 : Int32) p_fault) ∧ (¬ (p_number = (-1 : Int32)) → (wp_X7_takeValue_82 N p_sign p_place p_number K144 Q) v1 v2 q_state q_values q_code q_length p_fault))))
def wp_X7_takeValue_45 (N : Nat) (p_sign : Int32) (p_place : Int32) (p_number : Int32) (K144 : (Int32) → (Int32) → (Nat → Int32) → (Int32) → (Int32) → Prop) (Q : (Int32) → (Int32) → (Nat → Int32) → (Int32) → (Int32) → Prop) (q_state : Int32) (q_values : Int32) (q_code : Nat → Int32) (q_length : Int32) (p_fault : Int32) : Prop := wp_X9_fail N p_place (fun m2 => K144 q_state q_values q_code q_length m2) (0 : Int32) p_fault
def wp_X7_takeValue_18 (N : Nat) (p_sign : Int32) (p_place : Int32) (p_number : Int32)  (Q : (Int32) → (Int32) → (Nat → Int32) → (Int32) → (Int32) → Prop) (s0 : Int32) (q_state : Int32) (q_values : Int32) (q_code : Nat → Int32) (q_length : Int32) (p_fault : Int32) : Prop := (∀ x1 : Int32, x1 = p_sign - (300 : Int32) → ((s0 = 0 → ((x1 < 0 → (wp_X7_takeValue_45 N p_sign p_place p_number (wp_X7_takeValue_144 N p_sign p_place p_number  Q) Q) q_state q_values q_code q_length p_fault) ∧ (¬ (x1 < 0) → ((x1 < (10 : Int32) → (wp_X7_takeValue_56 N p_sign p_place p_number (wp_X7_takeValue_144 N p_sign p_place p_number  Q) Q) s0 x1 q_state q_values q_code q_length p_fault) ∧ (¬ (x1 < (10 : Int32)) → (wp_X7_takeValue_45 N p_sign p_place p_number (wp_X7_takeValue_144 N p_sign p_place p_number  Q) Q) q_state q_values q_code q_length p_fault))))) ∧ (¬ (s0 = 0) → (wp_X7_takeValue_56 N p_sign p_place p_number (wp_X7_takeValue_144 N p_sign p_place p_number  Q) Q) s0 x1 q_state q_values q_code q_length p_fault)))
def wp_X7_takeValue (N : Nat) (p_sign : Int32) (p_place : Int32) (p_number : Int32) (Q : (Int32) → (Int32) → (Nat → Int32) → (Int32) → (Int32) → Prop) (q_state : Int32) (q_values : Int32) (q_code : Nat → Int32) (q_length : Int32) (p_fault : Int32) : Prop := ((p_sign = (257 : Int32) → (wp_X7_takeValue_18 N p_sign p_place p_number  Q) (1 : Int32) q_state q_values q_code q_length p_fault) ∧ (¬ (p_sign = (257 : Int32)) → (wp_X7_takeValue_18 N p_sign p_place p_number  Q) (0 : Int32) q_state q_values q_code q_length p_fault))
theorem ok_X7_takeValue_144 {X : Nat × (Nat → Int32)} {N : Nat} {q_sum : Int32} {q_clauses : Int32} {q_tested : Int32} {q_pile : Nat → Int32} {q_top : Int32} {q_depth : Int32} {q_open : Int32} {p_bytes : Nat → Int32} {p_length : Int32} {p_at : Int32} {p_sign : Int32} {p_place : Int32} {p_number : Int32}  {Q : (Int32) → (Int32) → (Nat → Int32) → (Int32) → (Int32) → Prop}  : ∀ (q_state : Int32) (q_values : Int32) (q_code : Nat → Int32) (q_length : Int32) (p_fault : Int32), wp_X7_takeValue_144 N p_sign p_place p_number  Q  q_state q_values q_code q_length p_fault → EV (ax_GG X) m_X7_takeValue (po_X7_takeValue q_sum q_clauses q_tested q_pile q_top q_depth q_open p_bytes p_length p_at p_sign p_place p_number Q) (144, [none, none, none], [], (w_qp (.ref 3) q_state q_sum q_clauses q_values q_tested q_code q_length q_pile q_top q_depth q_open p_bytes p_length p_at p_sign p_place p_number p_fault), [], 0) := by
  intro q_state q_values q_code q_length p_fault h
  unfold wp_X7_takeValue_144 at h
  exact EV.ret rfl trivial ⟨_, _, _, _, _, rfl, h⟩
theorem ok_X7_takeValue_136 {X : Nat × (Nat → Int32)} {N : Nat} {q_sum : Int32} {q_clauses : Int32} {q_tested : Int32} {q_pile : Nat → Int32} {q_top : Int32} {q_depth : Int32} {q_open : Int32} {p_bytes : Nat → Int32} {p_length : Int32} {p_at : Int32} {p_sign : Int32} {p_place : Int32} {p_number : Int32} {K144 : (Int32) → (Int32) → (Nat → Int32) → (Int32) → (Int32) → Prop} {Q : (Int32) → (Int32) → (Nat → Int32) → (Int32) → (Int32) → Prop} (hK144 : ∀ (q_state : Int32) (q_values : Int32) (q_code : Nat → Int32) (q_length : Int32) (p_fault : Int32), K144 q_state q_values q_code q_length p_fault → EV (ax_GG X) m_X7_takeValue (po_X7_takeValue q_sum q_clauses q_tested q_pile q_top q_depth q_open p_bytes p_length p_at p_sign p_place p_number Q) (144, [none, none, none], [], (w_qp (.ref 3) q_state q_sum q_clauses q_values q_tested q_code q_length q_pile q_top q_depth q_open p_bytes p_length p_at p_sign p_place p_number p_fault), [], 0)) : ∀ (s0 : Int32) (q_state : Int32) (q_values : Int32) (q_code : Nat → Int32) (q_length : Int32) (p_fault : Int32), wp_X7_takeValue_136 N p_sign p_place p_number K144 Q  s0 q_state q_values q_code q_length p_fault → EV (ax_GG X) m_X7_takeValue (po_X7_takeValue q_sum q_clauses q_tested q_pile q_top q_depth q_open p_bytes p_length p_at p_sign p_place p_number Q) (136, [some (.ref 0), none, none], [.int s0, .ref 0], (w_qp (.ref 3) q_state q_sum q_clauses q_values q_tested q_code q_length q_pile q_top q_depth q_open p_bytes p_length p_at p_sign p_place p_number p_fault), [], 0) := by
  intro s0 q_state q_values q_code q_length p_fault h
  unfold wp_X7_takeValue_136 at h
  refine EV.call (M' := m_X7_write) rfl rfl (Nat.le_of_ble_eq_true rfl) (em_X7_write (q_state := q_state) (q_sum := q_sum) (q_clauses := q_clauses) (q_values := q_values) (q_tested := q_tested) (q_pile := q_pile) (q_top := q_top) (q_depth := q_depth) (q_open := q_open) (p_bytes := p_bytes) (p_length := p_length) (p_at := p_at) (p_sign := p_sign) (p_place := p_place) (p_number := p_number) (p_fault := p_fault) (q_code := q_code) (q_length := q_length) h) (fun out ho => ?_)
  obtain ⟨m5, m6, rfl, h⟩ := ho
  show EV _ _ _ (139, [some (.ref 0), none, none], [], (w_qp (.ref 3) q_state q_sum q_clauses q_values q_tested m5 m6 q_pile q_top q_depth q_open p_bytes p_length p_at p_sign p_place p_number p_fault), [], 0)
  refine EV.seg (c' := (144, [some (.ref 0), none, none], [], (w_qp (.ref 3) (3 : Int32) q_sum q_clauses q_values q_tested m5 m6 q_pile q_top q_depth q_open p_bytes p_length p_at p_sign p_place p_number p_fault), [], 0)) 3 rfl trivial ?_
  refine EV.mask (ls' := [none, none, none]) rfl rfl ?_
  exact hK144 _ _ _ _ _ h
theorem ok_X7_takeValue_82 {X : Nat × (Nat → Int32)} {N : Nat} {q_sum : Int32} {q_clauses : Int32} {q_tested : Int32} {q_pile : Nat → Int32} {q_top : Int32} {q_depth : Int32} {q_open : Int32} {p_bytes : Nat → Int32} {p_length : Int32} {p_at : Int32} {p_sign : Int32} {p_place : Int32} {p_number : Int32} {K144 : (Int32) → (Int32) → (Nat → Int32) → (Int32) → (Int32) → Prop} {Q : (Int32) → (Int32) → (Nat → Int32) → (Int32) → (Int32) → Prop} (hK144 : ∀ (q_state : Int32) (q_values : Int32) (q_code : Nat → Int32) (q_length : Int32) (p_fault : Int32), K144 q_state q_values q_code q_length p_fault → EV (ax_GG X) m_X7_takeValue (po_X7_takeValue q_sum q_clauses q_tested q_pile q_top q_depth q_open p_bytes p_length p_at p_sign p_place p_number Q) (144, [none, none, none], [], (w_qp (.ref 3) q_state q_sum q_clauses q_values q_tested q_code q_length q_pile q_top q_depth q_open p_bytes p_length p_at p_sign p_place p_number p_fault), [], 0)) : ∀ (v1 : Int32) (v2 : Int32) (q_state : Int32) (q_values : Int32) (q_code : Nat → Int32) (q_length : Int32) (p_fault : Int32), wp_X7_takeValue_82 N p_sign p_place p_number K144 Q  v1 v2 q_state q_values q_code q_length p_fault → EV (ax_GG X) m_X7_takeValue (po_X7_takeValue q_sum q_clauses q_tested q_pile q_top q_depth q_open p_bytes p_length p_at p_sign p_place p_number Q) (82, [some (.ref 0), some (.int v1), some (.int v2)], [], (w_qp (.ref 3) q_state q_sum q_clauses q_values q_tested q_code q_length q_pile q_top q_depth q_open p_bytes p_length p_at p_sign p_place p_number p_fault), [], 0) := by
  intro v1 v2 q_state q_values q_code q_length p_fault h
  unfold wp_X7_takeValue_82 at h
  refine EV.seg (c' := (88, [some (.ref 0), some (.int v1), some (.int v2)], [.int (60 : Int32), .int q_values], (w_qp (.ref 3) q_state q_sum q_clauses q_values q_tested q_code q_length q_pile q_top q_depth q_open p_bytes p_length p_at p_sign p_place p_number p_fault), [], 0)) 3 rfl trivial ?_
  refine EV.br (c1 := (102, [some (.ref 0), some (.int v1), some (.int v2)], [], (w_qp (.ref 3) q_state q_sum q_clauses q_values q_tested q_code q_length q_pile q_top q_depth q_open p_bytes p_length p_at p_sign p_place p_number p_fault), [], 0)) (c2 := (91, [some (.ref 0), some (.int v1), some (.int v2)], [], (w_qp (.ref 3) q_state q_sum q_clauses q_values q_tested q_code q_length q_pile q_top q_depth q_open p_bytes p_length p_at p_sign p_place p_number p_fault), [], 0)) rfl (fun hc => ?_) (fun hc => ?_)
  · have h := h.1 hc
    refine EV.seg (c' := (114, [some (.ref 0), some (.int v1), some (.int v2)], [.int v1, .ref 0], (w_qp (.ref 3) q_state q_sum q_clauses (q_values + (1 : Int32)) q_tested q_code q_length q_pile q_top q_depth q_open p_bytes p_length p_at p_sign p_place p_number p_fault), [], 0)) 8 rfl trivial ?_
    refine EV.br (c1 := (131, [some (.ref 0), some (.int v1), some (.int v2)], [.ref 0], (w_qp (.ref 3) q_state q_sum q_clauses (q_values + (1 : Int32)) q_tested q_code q_length q_pile q_top q_depth q_open p_bytes p_length p_at p_sign p_place p_number p_fault), [], 0)) (c2 := (117, [some (.ref 0), some (.int v1), some (.int v2)], [.ref 0], (w_qp (.ref 3) q_state q_sum q_clauses (q_values + (1 : Int32)) q_tested q_code q_length q_pile q_top q_depth q_open p_bytes p_length p_at p_sign p_place p_number p_fault), [], 0)) rfl (fun hc => ?_) (fun hc => ?_)
    · have h := h.1 hc
      refine EV.seg (c' := (136, [some (.ref 0), some (.int v1), some (.int v2)], [.int ((1 : Int32) ||| (v2 <<< ((5 : Int32) &&& 31))), .ref 0], (w_qp (.ref 3) q_state q_sum q_clauses (q_values + (1 : Int32)) q_tested q_code q_length q_pile q_top q_depth q_open p_bytes p_length p_at p_sign p_place p_number p_fault), [], 0)) 5 rfl trivial ?_
      refine EV.mask (ls' := [some (.ref 0), none, none]) rfl rfl ?_
      exact (ok_X7_takeValue_136 hK144) _ _ _ _ _ _ h
    · have h := h.2 hc
      refine EV.seg (c' := (136, [some (.ref 0), some (.int v1), some (.int v2)], [.int ((0 : Int32) ||| (p_number <<< ((5 : Int32) &&& 31))), .ref 0], (w_qp (.ref 3) q_state q_sum q_clauses (q_values + (1 : Int32)) q_tested q_code q_length q_pile q_top q_depth q_open p_bytes p_length p_at p_sign p_place p_number p_fault), [], 0)) 8 rfl trivial ?_
      refine EV.mask (ls' := [some (.ref 0), none, none]) rfl rfl ?_
      exact (ok_X7_takeValue_136 hK144) _ _ _ _ _ _ h
  · have h := h.2 hc
    refine EV.seg (c' := (96, [some (.ref 0), some (.int v1), some (.int v2)], [.int (3 : Int32), .ref 3], (w_qp (.ref 3) q_state q_sum q_clauses q_values q_tested q_code q_length q_pile q_top q_depth q_open p_bytes p_length p_at p_sign p_place p_number p_fault), [], 0)) 3 rfl trivial ?_
    refine EV.callL (M' := m_X9_fail) (L := [3, 4]) rfl rfl ⟨rfl, Nat.le_of_ble_eq_true rfl⟩ rfl rfl (em_X9_fail (p_bytes := p_bytes) (p_length := p_length) (p_at := p_at) (p_sign := p_sign) (p_place := p_place) (p_number := p_number) (p_fault := p_fault) h) (fun out ho => ?_)
    obtain ⟨m4, rfl, h⟩ := ho
    show EV _ _ _ (99, [some (.ref 0), some (.int v1), some (.int v2)], [], (w_qp (.ref 3) q_state q_sum q_clauses q_values q_tested q_code q_length q_pile q_top q_depth q_open p_bytes p_length p_at p_sign p_place p_number m4), [], 0)
    refine EV.seg (c' := (144, [some (.ref 0), some (.int v1), some (.int v2)], [], (w_qp (.ref 3) q_state q_sum q_clauses q_values q_tested q_code q_length q_pile q_top q_depth q_open p_bytes p_length p_at p_sign p_place p_number m4), [], 0)) 1 rfl trivial ?_
    refine EV.mask (ls' := [none, none, none]) rfl rfl ?_
    exact hK144 _ _ _ _ _ h
theorem ok_X7_takeValue_56 {X : Nat × (Nat → Int32)} {N : Nat} {q_sum : Int32} {q_clauses : Int32} {q_tested : Int32} {q_pile : Nat → Int32} {q_top : Int32} {q_depth : Int32} {q_open : Int32} {p_bytes : Nat → Int32} {p_length : Int32} {p_at : Int32} {p_sign : Int32} {p_place : Int32} {p_number : Int32} {K144 : (Int32) → (Int32) → (Nat → Int32) → (Int32) → (Int32) → Prop} {Q : (Int32) → (Int32) → (Nat → Int32) → (Int32) → (Int32) → Prop} (hK144 : ∀ (q_state : Int32) (q_values : Int32) (q_code : Nat → Int32) (q_length : Int32) (p_fault : Int32), K144 q_state q_values q_code q_length p_fault → EV (ax_GG X) m_X7_takeValue (po_X7_takeValue q_sum q_clauses q_tested q_pile q_top q_depth q_open p_bytes p_length p_at p_sign p_place p_number Q) (144, [none, none, none], [], (w_qp (.ref 3) q_state q_sum q_clauses q_values q_tested q_code q_length q_pile q_top q_depth q_open p_bytes p_length p_at p_sign p_place p_number p_fault), [], 0)) : ∀ (v1 : Int32) (v2 : Int32) (q_state : Int32) (q_values : Int32) (q_code : Nat → Int32) (q_length : Int32) (p_fault : Int32), wp_X7_takeValue_56 N p_sign p_place p_number K144 Q  v1 v2 q_state q_values q_code q_length p_fault → EV (ax_GG X) m_X7_takeValue (po_X7_takeValue q_sum q_clauses q_tested q_pile q_top q_depth q_open p_bytes p_length p_at p_sign p_place p_number Q) (56, [some (.ref 0), some (.int v1), some (.int v2)], [], (w_qp (.ref 3) q_state q_sum q_clauses q_values q_tested q_code q_length q_pile q_top q_depth q_open p_bytes p_length p_at p_sign p_place p_number p_fault), [], 0) := by
  intro v1 v2 q_state q_values q_code q_length p_fault h
  unfold wp_X7_takeValue_56 at h
  refine EV.seg (c' := (57, [some (.ref 0), some (.int v1), some (.int v2)], [.int v1], (w_qp (.ref 3) q_state q_sum q_clauses q_values q_tested q_code q_length q_pile q_top q_depth q_open p_bytes p_length p_at p_sign p_place p_number p_fault), [], 0)) 1 rfl trivial ?_
  refine EV.br (c1 := (82, [some (.ref 0), some (.int v1), some (.int v2)], [], (w_qp (.ref 3) q_state q_sum q_clauses q_values q_tested q_code q_length q_pile q_top q_depth q_open p_bytes p_length p_at p_sign p_place p_number p_fault), [], 0)) (c2 := (60, [some (.ref 0), some (.int v1), some (.int v2)], [], (w_qp (.ref 3) q_state q_sum q_clauses q_values q_tested q_code q_length q_pile q_top q_depth q_open p_bytes p_length p_at p_sign p_place p_number p_fault), [], 0)) rfl (fun hc => ?_) (fun hc => ?_)
  · have h := h.1 hc
    exact (ok_X7_takeValue_82 hK144) _ _ _ _ _ _ _ h
  · have h := h.2 hc
    refine EV.seg (c' := (68, [some (.ref 0), some (.int v1), some (.int v2)], [.int (-1 : Int32), .int p_number], (w_qp (.ref 3) q_state q_sum q_clauses q_values q_tested q_code q_length q_pile q_top q_depth q_open p_bytes p_length p_at p_sign p_place p_number p_fault), [], 0)) 4 rfl trivial ?_
    refine EV.br (c1 := (71, [some (.ref 0), some (.int v1), some (.int v2)], [], (w_qp (.ref 3) q_state q_sum q_clauses q_values q_tested q_code q_length q_pile q_top q_depth q_open p_bytes p_length p_at p_sign p_place p_number p_fault), [], 0)) (c2 := (82, [some (.ref 0), some (.int v1), some (.int v2)], [], (w_qp (.ref 3) q_state q_sum q_clauses q_values q_tested q_code q_length q_pile q_top q_depth q_open p_bytes p_length p_at p_sign p_place p_number p_fault), [], 0)) rfl (fun hc => ?_) (fun hc => ?_)
    · have h := h.1 hc
      refine EV.seg (c' := (76, [some (.ref 0), some (.int v1), some (.int v2)], [.int (1 : Int32), .ref 3], (w_qp (.ref 3) q_state q_sum q_clauses q_values q_tested q_code q_length q_pile q_top q_depth q_open p_bytes p_length p_at p_sign p_place p_number p_fault), [], 0)) 3 rfl trivial ?_
      refine EV.callL (M' := m_X9_fail) (L := [3, 4]) rfl rfl ⟨rfl, Nat.le_of_ble_eq_true rfl⟩ rfl rfl (em_X9_fail (p_bytes := p_bytes) (p_length := p_length) (p_at := p_at) (p_sign := p_sign) (p_place := p_place) (p_number := p_number) (p_fault := p_fault) h) (fun out ho => ?_)
      obtain ⟨m3, rfl, h⟩ := ho
      show EV _ _ _ (79, [some (.ref 0), some (.int v1), some (.int v2)], [], (w_qp (.ref 3) q_state q_sum q_clauses q_values q_tested q_code q_length q_pile q_top q_depth q_open p_bytes p_length p_at p_sign p_place p_number m3), [], 0)
      refine EV.seg (c' := (144, [some (.ref 0), some (.int v1), some (.int v2)], [], (w_qp (.ref 3) q_state q_sum q_clauses q_values q_tested q_code q_length q_pile q_top q_depth q_open p_bytes p_length p_at p_sign p_place p_number m3), [], 0)) 1 rfl trivial ?_
      refine EV.mask (ls' := [none, none, none]) rfl rfl ?_
      exact hK144 _ _ _ _ _ h
    · have h := h.2 hc
      exact (ok_X7_takeValue_82 hK144) _ _ _ _ _ _ _ h
theorem ok_X7_takeValue_45 {X : Nat × (Nat → Int32)} {N : Nat} {q_sum : Int32} {q_clauses : Int32} {q_tested : Int32} {q_pile : Nat → Int32} {q_top : Int32} {q_depth : Int32} {q_open : Int32} {p_bytes : Nat → Int32} {p_length : Int32} {p_at : Int32} {p_sign : Int32} {p_place : Int32} {p_number : Int32} {K144 : (Int32) → (Int32) → (Nat → Int32) → (Int32) → (Int32) → Prop} {Q : (Int32) → (Int32) → (Nat → Int32) → (Int32) → (Int32) → Prop} (hK144 : ∀ (q_state : Int32) (q_values : Int32) (q_code : Nat → Int32) (q_length : Int32) (p_fault : Int32), K144 q_state q_values q_code q_length p_fault → EV (ax_GG X) m_X7_takeValue (po_X7_takeValue q_sum q_clauses q_tested q_pile q_top q_depth q_open p_bytes p_length p_at p_sign p_place p_number Q) (144, [none, none, none], [], (w_qp (.ref 3) q_state q_sum q_clauses q_values q_tested q_code q_length q_pile q_top q_depth q_open p_bytes p_length p_at p_sign p_place p_number p_fault), [], 0)) : ∀ (q_state : Int32) (q_values : Int32) (q_code : Nat → Int32) (q_length : Int32) (p_fault : Int32), wp_X7_takeValue_45 N p_sign p_place p_number K144 Q  q_state q_values q_code q_length p_fault → EV (ax_GG X) m_X7_takeValue (po_X7_takeValue q_sum q_clauses q_tested q_pile q_top q_depth q_open p_bytes p_length p_at p_sign p_place p_number Q) (45, [some (.ref 0), none, none], [], (w_qp (.ref 3) q_state q_sum q_clauses q_values q_tested q_code q_length q_pile q_top q_depth q_open p_bytes p_length p_at p_sign p_place p_number p_fault), [], 0) := by
  intro q_state q_values q_code q_length p_fault h
  unfold wp_X7_takeValue_45 at h
  refine EV.seg (c' := (50, [some (.ref 0), none, none], [.int (0 : Int32), .ref 3], (w_qp (.ref 3) q_state q_sum q_clauses q_values q_tested q_code q_length q_pile q_top q_depth q_open p_bytes p_length p_at p_sign p_place p_number p_fault), [], 0)) 3 rfl trivial ?_
  refine EV.callL (M' := m_X9_fail) (L := [3, 4]) rfl rfl ⟨rfl, Nat.le_of_ble_eq_true rfl⟩ rfl rfl (em_X9_fail (p_bytes := p_bytes) (p_length := p_length) (p_at := p_at) (p_sign := p_sign) (p_place := p_place) (p_number := p_number) (p_fault := p_fault) h) (fun out ho => ?_)
  obtain ⟨m2, rfl, h⟩ := ho
  show EV _ _ _ (53, [some (.ref 0), none, none], [], (w_qp (.ref 3) q_state q_sum q_clauses q_values q_tested q_code q_length q_pile q_top q_depth q_open p_bytes p_length p_at p_sign p_place p_number m2), [], 0)
  refine EV.seg (c' := (144, [some (.ref 0), none, none], [], (w_qp (.ref 3) q_state q_sum q_clauses q_values q_tested q_code q_length q_pile q_top q_depth q_open p_bytes p_length p_at p_sign p_place p_number m2), [], 0)) 1 rfl trivial ?_
  refine EV.mask (ls' := [none, none, none]) rfl rfl ?_
  exact hK144 _ _ _ _ _ h
theorem ok_X7_takeValue_18 {X : Nat × (Nat → Int32)} {N : Nat} {q_sum : Int32} {q_clauses : Int32} {q_tested : Int32} {q_pile : Nat → Int32} {q_top : Int32} {q_depth : Int32} {q_open : Int32} {p_bytes : Nat → Int32} {p_length : Int32} {p_at : Int32} {p_sign : Int32} {p_place : Int32} {p_number : Int32}  {Q : (Int32) → (Int32) → (Nat → Int32) → (Int32) → (Int32) → Prop}  : ∀ (s0 : Int32) (q_state : Int32) (q_values : Int32) (q_code : Nat → Int32) (q_length : Int32) (p_fault : Int32), wp_X7_takeValue_18 N p_sign p_place p_number  Q  s0 q_state q_values q_code q_length p_fault → EV (ax_GG X) m_X7_takeValue (po_X7_takeValue q_sum q_clauses q_tested q_pile q_top q_depth q_open p_bytes p_length p_at p_sign p_place p_number Q) (18, [some (.ref 0), none, none], [.int s0], (w_qp (.ref 3) q_state q_sum q_clauses q_values q_tested q_code q_length q_pile q_top q_depth q_open p_bytes p_length p_at p_sign p_place p_number p_fault), [], 0) := by
  intro s0 q_state q_values q_code q_length p_fault h
  unfold wp_X7_takeValue_18 at h
  refine EV.seg (c' := (31, [some (.ref 0), some (.int s0), some (.int (p_sign - (300 : Int32)))], [], (w_qp (.ref 3) q_state q_sum q_clauses q_values q_tested q_code q_length q_pile q_top q_depth q_open p_bytes p_length p_at p_sign p_place p_number p_fault), [], 0)) 7 rfl trivial ?_
  obtain ⟨x1, e_x1⟩ : ∃ z : Int32, z = p_sign - (300 : Int32) := ⟨_, rfl⟩
  have h := h x1 e_x1
  rw [← e_x1]
  refine EV.seg (c' := (32, [some (.ref 0), some (.int s0), some (.int x1)], [.int s0], (w_qp (.ref 3) q_state q_sum q_clauses q_values q_tested q_code q_length q_pile q_top q_depth q_open p_bytes p_length p_at p_sign p_place p_number p_fault), [], 0)) 1 rfl trivial ?_
  refine EV.br (c1 := (35, [some (.ref 0), some (.int s0), some (.int x1)], [], (w_qp (.ref 3) q_state q_sum q_clauses q_values q_tested q_code q_length q_pile q_top q_depth q_open p_bytes p_length p_at p_sign p_place p_number p_fault), [], 0)) (c2 := (56, [some (.ref 0), some (.int s0), some (.int x1)], [], (w_qp (.ref 3) q_state q_sum q_clauses q_values q_tested q_code q_length q_pile q_top q_depth q_open p_bytes p_length p_at p_sign p_place p_number p_fault), [], 0)) rfl (fun hc => ?_) (fun hc => ?_)
  · have h := h.1 hc
    refine EV.seg (c' := (36, [some (.ref 0), some (.int s0), some (.int x1)], [.int x1], (w_qp (.ref 3) q_state q_sum q_clauses q_values q_tested q_code q_length q_pile q_top q_depth q_open p_bytes p_length p_at p_sign p_place p_number p_fault), [], 0)) 1 rfl trivial ?_
    refine EV.br (c1 := (45, [some (.ref 0), some (.int s0), some (.int x1)], [], (w_qp (.ref 3) q_state q_sum q_clauses q_values q_tested q_code q_length q_pile q_top q_depth q_open p_bytes p_length p_at p_sign p_place p_number p_fault), [], 0)) (c2 := (39, [some (.ref 0), some (.int s0), some (.int x1)], [], (w_qp (.ref 3) q_state q_sum q_clauses q_values q_tested q_code q_length q_pile q_top q_depth q_open p_bytes p_length p_at p_sign p_place p_number p_fault), [], 0)) rfl (fun hc => ?_) (fun hc => ?_)
    · have h := h.1 hc
      refine EV.mask (ls' := [some (.ref 0), none, none]) rfl rfl ?_
      exact (ok_X7_takeValue_45 (ok_X7_takeValue_144 )) _ _ _ _ _ h
    · have h := h.2 hc
      refine EV.seg (c' := (42, [some (.ref 0), some (.int s0), some (.int x1)], [.int (10 : Int32), .int x1], (w_qp (.ref 3) q_state q_sum q_clauses q_values q_tested q_code q_length q_pile q_top q_depth q_open p_bytes p_length p_at p_sign p_place p_number p_fault), [], 0)) 2 rfl trivial ?_
      refine EV.br (c1 := (56, [some (.ref 0), some (.int s0), some (.int x1)], [], (w_qp (.ref 3) q_state q_sum q_clauses q_values q_tested q_code q_length q_pile q_top q_depth q_open p_bytes p_length p_at p_sign p_place p_number p_fault), [], 0)) (c2 := (45, [some (.ref 0), some (.int s0), some (.int x1)], [], (w_qp (.ref 3) q_state q_sum q_clauses q_values q_tested q_code q_length q_pile q_top q_depth q_open p_bytes p_length p_at p_sign p_place p_number p_fault), [], 0)) rfl (fun hc => ?_) (fun hc => ?_)
      · have h := h.1 hc
        exact (ok_X7_takeValue_56 (ok_X7_takeValue_144 )) _ _ _ _ _ _ _ h
      · have h := h.2 hc
        refine EV.mask (ls' := [some (.ref 0), none, none]) rfl rfl ?_
        exact (ok_X7_takeValue_45 (ok_X7_takeValue_144 )) _ _ _ _ _ h
  · have h := h.2 hc
    exact (ok_X7_takeValue_56 (ok_X7_takeValue_144 )) _ _ _ _ _ _ _ h
theorem em_X7_takeValue {X : Nat × (Nat → Int32)} {N : Nat} {q_sum : Int32} {q_clauses : Int32} {q_tested : Int32} {q_pile : Nat → Int32} {q_top : Int32} {q_depth : Int32} {q_open : Int32} {p_bytes : Nat → Int32} {p_length : Int32} {p_at : Int32} {p_sign : Int32} {p_place : Int32} {p_number : Int32} {q_state : Int32} {q_values : Int32} {q_code : Nat → Int32} {q_length : Int32} {p_fault : Int32} {Q : (Int32) → (Int32) → (Nat → Int32) → (Int32) → (Int32) → Prop} (h : wp_X7_takeValue N p_sign p_place p_number Q q_state q_values q_code q_length p_fault) : EM (ax_GG X) m_X7_takeValue [.ref 0] (w_qp (.ref 3) q_state q_sum q_clauses q_values q_tested q_code q_length q_pile q_top q_depth q_open p_bytes p_length p_at p_sign p_place p_number p_fault) (po_X7_takeValue q_sum q_clauses q_tested q_pile q_top q_depth q_open p_bytes p_length p_at p_sign p_place p_number Q) := by
  unfold wp_X7_takeValue at h
  show EV _ _ _ (0, [some (.ref 0), none, none], [], (w_qp (.ref 3) q_state q_sum q_clauses q_values q_tested q_code q_length q_pile q_top q_depth q_open p_bytes p_length p_at p_sign p_place p_number p_fault), [], 0)
  refine EV.seg (c' := (10, [some (.ref 0), none, none], [.int (257 : Int32), .int p_sign], (w_qp (.ref 3) q_state q_sum q_clauses q_values q_tested q_code q_length q_pile q_top q_depth q_open p_bytes p_length p_at p_sign p_place p_number p_fault), [], 0)) 4 rfl trivial ?_
  refine EV.br (c1 := (13, [some (.ref 0), none, none], [], (w_qp (.ref 3) q_state q_sum q_clauses q_values q_tested q_code q_length q_pile q_top q_depth q_open p_bytes p_length p_at p_sign p_place p_number p_fault), [], 0)) (c2 := (17, [some (.ref 0), none, none], [], (w_qp (.ref 3) q_state q_sum q_clauses q_values q_tested q_code q_length q_pile q_top q_depth q_open p_bytes p_length p_at p_sign p_place p_number p_fault), [], 0)) rfl (fun hc => ?_) (fun hc => ?_)
  · have h := h.1 hc
    refine EV.seg (c' := (18, [some (.ref 0), none, none], [.int (1 : Int32)], (w_qp (.ref 3) q_state q_sum q_clauses q_values q_tested q_code q_length q_pile q_top q_depth q_open p_bytes p_length p_at p_sign p_place p_number p_fault), [], 0)) 2 rfl trivial ?_
    exact (ok_X7_takeValue_18 ) _ _ _ _ _ _ h
  · have h := h.2 hc
    refine EV.seg (c' := (18, [some (.ref 0), none, none], [.int (0 : Int32)], (w_qp (.ref 3) q_state q_sum q_clauses q_values q_tested q_code q_length q_pile q_top q_depth q_open p_bytes p_length p_at p_sign p_place p_number p_fault), [], 0)) 1 rfl trivial ?_
    exact (ok_X7_takeValue_18 ) _ _ _ _ _ _ h
abbrev po_X7_lay (q_state : Int32) (q_sum : Int32) (q_clauses : Int32) (q_values : Int32) (q_tested : Int32) (q_code : Nat → Int32) (q_length : Int32) (q_depth : Int32) (q_open : Int32) (p_bytes : Nat → Int32) (p_length : Int32) (p_at : Int32) (p_sign : Int32) (p_place : Int32) (p_number : Int32) (p_fault : Int32) (Q : (Nat → Int32) → (Int32) → Prop) : ax_E → Prop := fun out => ∃ (q_pile' : Nat → Int32) (q_top' : Int32), out = (none, (w_qp (.ref 3) q_state q_sum q_clauses q_values q_tested q_code q_length q_pile' q_top' q_depth q_open p_bytes p_length p_at p_sign p_place p_number p_fault), [], 0) ∧ Q q_pile' q_top'
def wp_X7_lay_29 (N : Nat)   (Q : (Nat → Int32) → (Int32) → Prop) (q_pile : Nat → Int32) (q_top : Int32) : Prop := Q q_pile q_top
def wp_X7_lay (N : Nat)  (Q : (Nat → Int32) → (Int32) → Prop) (p0 : Int32) (q_pile : Nat → Int32) (q_top : Int32) : Prop := (((Int32.ofNat 48) ≤ q_top → (wp_X7_lay_29 N   Q) q_pile q_top) ∧ (¬ ((Int32.ofNat 48) ≤ q_top) → vp_in q_top 48 ∧ (∀ a1 : Nat → Int32, a1 = upd q_pile q_top.toNatClampNeg p0 → (wp_X7_lay_29 N   Q) a1 (q_top + (1 : Int32)))))
theorem ok_X7_lay_29 {X : Nat × (Nat → Int32)} {N : Nat} {q_state : Int32} {q_sum : Int32} {q_clauses : Int32} {q_values : Int32} {q_tested : Int32} {q_code : Nat → Int32} {q_length : Int32} {q_depth : Int32} {q_open : Int32} {p_bytes : Nat → Int32} {p_length : Int32} {p_at : Int32} {p_sign : Int32} {p_place : Int32} {p_number : Int32} {p_fault : Int32}  {Q : (Nat → Int32) → (Int32) → Prop}  : ∀ (q_pile : Nat → Int32) (q_top : Int32), wp_X7_lay_29 N   Q  q_pile q_top → EV (ax_GG X) m_X7_lay (po_X7_lay q_state q_sum q_clauses q_values q_tested q_code q_length q_depth q_open p_bytes p_length p_at p_sign p_place p_number p_fault Q) (29, [none, none], [], (w_qp (.ref 3) q_state q_sum q_clauses q_values q_tested q_code q_length q_pile q_top q_depth q_open p_bytes p_length p_at p_sign p_place p_number p_fault), [], 0) := by
  intro q_pile q_top h
  unfold wp_X7_lay_29 at h
  exact EV.ret rfl trivial ⟨_, _, rfl, h⟩
theorem em_X7_lay {X : Nat × (Nat → Int32)} {N : Nat} {q_state : Int32} {q_sum : Int32} {q_clauses : Int32} {q_values : Int32} {q_tested : Int32} {q_code : Nat → Int32} {q_length : Int32} {q_depth : Int32} {q_open : Int32} {p_bytes : Nat → Int32} {p_length : Int32} {p_at : Int32} {p_sign : Int32} {p_place : Int32} {p_number : Int32} {p_fault : Int32} {p0 : Int32} {q_pile : Nat → Int32} {q_top : Int32} {Q : (Nat → Int32) → (Int32) → Prop} (h : wp_X7_lay N  Q p0 q_pile q_top) : EM (ax_GG X) m_X7_lay [.ref 0, .int p0] (w_qp (.ref 3) q_state q_sum q_clauses q_values q_tested q_code q_length q_pile q_top q_depth q_open p_bytes p_length p_at p_sign p_place p_number p_fault) (po_X7_lay q_state q_sum q_clauses q_values q_tested q_code q_length q_depth q_open p_bytes p_length p_at p_sign p_place p_number p_fault Q) := by
  unfold wp_X7_lay at h
  show EV _ _ _ (0, [some (.ref 0), some (.int p0)], [], (w_qp (.ref 3) q_state q_sum q_clauses q_values q_tested q_code q_length q_pile q_top q_depth q_open p_bytes p_length p_at p_sign p_place p_number p_fault), [], 0)
  refine EV.seg (c' := (9, [some (.ref 0), some (.int p0)], [.int (Int32.ofNat 48), .int q_top], (w_qp (.ref 3) q_state q_sum q_clauses q_values q_tested q_code q_length q_pile q_top q_depth q_open p_bytes p_length p_at p_sign p_place p_number p_fault), [], 0)) 5 rfl trivial ?_
  refine EV.br (c1 := (29, [some (.ref 0), some (.int p0)], [], (w_qp (.ref 3) q_state q_sum q_clauses q_values q_tested q_code q_length q_pile q_top q_depth q_open p_bytes p_length p_at p_sign p_place p_number p_fault), [], 0)) (c2 := (12, [some (.ref 0), some (.int p0)], [], (w_qp (.ref 3) q_state q_sum q_clauses q_values q_tested q_code q_length q_pile q_top q_depth q_open p_bytes p_length p_at p_sign p_place p_number p_fault), [], 0)) rfl (fun hc => ?_) (fun hc => ?_)
  · have h := h.1 hc
    refine EV.mask (ls' := [none, none]) rfl rfl ?_
    exact (ok_X7_lay_29 ) _ _ h
  · have h := h.2 hc
    obtain ⟨g1, h⟩ := h
    refine EV.seg (c' := (29, [some (.ref 0), some (.int p0)], [], (w_qp (.ref 3) q_state q_sum q_clauses q_values q_tested q_code q_length (upd q_pile q_top.toNatClampNeg p0) (q_top + (1 : Int32)) q_depth q_open p_bytes p_length p_at p_sign p_place p_number p_fault), [], 0)) 11 rfl (And.intro g1 trivial) ?_
    obtain ⟨a1, e_a1⟩ : ∃ z : Nat → Int32, z = upd q_pile q_top.toNatClampNeg p0 := ⟨_, rfl⟩
    have h := h a1 e_a1
    rw [← e_a1]
    refine EV.mask (ls' := [none, none]) rfl rfl ?_
    exact (ok_X7_lay_29 ) _ _ h
