/-! the law: orders, rules, images -/
section LOR
variable {Z : Nat × (Nat → Int32)} {a : aS} {W : ax_W} {lg : List Nat} {sl n : Nat} {P : ax_E → Prop}
theorem asC_no {k : Nat} {x : Int32} (h : ¬ ∃ c, asC k x = some c) : asC k x = none := by
  cases e : asC k x with
  | none => rfl
  | some c => exact absurd ⟨c, e⟩ h
set_option maxRecDepth 100000 in
theorem op_fewest {v : Int32} (h1 : vp_in (v + (1 : Int32)) Z.1) (hA : AOk a) (hI : LI a a W lg sl n) (hk : ∀ a' W' lg' sl', AOk a' → LI a' a' W' lg' sl' (n + 1) → EV (ax_GG Z) m_L_law P (1187, [some (.ref 903), some (.ref 0), some (.ref 39), some (.int v)], [], W', lg', sl')) : EV (ax_GG Z) m_L_law P (525, [some (.ref 903), some (.ref 0), some (.ref 39), some (.int v)], [], W, lg, sl) := by
  obtain ⟨⟨f0, hf0⟩, -⟩ := LI_0 hI
  have h9 := LI_9 hI
  refine EV.seg (c' := (526, [some (.ref 903), some (.ref 0), some (.ref 39), some (.int v)], [.ref 0], W, lg, sl)) 1 rfl trivial ?_
  refine EV.ld (k := 4) (i := v + (1 : Int32)) (pc' := 530) rfl rfl h9 h1 ?_
  show EV _ _ _ (531, [some (.ref 903), some (.ref 0), some (.ref 39), some (.int v)], [.int (Z.2 (v + (1 : Int32)).toNatClampNeg), .ref 0], W, lg, sl)
  by_cases hgo : ∃ o, isO a (Z.2 (v + (1 : Int32)).toNatClampNeg) o
  · obtain ⟨o, ho⟩ := hgo
    refine le (A := fun r => A_fewest a (Z.2 (v + (1 : Int32)).toNatClampNeg) r) hI (st_c rfl rfl rfl hf0 (Nat.le_of_ble_eq_true rfl)) rfl (Nat.le_of_ble_eq_true rfl) (fun _ => rfl) (fun rl im gs nx w h => ec_fewest_A hA ho h) (fun rl im gs nx w _ _ _ _ _ _ _ _ _ _ _ hx h => ec_fewest_P hA ho hx h) (fun x W' lg' sl' hx hI' => ?_)
    obtain ⟨-, f1, hf1⟩ := LI_0 hI'
    have h9' := LI_9 hI'
    refine EV.seg (c' := (535, [some (.ref 903), some (.ref 0), some (.ref 39), some (.int v)], [.ref 39, .int x], W', lg', sl')) 1 rfl trivial ?_
    refine EV.ld (k := 4) (i := v + (1 : Int32)) (pc' := 539) rfl rfl h9' h1 ?_
    show EV _ _ _ (540, [some (.ref 903), some (.ref 0), some (.ref 39), some (.int v)], [.int (Z.2 (v + (1 : Int32)).toNatClampNeg), .ref 39, .int x], W', lg', sl')
    refine lm (A := fun r => A_fewest a (Z.2 (v + (1 : Int32)).toNatClampNeg) r) (b' := a) hI' (st_c rfl rfl rfl hf1 (Nat.le_of_ble_eq_true rfl)) rfl (Nat.le_of_ble_eq_true rfl) (fun _ => rfl) (fun w h => mc_fewest hA h) (fun y W'' hy hI'' => ?_)
    refine EV.br (c1 := (1187, [some (.ref 903), some (.ref 0), some (.ref 39), some (.int v)], [], W'', lg', sl')) (c2 := (546, [some (.ref 903), some (.ref 0), some (.ref 39), some (.int v)], [], W'', lg', sl')) rfl (fun _ => hk _ _ _ _ hA hI'') (fun h => absurd (A_fewest_un hA hx hy) h)
  · refine l1 (p := 0) (m := 9) (A := fun r => r = -1) (a' := a) (by omega) hI rfl rfl (fun _ _ _ _ h => h) (st_c rfl rfl rfl hf0 (Nat.le_of_ble_eq_true rfl)) rfl (Nat.le_of_ble_eq_true rfl) (fun _ => rfl) (fun rl im gs rc nx w t h => EM.mono (ec_fewest_0 hA (fun o ho => hgo ⟨o, ho⟩) h) (fun out e => ⟨-1, w, e, rfl, h⟩)) (fun x W' hx0 hI' => ?_)
    subst hx0
    have hx : A_fewest a (Z.2 (v + (1 : Int32)).toNatClampNeg) (-1) := Or.inr ⟨fun o ho => hgo ⟨o, ho⟩, rfl⟩
    obtain ⟨-, f1, hf1⟩ := LI_0 hI'
    have h9' := LI_9 hI'
    refine EV.seg (c' := (535, [some (.ref 903), some (.ref 0), some (.ref 39), some (.int v)], [.ref 39, .int (-1)], W', lg, sl)) 1 rfl trivial ?_
    refine EV.ld (k := 4) (i := v + (1 : Int32)) (pc' := 539) rfl rfl h9' h1 ?_
    show EV _ _ _ (540, [some (.ref 903), some (.ref 0), some (.ref 39), some (.int v)], [.int (Z.2 (v + (1 : Int32)).toNatClampNeg), .ref 39, .int (-1)], W', lg, sl)
    refine lm (A := fun r => A_fewest a (Z.2 (v + (1 : Int32)).toNatClampNeg) r) (b' := a) hI' (st_c rfl rfl rfl hf1 (Nat.le_of_ble_eq_true rfl)) rfl (Nat.le_of_ble_eq_true rfl) (fun _ => rfl) (fun w h => mc_fewest hA h) (fun y W'' hy hI'' => ?_)
    refine EV.br (c1 := (1187, [some (.ref 903), some (.ref 0), some (.ref 39), some (.int v)], [], W'', lg, sl)) (c2 := (546, [some (.ref 903), some (.ref 0), some (.ref 39), some (.int v)], [], W'', lg, sl)) rfl (fun _ => hk _ _ _ _ hA (hI''.up (by omega))) (fun h => absurd (A_fewest_un hA hx hy) h)
set_option maxRecDepth 100000 in
theorem op_step {v : Int32} (h1 : vp_in (v + (1 : Int32)) Z.1) (h2 : vp_in (v + (2 : Int32)) Z.1) (h3 : vp_in (v + (3 : Int32)) Z.1) (hA : AOk a) (hI : LI a a W lg sl n) (hk : ∀ a' W' lg' sl', AOk a' → LI a' a' W' lg' sl' (n + 1) → EV (ax_GG Z) m_L_law P (1187, [some (.ref 903), some (.ref 0), some (.ref 39), some (.int v)], [], W', lg', sl')) : EV (ax_GG Z) m_L_law P (548, [some (.ref 903), some (.ref 0), some (.ref 39), some (.int v)], [], W, lg, sl) := by
  obtain ⟨⟨f0, hf0⟩, -⟩ := LI_0 hI
  have h9 := LI_9 hI
  refine EV.seg (c' := (549, [some (.ref 903), some (.ref 0), some (.ref 39), some (.int v)], [.ref 0], W, lg, sl)) 1 rfl trivial ?_
  refine EV.ld (k := 4) (i := v + (1 : Int32)) (pc' := 553) rfl rfl h9 h1 ?_
  refine EV.ld (k := 4) (i := v + (2 : Int32)) (pc' := 558) rfl rfl h9 h2 ?_
  refine EV.ld (k := 4) (i := v + (3 : Int32)) (pc' := 563) rfl rfl h9 h3 ?_
  show EV _ _ _ (564, [some (.ref 903), some (.ref 0), some (.ref 39), some (.int v)], [.int (Z.2 (v + (3 : Int32)).toNatClampNeg), .int (Z.2 (v + (2 : Int32)).toNatClampNeg), .int (Z.2 (v + (1 : Int32)).toNatClampNeg), .ref 0], W, lg, sl)
  by_cases hgo : ∃ o, isO a (Z.2 (v + (1 : Int32)).toNatClampNeg) o ∧ 0 ≤ (Z.2 (v + (2 : Int32)).toNatClampNeg).toInt ∧ ((Z.2 (v + (3 : Int32)).toNatClampNeg) = 0 ∨ (Z.2 (v + (3 : Int32)).toNatClampNeg) = 1)
  · obtain ⟨o, ho, hq, hz⟩ := hgo
    refine le (A := fun r => A_step a (Z.2 (v + (1 : Int32)).toNatClampNeg) (Z.2 (v + (2 : Int32)).toNatClampNeg) (Z.2 (v + (3 : Int32)).toNatClampNeg) r) hI (st_c rfl rfl rfl hf0 (Nat.le_of_ble_eq_true rfl)) rfl (Nat.le_of_ble_eq_true rfl) (fun _ => rfl) (fun rl im gs nx w h => ec_step_A hA ho hq hz h) (fun rl im gs nx w _ _ _ _ _ _ _ _ _ _ _ hx h => ec_step_P hA ho hq hz hx h) (fun x W' lg' sl' hx hI' => ?_)
    obtain ⟨-, f1, hf1⟩ := LI_0 hI'
    have h9' := LI_9 hI'
    refine EV.seg (c' := (568, [some (.ref 903), some (.ref 0), some (.ref 39), some (.int v)], [.ref 39, .int x], W', lg', sl')) 1 rfl trivial ?_
    refine EV.ld (k := 4) (i := v + (1 : Int32)) (pc' := 572) rfl rfl h9' h1 ?_
    refine EV.ld (k := 4) (i := v + (2 : Int32)) (pc' := 577) rfl rfl h9' h2 ?_
    refine EV.ld (k := 4) (i := v + (3 : Int32)) (pc' := 582) rfl rfl h9' h3 ?_
    show EV _ _ _ (583, [some (.ref 903), some (.ref 0), some (.ref 39), some (.int v)], [.int (Z.2 (v + (3 : Int32)).toNatClampNeg), .int (Z.2 (v + (2 : Int32)).toNatClampNeg), .int (Z.2 (v + (1 : Int32)).toNatClampNeg), .ref 39, .int x], W', lg', sl')
    refine lm (A := fun r => A_step a (Z.2 (v + (1 : Int32)).toNatClampNeg) (Z.2 (v + (2 : Int32)).toNatClampNeg) (Z.2 (v + (3 : Int32)).toNatClampNeg) r) (b' := a) hI' (st_c rfl rfl rfl hf1 (Nat.le_of_ble_eq_true rfl)) rfl (Nat.le_of_ble_eq_true rfl) (fun _ => rfl) (fun w h => mc_step hA h) (fun y W'' hy hI'' => ?_)
    refine EV.br (c1 := (1187, [some (.ref 903), some (.ref 0), some (.ref 39), some (.int v)], [], W'', lg', sl')) (c2 := (589, [some (.ref 903), some (.ref 0), some (.ref 39), some (.int v)], [], W'', lg', sl')) rfl (fun _ => hk _ _ _ _ hA hI'') (fun h => absurd (A_step_un hA hx hy) h)
  · refine l1 (p := 0) (m := 9) (A := fun r => r = -1) (a' := a) (by omega) hI rfl rfl (fun _ _ _ _ h => h) (st_c rfl rfl rfl hf0 (Nat.le_of_ble_eq_true rfl)) rfl (Nat.le_of_ble_eq_true rfl) (fun _ => rfl) (fun rl im gs rc nx w t h => EM.mono (ec_step_0 hA (fun o ho => hgo ⟨o, ho⟩) h) (fun out e => ⟨-1, w, e, rfl, h⟩)) (fun x W' hx0 hI' => ?_)
    subst hx0
    have hx : A_step a (Z.2 (v + (1 : Int32)).toNatClampNeg) (Z.2 (v + (2 : Int32)).toNatClampNeg) (Z.2 (v + (3 : Int32)).toNatClampNeg) (-1) := Or.inr ⟨fun o ho => hgo ⟨o, ho⟩, rfl⟩
    obtain ⟨-, f1, hf1⟩ := LI_0 hI'
    have h9' := LI_9 hI'
    refine EV.seg (c' := (568, [some (.ref 903), some (.ref 0), some (.ref 39), some (.int v)], [.ref 39, .int (-1)], W', lg, sl)) 1 rfl trivial ?_
    refine EV.ld (k := 4) (i := v + (1 : Int32)) (pc' := 572) rfl rfl h9' h1 ?_
    refine EV.ld (k := 4) (i := v + (2 : Int32)) (pc' := 577) rfl rfl h9' h2 ?_
    refine EV.ld (k := 4) (i := v + (3 : Int32)) (pc' := 582) rfl rfl h9' h3 ?_
    show EV _ _ _ (583, [some (.ref 903), some (.ref 0), some (.ref 39), some (.int v)], [.int (Z.2 (v + (3 : Int32)).toNatClampNeg), .int (Z.2 (v + (2 : Int32)).toNatClampNeg), .int (Z.2 (v + (1 : Int32)).toNatClampNeg), .ref 39, .int (-1)], W', lg, sl)
    refine lm (A := fun r => A_step a (Z.2 (v + (1 : Int32)).toNatClampNeg) (Z.2 (v + (2 : Int32)).toNatClampNeg) (Z.2 (v + (3 : Int32)).toNatClampNeg) r) (b' := a) hI' (st_c rfl rfl rfl hf1 (Nat.le_of_ble_eq_true rfl)) rfl (Nat.le_of_ble_eq_true rfl) (fun _ => rfl) (fun w h => mc_step hA h) (fun y W'' hy hI'' => ?_)
    refine EV.br (c1 := (1187, [some (.ref 903), some (.ref 0), some (.ref 39), some (.int v)], [], W'', lg, sl)) (c2 := (589, [some (.ref 903), some (.ref 0), some (.ref 39), some (.int v)], [], W'', lg, sl)) rfl (fun _ => hk _ _ _ _ hA (hI''.up (by omega))) (fun h => absurd (A_step_un hA hx hy) h)
set_option maxRecDepth 100000 in
theorem op_orders {v : Int32} (h1 : vp_in (v + (1 : Int32)) Z.1) (hA : AOk a) (hI : LI a a W lg sl n) (hk : ∀ a' W' lg' sl', AOk a' → LI a' a' W' lg' sl' (n + 1) → EV (ax_GG Z) m_L_law P (1187, [some (.ref 903), some (.ref 0), some (.ref 39), some (.int v)], [], W', lg', sl')) : EV (ax_GG Z) m_L_law P (591, [some (.ref 903), some (.ref 0), some (.ref 39), some (.int v)], [], W, lg, sl) := by
  obtain ⟨⟨f0, hf0⟩, -⟩ := LI_0 hI
  have h9 := LI_9 hI
  refine EV.seg (c' := (592, [some (.ref 903), some (.ref 0), some (.ref 39), some (.int v)], [.ref 0], W, lg, sl)) 1 rfl trivial ?_
  refine EV.ld (k := 4) (i := v + (1 : Int32)) (pc' := 596) rfl rfl h9 h1 ?_
  show EV _ _ _ (597, [some (.ref 903), some (.ref 0), some (.ref 39), some (.int v)], [.int (Z.2 (v + (1 : Int32)).toNatClampNeg), .ref 0], W, lg, sl)
  by_cases hgo : l_t (a_l a) = 1 ∧ 0 ≤ (Z.2 (v + (1 : Int32)).toNatClampNeg).toInt ∧ (Z.2 (v + (1 : Int32)).toNatClampNeg).toInt ≤ 30
  · obtain ⟨b, hb, hb2⟩ := int_nat hgo.2.1
    refine le (A := fun r => A_orders a (Z.2 (v + (1 : Int32)).toNatClampNeg) r) hI (st_c rfl rfl rfl hf0 (Nat.le_of_ble_eq_true rfl)) rfl (Nat.le_of_ble_eq_true rfl) (fun _ => rfl) (fun rl im gs nx w h => ec_orders_A hA hgo.1 (n := b) (by omega) hb h) (fun rl im gs nx w _ _ _ _ _ _ _ _ _ _ _ hx h => ec_orders_P hA hgo.1 (n := b) (by omega) hb hx h) (fun x W' lg' sl' hx hI' => ?_)
    obtain ⟨-, f1, hf1⟩ := LI_0 hI'
    have h9' := LI_9 hI'
    refine EV.seg (c' := (601, [some (.ref 903), some (.ref 0), some (.ref 39), some (.int v)], [.ref 39, .int x], W', lg', sl')) 1 rfl trivial ?_
    refine EV.ld (k := 4) (i := v + (1 : Int32)) (pc' := 605) rfl rfl h9' h1 ?_
    show EV _ _ _ (606, [some (.ref 903), some (.ref 0), some (.ref 39), some (.int v)], [.int (Z.2 (v + (1 : Int32)).toNatClampNeg), .ref 39, .int x], W', lg', sl')
    refine lm (A := fun r => A_orders a (Z.2 (v + (1 : Int32)).toNatClampNeg) r) (b' := a) hI' (st_c rfl rfl rfl hf1 (Nat.le_of_ble_eq_true rfl)) rfl (Nat.le_of_ble_eq_true rfl) (fun _ => rfl) (fun w h => mc_orders hA h) (fun y W'' hy hI'' => ?_)
    refine EV.br (c1 := (1187, [some (.ref 903), some (.ref 0), some (.ref 39), some (.int v)], [], W'', lg', sl')) (c2 := (612, [some (.ref 903), some (.ref 0), some (.ref 39), some (.int v)], [], W'', lg', sl')) rfl (fun _ => hk _ _ _ _ hA hI'') (fun h => absurd (A_orders_un hx hy) h)
  · refine l1 (p := 0) (m := 9) (A := fun r => r = -1) (a' := a) (by omega) hI rfl rfl (fun _ _ _ _ h => h) (st_c rfl rfl rfl hf0 (Nat.le_of_ble_eq_true rfl)) rfl (Nat.le_of_ble_eq_true rfl) (fun _ => rfl) (fun rl im gs rc nx w t h => EM.mono (ec_orders_0 hA hgo h) (fun out e => ⟨-1, w, e, rfl, h⟩)) (fun x W' hx0 hI' => ?_)
    subst hx0
    have hx : A_orders a (Z.2 (v + (1 : Int32)).toNatClampNeg) (-1) := Or.inr ⟨hgo, rfl⟩
    obtain ⟨-, f1, hf1⟩ := LI_0 hI'
    have h9' := LI_9 hI'
    refine EV.seg (c' := (601, [some (.ref 903), some (.ref 0), some (.ref 39), some (.int v)], [.ref 39, .int (-1)], W', lg, sl)) 1 rfl trivial ?_
    refine EV.ld (k := 4) (i := v + (1 : Int32)) (pc' := 605) rfl rfl h9' h1 ?_
    show EV _ _ _ (606, [some (.ref 903), some (.ref 0), some (.ref 39), some (.int v)], [.int (Z.2 (v + (1 : Int32)).toNatClampNeg), .ref 39, .int (-1)], W', lg, sl)
    refine lm (A := fun r => A_orders a (Z.2 (v + (1 : Int32)).toNatClampNeg) r) (b' := a) hI' (st_c rfl rfl rfl hf1 (Nat.le_of_ble_eq_true rfl)) rfl (Nat.le_of_ble_eq_true rfl) (fun _ => rfl) (fun w h => mc_orders hA h) (fun y W'' hy hI'' => ?_)
    refine EV.br (c1 := (1187, [some (.ref 903), some (.ref 0), some (.ref 39), some (.int v)], [], W'', lg, sl)) (c2 := (612, [some (.ref 903), some (.ref 0), some (.ref 39), some (.int v)], [], W'', lg, sl)) rfl (fun _ => hk _ _ _ _ hA (hI''.up (by omega))) (fun h => absurd (A_orders_un hx hy) h)
set_option maxRecDepth 100000 in
theorem op_farthest {v : Int32} (h1 : vp_in (v + (1 : Int32)) Z.1) (hA : AOk a) (hI : LI a a W lg sl n) (hk : ∀ a' W' lg' sl', AOk a' → LI a' a' W' lg' sl' (n + 1) → EV (ax_GG Z) m_L_law P (1187, [some (.ref 903), some (.ref 0), some (.ref 39), some (.int v)], [], W', lg', sl')) : EV (ax_GG Z) m_L_law P (614, [some (.ref 903), some (.ref 0), some (.ref 39), some (.int v)], [], W, lg, sl) := by
  obtain ⟨⟨f0, hf0⟩, -⟩ := LI_0 hI
  have h9 := LI_9 hI
  refine EV.seg (c' := (615, [some (.ref 903), some (.ref 0), some (.ref 39), some (.int v)], [.ref 0], W, lg, sl)) 1 rfl trivial ?_
  refine EV.ld (k := 4) (i := v + (1 : Int32)) (pc' := 619) rfl rfl h9 h1 ?_
  show EV _ _ _ (620, [some (.ref 903), some (.ref 0), some (.ref 39), some (.int v)], [.int (Z.2 (v + (1 : Int32)).toNatClampNeg), .ref 0], W, lg, sl)
  by_cases hgo : l_t (a_l a) = 1 ∧ ((Z.2 (v + (1 : Int32)).toNatClampNeg) = 0 ∨ (Z.2 (v + (1 : Int32)).toNatClampNeg) = 1)
  · skip
    refine le (A := fun r => A_farthest a (Z.2 (v + (1 : Int32)).toNatClampNeg) r) hI (st_c rfl rfl rfl hf0 (Nat.le_of_ble_eq_true rfl)) rfl (Nat.le_of_ble_eq_true rfl) (fun _ => rfl) (fun rl im gs nx w h => ec_farthest_A hA hgo.1 hgo.2 h) (fun rl im gs nx w _ _ _ _ _ _ _ _ _ _ _ hx h => ec_farthest_P hA hgo.1 hgo.2 hx h) (fun x W' lg' sl' hx hI' => ?_)
    obtain ⟨-, f1, hf1⟩ := LI_0 hI'
    have h9' := LI_9 hI'
    refine EV.seg (c' := (624, [some (.ref 903), some (.ref 0), some (.ref 39), some (.int v)], [.ref 39, .int x], W', lg', sl')) 1 rfl trivial ?_
    refine EV.ld (k := 4) (i := v + (1 : Int32)) (pc' := 628) rfl rfl h9' h1 ?_
    show EV _ _ _ (629, [some (.ref 903), some (.ref 0), some (.ref 39), some (.int v)], [.int (Z.2 (v + (1 : Int32)).toNatClampNeg), .ref 39, .int x], W', lg', sl')
    refine lm (A := fun r => A_farthest a (Z.2 (v + (1 : Int32)).toNatClampNeg) r) (b' := a) hI' (st_c rfl rfl rfl hf1 (Nat.le_of_ble_eq_true rfl)) rfl (Nat.le_of_ble_eq_true rfl) (fun _ => rfl) (fun w h => mc_farthest hA h) (fun y W'' hy hI'' => ?_)
    refine EV.br (c1 := (1187, [some (.ref 903), some (.ref 0), some (.ref 39), some (.int v)], [], W'', lg', sl')) (c2 := (635, [some (.ref 903), some (.ref 0), some (.ref 39), some (.int v)], [], W'', lg', sl')) rfl (fun _ => hk _ _ _ _ hA hI'') (fun h => absurd (A_farthest_un hx hy) h)
  · refine l1 (p := 0) (m := 9) (A := fun r => r = -1) (a' := a) (by omega) hI rfl rfl (fun _ _ _ _ h => h) (st_c rfl rfl rfl hf0 (Nat.le_of_ble_eq_true rfl)) rfl (Nat.le_of_ble_eq_true rfl) (fun _ => rfl) (fun rl im gs rc nx w t h => EM.mono (ec_farthest_0 hA hgo h) (fun out e => ⟨-1, w, e, rfl, h⟩)) (fun x W' hx0 hI' => ?_)
    subst hx0
    have hx : A_farthest a (Z.2 (v + (1 : Int32)).toNatClampNeg) (-1) := Or.inr (Or.inr ⟨hgo, rfl⟩)
    obtain ⟨-, f1, hf1⟩ := LI_0 hI'
    have h9' := LI_9 hI'
    refine EV.seg (c' := (624, [some (.ref 903), some (.ref 0), some (.ref 39), some (.int v)], [.ref 39, .int (-1)], W', lg, sl)) 1 rfl trivial ?_
    refine EV.ld (k := 4) (i := v + (1 : Int32)) (pc' := 628) rfl rfl h9' h1 ?_
    show EV _ _ _ (629, [some (.ref 903), some (.ref 0), some (.ref 39), some (.int v)], [.int (Z.2 (v + (1 : Int32)).toNatClampNeg), .ref 39, .int (-1)], W', lg, sl)
    refine lm (A := fun r => A_farthest a (Z.2 (v + (1 : Int32)).toNatClampNeg) r) (b' := a) hI' (st_c rfl rfl rfl hf1 (Nat.le_of_ble_eq_true rfl)) rfl (Nat.le_of_ble_eq_true rfl) (fun _ => rfl) (fun w h => mc_farthest hA h) (fun y W'' hy hI'' => ?_)
    refine EV.br (c1 := (1187, [some (.ref 903), some (.ref 0), some (.ref 39), some (.int v)], [], W'', lg, sl)) (c2 := (635, [some (.ref 903), some (.ref 0), some (.ref 39), some (.int v)], [], W'', lg, sl)) rfl (fun _ => hk _ _ _ _ hA (hI''.up (by omega))) (fun h => absurd (A_farthest_un hx hy) h)
set_option maxRecDepth 100000 in
theorem op_first {v : Int32} (h1 : vp_in (v + (1 : Int32)) Z.1) (hA : AOk a) (hI : LI a a W lg sl n) (hk : ∀ a' W' lg' sl', AOk a' → LI a' a' W' lg' sl' (n + 1) → EV (ax_GG Z) m_L_law P (1187, [some (.ref 903), some (.ref 0), some (.ref 39), some (.int v)], [], W', lg', sl')) : EV (ax_GG Z) m_L_law P (637, [some (.ref 903), some (.ref 0), some (.ref 39), some (.int v)], [], W, lg, sl) := by
  obtain ⟨⟨f0, hf0⟩, -⟩ := LI_0 hI
  have h9 := LI_9 hI
  refine EV.seg (c' := (638, [some (.ref 903), some (.ref 0), some (.ref 39), some (.int v)], [.ref 0], W, lg, sl)) 1 rfl trivial ?_
  refine EV.ld (k := 4) (i := v + (1 : Int32)) (pc' := 642) rfl rfl h9 h1 ?_
  show EV _ _ _ (643, [some (.ref 903), some (.ref 0), some (.ref 39), some (.int v)], [.int (Z.2 (v + (1 : Int32)).toNatClampNeg), .ref 0], W, lg, sl)
  by_cases hgo : ∃ c, asC (l_k (a_l a)) (Z.2 (v + (1 : Int32)).toNatClampNeg) = some c
  · obtain ⟨c, hc⟩ := hgo
    refine le (A := fun r => A_first a (Z.2 (v + (1 : Int32)).toNatClampNeg) r) hI (st_c rfl rfl rfl hf0 (Nat.le_of_ble_eq_true rfl)) rfl (Nat.le_of_ble_eq_true rfl) (fun _ => rfl) (fun rl im gs nx w h => ec_first_A hA hc h) (fun rl im gs nx w _ _ _ _ _ _ _ _ _ _ _ hx h => ec_first_P hA hc hx h) (fun x W' lg' sl' hx hI' => ?_)
    obtain ⟨-, f1, hf1⟩ := LI_0 hI'
    have h9' := LI_9 hI'
    refine EV.seg (c' := (647, [some (.ref 903), some (.ref 0), some (.ref 39), some (.int v)], [.ref 39, .int x], W', lg', sl')) 1 rfl trivial ?_
    refine EV.ld (k := 4) (i := v + (1 : Int32)) (pc' := 651) rfl rfl h9' h1 ?_
    show EV _ _ _ (652, [some (.ref 903), some (.ref 0), some (.ref 39), some (.int v)], [.int (Z.2 (v + (1 : Int32)).toNatClampNeg), .ref 39, .int x], W', lg', sl')
    refine lm (A := fun r => A_first a (Z.2 (v + (1 : Int32)).toNatClampNeg) r) (b' := a) hI' (st_c rfl rfl rfl hf1 (Nat.le_of_ble_eq_true rfl)) rfl (Nat.le_of_ble_eq_true rfl) (fun _ => rfl) (fun w h => mc_first hA h) (fun y W'' hy hI'' => ?_)
    refine EV.br (c1 := (1187, [some (.ref 903), some (.ref 0), some (.ref 39), some (.int v)], [], W'', lg', sl')) (c2 := (658, [some (.ref 903), some (.ref 0), some (.ref 39), some (.int v)], [], W'', lg', sl')) rfl (fun _ => hk _ _ _ _ hA hI'') (fun h => absurd (A_first_un hx hy) h)
  · refine l1 (p := 0) (m := 9) (A := fun r => r = -1) (a' := a) (by omega) hI rfl rfl (fun _ _ _ _ h => h) (st_c rfl rfl rfl hf0 (Nat.le_of_ble_eq_true rfl)) rfl (Nat.le_of_ble_eq_true rfl) (fun _ => rfl) (fun rl im gs rc nx w t h => EM.mono (ec_first_0 hA (asC_no hgo) h) (fun out e => ⟨-1, w, e, rfl, h⟩)) (fun x W' hx0 hI' => ?_)
    subst hx0
    have hx : A_first a (Z.2 (v + (1 : Int32)).toNatClampNeg) (-1) := Or.inr ⟨asC_no hgo, rfl⟩
    obtain ⟨-, f1, hf1⟩ := LI_0 hI'
    have h9' := LI_9 hI'
    refine EV.seg (c' := (647, [some (.ref 903), some (.ref 0), some (.ref 39), some (.int v)], [.ref 39, .int (-1)], W', lg, sl)) 1 rfl trivial ?_
    refine EV.ld (k := 4) (i := v + (1 : Int32)) (pc' := 651) rfl rfl h9' h1 ?_
    show EV _ _ _ (652, [some (.ref 903), some (.ref 0), some (.ref 39), some (.int v)], [.int (Z.2 (v + (1 : Int32)).toNatClampNeg), .ref 39, .int (-1)], W', lg, sl)
    refine lm (A := fun r => A_first a (Z.2 (v + (1 : Int32)).toNatClampNeg) r) (b' := a) hI' (st_c rfl rfl rfl hf1 (Nat.le_of_ble_eq_true rfl)) rfl (Nat.le_of_ble_eq_true rfl) (fun _ => rfl) (fun w h => mc_first hA h) (fun y W'' hy hI'' => ?_)
    refine EV.br (c1 := (1187, [some (.ref 903), some (.ref 0), some (.ref 39), some (.int v)], [], W'', lg, sl)) (c2 := (658, [some (.ref 903), some (.ref 0), some (.ref 39), some (.int v)], [], W'', lg, sl)) rfl (fun _ => hk _ _ _ _ hA (hI''.up (by omega))) (fun h => absurd (A_first_un hx hy) h)
set_option maxRecDepth 100000 in
theorem op_behind {v : Int32} (h1 : vp_in (v + (1 : Int32)) Z.1) (hA : AOk a) (hI : LI a a W lg sl n) (hk : ∀ a' W' lg' sl', AOk a' → LI a' a' W' lg' sl' (n + 1) → EV (ax_GG Z) m_L_law P (1187, [some (.ref 903), some (.ref 0), some (.ref 39), some (.int v)], [], W', lg', sl')) : EV (ax_GG Z) m_L_law P (660, [some (.ref 903), some (.ref 0), some (.ref 39), some (.int v)], [], W, lg, sl) := by
  obtain ⟨⟨f0, hf0⟩, -⟩ := LI_0 hI
  have h9 := LI_9 hI
  refine EV.seg (c' := (661, [some (.ref 903), some (.ref 0), some (.ref 39), some (.int v)], [.ref 0], W, lg, sl)) 1 rfl trivial ?_
  refine EV.ld (k := 4) (i := v + (1 : Int32)) (pc' := 665) rfl rfl h9 h1 ?_
  show EV _ _ _ (666, [some (.ref 903), some (.ref 0), some (.ref 39), some (.int v)], [.int (Z.2 (v + (1 : Int32)).toNatClampNeg), .ref 0], W, lg, sl)
  by_cases hgo : ∃ c, asC (l_k (a_l a)) (Z.2 (v + (1 : Int32)).toNatClampNeg) = some c
  · obtain ⟨c, hc⟩ := hgo
    refine le (A := fun r => A_behind a (Z.2 (v + (1 : Int32)).toNatClampNeg) r) hI (st_c rfl rfl rfl hf0 (Nat.le_of_ble_eq_true rfl)) rfl (Nat.le_of_ble_eq_true rfl) (fun _ => rfl) (fun rl im gs nx w h => ec_behind_A hA hc h) (fun rl im gs nx w _ _ _ _ _ _ _ _ _ _ _ hx h => ec_behind_P hA hc hx h) (fun x W' lg' sl' hx hI' => ?_)
    obtain ⟨-, f1, hf1⟩ := LI_0 hI'
    have h9' := LI_9 hI'
    refine EV.seg (c' := (670, [some (.ref 903), some (.ref 0), some (.ref 39), some (.int v)], [.ref 39, .int x], W', lg', sl')) 1 rfl trivial ?_
    refine EV.ld (k := 4) (i := v + (1 : Int32)) (pc' := 674) rfl rfl h9' h1 ?_
    show EV _ _ _ (675, [some (.ref 903), some (.ref 0), some (.ref 39), some (.int v)], [.int (Z.2 (v + (1 : Int32)).toNatClampNeg), .ref 39, .int x], W', lg', sl')
    refine lm (A := fun r => A_behind a (Z.2 (v + (1 : Int32)).toNatClampNeg) r) (b' := a) hI' (st_c rfl rfl rfl hf1 (Nat.le_of_ble_eq_true rfl)) rfl (Nat.le_of_ble_eq_true rfl) (fun _ => rfl) (fun w h => mc_behind hA h) (fun y W'' hy hI'' => ?_)
    refine EV.br (c1 := (1187, [some (.ref 903), some (.ref 0), some (.ref 39), some (.int v)], [], W'', lg', sl')) (c2 := (681, [some (.ref 903), some (.ref 0), some (.ref 39), some (.int v)], [], W'', lg', sl')) rfl (fun _ => hk _ _ _ _ hA hI'') (fun h => absurd (A_behind_un hx hy) h)
  · refine l1 (p := 0) (m := 9) (A := fun r => r = -1) (a' := a) (by omega) hI rfl rfl (fun _ _ _ _ h => h) (st_c rfl rfl rfl hf0 (Nat.le_of_ble_eq_true rfl)) rfl (Nat.le_of_ble_eq_true rfl) (fun _ => rfl) (fun rl im gs rc nx w t h => EM.mono (ec_behind_0 hA (asC_no hgo) h) (fun out e => ⟨-1, w, e, rfl, h⟩)) (fun x W' hx0 hI' => ?_)
    subst hx0
    have hx : A_behind a (Z.2 (v + (1 : Int32)).toNatClampNeg) (-1) := Or.inr ⟨asC_no hgo, rfl⟩
    obtain ⟨-, f1, hf1⟩ := LI_0 hI'
    have h9' := LI_9 hI'
    refine EV.seg (c' := (670, [some (.ref 903), some (.ref 0), some (.ref 39), some (.int v)], [.ref 39, .int (-1)], W', lg, sl)) 1 rfl trivial ?_
    refine EV.ld (k := 4) (i := v + (1 : Int32)) (pc' := 674) rfl rfl h9' h1 ?_
    show EV _ _ _ (675, [some (.ref 903), some (.ref 0), some (.ref 39), some (.int v)], [.int (Z.2 (v + (1 : Int32)).toNatClampNeg), .ref 39, .int (-1)], W', lg, sl)
    refine lm (A := fun r => A_behind a (Z.2 (v + (1 : Int32)).toNatClampNeg) r) (b' := a) hI' (st_c rfl rfl rfl hf1 (Nat.le_of_ble_eq_true rfl)) rfl (Nat.le_of_ble_eq_true rfl) (fun _ => rfl) (fun w h => mc_behind hA h) (fun y W'' hy hI'' => ?_)
    refine EV.br (c1 := (1187, [some (.ref 903), some (.ref 0), some (.ref 39), some (.int v)], [], W'', lg, sl)) (c2 := (681, [some (.ref 903), some (.ref 0), some (.ref 39), some (.int v)], [], W'', lg, sl)) rfl (fun _ => hk _ _ _ _ hA (hI''.up (by omega))) (fun h => absurd (A_behind_un hx hy) h)
set_option maxRecDepth 100000 in
theorem op_rule {v : Int32} (hA : AOk a) (hI : LI a a W lg sl n) (hk : ∀ a' W' lg' sl', AOk a' → LI a' a' W' lg' sl' (n + 1) → EV (ax_GG Z) m_L_law P (1187, [some (.ref 903), some (.ref 0), some (.ref 39), some (.int v)], [], W', lg', sl')) : EV (ax_GG Z) m_L_law P (295, [some (.ref 903), some (.ref 0), some (.ref 39), some (.int v)], [], W, lg, sl) := by
  obtain ⟨⟨f0, hf0⟩, -⟩ := LI_0 hI
  have h9 := LI_9 hI
  refine EV.seg (c' := (296, [some (.ref 903), some (.ref 0), some (.ref 39), some (.int v)], [.ref 0], W, lg, sl)) 1 rfl trivial ?_
  have h66 := hA.2.2.1
  have hC0 := hI
  obtain ⟨w, t, gs, rc, nx, hC, -⟩ := hC0
  have hv : lw_vN [.ref 0] W = if a_r a = 6 then none else some (lw_c (bl (64 + (9 + 2 * a_r a)) 2)) := by
    unfold lw_vN
    rw [lw_rms hC, jn_cln (by omega), lw_r_bl, show 73 + 2 * a_r a = 64 + (9 + 2 * a_r a) by omega]
    by_cases e : a_r a = 6
    · rw [if_pos e, if_neg (by rw [li_6, jn_lt (by omega) (by omega)]; omega)]
    · rw [if_neg e, if_pos (by rw [li_6, jn_lt (by omega) (by omega)]; omega)]
  have hs0 : ax_step (ax_GG Z) (ax_tab m_L_law) (296, [some (.ref 903), some (.ref 0), some (.ref 39), some (.int v)], [.ref 0], W, lg, sl) = some (.inr (.inr (.inr (_, [.ref 0], lw_vN [.ref 0] W, _, _, [])))) := st_c rfl rfl rfl hf0 (Nat.le_of_ble_eq_true rfl)
  rw [hv] at hs0
  by_cases h6 : a_r a = 6
  · have e : F_rule a = (-1, a) := if_pos h6
    rw [if_pos h6] at hs0
    refine lp (A := fun r => r = -1) (a' := a) hI hs0 rfl (Nat.le_of_ble_eq_true rfl) rfl rfl (fun _ _ _ _ h => h) (fun rl im gs rc nx w t h => EM.mono (ec_rule_0 hA h6 h) (fun out q => ⟨-1, w, q, rfl, h⟩)) (fun x W' hx hI' => ?_)
    subst hx
    obtain ⟨-, f1, hf1⟩ := LI_0 hI'
    have h9' := LI_9 hI'
    refine EV.seg (c' := (300, [some (.ref 903), some (.ref 0), some (.ref 39), some (.int v)], [.ref 39, .int (-1)], W', lg, sl)) 1 rfl trivial ?_
    refine lm (A := fun r => r = (F_rule a ).1) (b' := (F_rule a ).2) hI' (st_c rfl rfl rfl hf1 (Nat.le_of_ble_eq_true rfl)) rfl (Nat.le_of_ble_eq_true rfl) (fun _ => rfl) (fun w h => mc_rule hA h) (fun y W'' hy hI'' => ?_)
    have hok := F_rule_ok hA
    rw [e] at hI'' hok hy
    exact EV.br (c1 := (1187, [some (.ref 903), some (.ref 0), some (.ref 39), some (.int v)], [], W'', lg, sl)) (c2 := (306, [some (.ref 903), some (.ref 0), some (.ref 39), some (.int v)], [], W'', lg, sl)) rfl (fun _ => hk _ _ _ _ hok (hI''.up (by omega))) (fun h => absurd hy.symm h)
  · rw [if_neg h6] at hs0
    by_cases hf : p_f (told a) = 0
    · have e : F_rule a = (jn (a_r a : Int), mkR a) := by
        unfold F_rule
        rw [if_neg h6, if_neg (fun q => q hf)]; rfl
      refine ln hA h6 hf hI hs0 rfl (Nat.le_of_ble_eq_true rfl) (fun rl im gs rc nx w h => ec_rule_M hA h6 hf h) (fun W' lg' sl' hI' => ?_)
      obtain ⟨-, f1, hf1⟩ := LI_0 hI'
      have h9' := LI_9 hI'
      refine EV.seg (c' := (300, [some (.ref 903), some (.ref 0), some (.ref 39), some (.int v)], [.ref 39, .int (jn (a_r a : Int))], W', lg', sl')) 1 rfl trivial ?_
      refine lm (A := fun r => r = (F_rule a ).1) (b' := (F_rule a ).2) hI' (st_c rfl rfl rfl hf1 (Nat.le_of_ble_eq_true rfl)) rfl (Nat.le_of_ble_eq_true rfl) (fun _ => rfl) (fun w h => mc_rule hA h) (fun y W'' hy hI'' => ?_)
      have hok := F_rule_ok hA
      rw [e] at hI'' hok hy
      exact EV.br (c1 := (1187, [some (.ref 903), some (.ref 0), some (.ref 39), some (.int v)], [], W'', lg', sl')) (c2 := (306, [some (.ref 903), some (.ref 0), some (.ref 39), some (.int v)], [], W'', lg', sl')) rfl (fun _ => hk _ _ _ _ hok hI'') (fun h => absurd hy.symm h)
    · have e : F_rule a = (jn (-2 - (p_f (told a) : Int)), setT a (a_b a) 0) := by
        unfold F_rule
        rw [if_neg h6, if_pos hf]
      refine l1 (p := 9 + 2 * a_r a) (m := 2) (A := fun r => r = jn (-2 - (p_f (told a) : Int))) (a' := setT a (a_b a) 0) (by omega) hI rfl rfl (fun _ _ _ _ h => h) hs0 rfl (Nat.le_of_ble_eq_true rfl) (fun _ => rfl) (fun rl im gs rc nx w t h => EM.mono (ec_rule_F hA h6 hf h) (fun out q => by obtain ⟨w', q1, q2⟩ := q; exact ⟨_, w', q1, rfl, q2⟩)) (fun x W' hx hI' => ?_)
      subst hx
      obtain ⟨-, f1, hf1⟩ := LI_0 hI'
      have h9' := LI_9 hI'
      refine EV.seg (c' := (300, [some (.ref 903), some (.ref 0), some (.ref 39), some (.int v)], [.ref 39, .int (jn (-2 - (p_f (told a) : Int)))], W', lg, sl)) 1 rfl trivial ?_
      refine lm (A := fun r => r = (F_rule a ).1) (b' := (F_rule a ).2) hI' (st_c rfl rfl rfl hf1 (Nat.le_of_ble_eq_true rfl)) rfl (Nat.le_of_ble_eq_true rfl) (fun _ => rfl) (fun w h => mc_rule hA h) (fun y W'' hy hI'' => ?_)
      have hok := F_rule_ok hA
      rw [e] at hI'' hok hy
      exact EV.br (c1 := (1187, [some (.ref 903), some (.ref 0), some (.ref 39), some (.int v)], [], W'', lg, sl)) (c2 := (306, [some (.ref 903), some (.ref 0), some (.ref 39), some (.int v)], [], W'', lg, sl)) rfl (fun _ => hk _ _ _ _ hok (hI''.up (by omega))) (fun h => absurd hy.symm h)
set_option maxRecDepth 100000 in
theorem op_image {v : Int32} (h1 : vp_in (v + (1 : Int32)) Z.1) (hA : AOk a) (hI : LI a a W lg sl n) (hk : ∀ a' W' lg' sl', AOk a' → LI a' a' W' lg' sl' (n + 1) → EV (ax_GG Z) m_L_law P (1187, [some (.ref 903), some (.ref 0), some (.ref 39), some (.int v)], [], W', lg', sl')) : EV (ax_GG Z) m_L_law P (1141, [some (.ref 903), some (.ref 0), some (.ref 39), some (.int v)], [], W, lg, sl) := by
  obtain ⟨⟨f0, hf0⟩, -⟩ := LI_0 hI
  have h9 := LI_9 hI
  refine EV.seg (c' := (1142, [some (.ref 903), some (.ref 0), some (.ref 39), some (.int v)], [.ref 0], W, lg, sl)) 1 rfl trivial ?_
  refine EV.ld (k := 4) (i := v + (1 : Int32)) (pc' := 1146) rfl rfl h9 h1 ?_
  show EV _ _ _ (1147, [some (.ref 903), some (.ref 0), some (.ref 39), some (.int v)], [.int (Z.2 (v + (1 : Int32)).toNatClampNeg), .ref 0], W, lg, sl)
  have hs0 : ax_step (ax_GG Z) (ax_tab m_L_law) (1147, [some (.ref 903), some (.ref 0), some (.ref 39), some (.int v)], [.int (Z.2 (v + (1 : Int32)).toNatClampNeg), .ref 0], W, lg, sl) = some (.inr (.inr (.inr (_, .ref 0 :: [.int (Z.2 (v + (1 : Int32)).toNatClampNeg)], lw_vI [.int (Z.2 (v + (1 : Int32)).toNatClampNeg), .ref 0] W, _, _, [])))) := st_c rfl rfl rfl hf0 (Nat.le_of_ble_eq_true rfl)
  by_cases hgo : 0 ≤ (Z.2 (v + (1 : Int32)).toNatClampNeg).toInt ∧ (Z.2 (v + (1 : Int32)).toNatClampNeg).toInt ≤ 3
  · obtain ⟨k, hb, hb2⟩ := int_nat hgo.1
    have hv : lw_vI [.int (Z.2 (v + (1 : Int32)).toNatClampNeg), .ref 0] W = some (lw_c (bl (64 + (21 + 13 * k)) 13)) := by
      show (if 0 ≤ (Z.2 (v + (1 : Int32)).toNatClampNeg) ∧ (Z.2 (v + (1 : Int32)).toNatClampNeg) < 4 then some (lw_c (lw_j (Z.2 (v + (1 : Int32)).toNatClampNeg).toNatClampNeg)) else none) = _
      rw [hb, if_pos ⟨by rw [li_0, jn_le (by omega) (by omega)]; omega, by rw [li_4, jn_lt (by omega) (by omega)]; omega⟩, jn_cln (by omega), lw_j_bl, show 85 + 13 * k = 64 + (21 + 13 * k) by omega]
    rw [hv] at hs0
    have e : F_image a (Z.2 (v + (1 : Int32)).toNatClampNeg) = (jn (g_t (a_g a) : Int), mkI a k) := by
      unfold F_image
      rw [if_pos hgo, hb2, Int.toNat_natCast]; rfl
    refine li (k := k) (x := jn (g_t (a_g a) : Int)) (by omega) hI hs0 rfl (Nat.le_of_ble_eq_true rfl) (fun _ => rfl) (fun rl im gs rc nx w hi h => by rw [hb]; exact ec_image_A hA (by omega) hi h) (fun rl im gs rc nx w _ _ _ _ _ _ _ _ _ _ _ _ _ _ _ _ hi h => by rw [hb]; exact ec_image_P hA (by omega) hi h) (fun W' lg' sl' hI' => ?_)
    obtain ⟨-, f1, hf1⟩ := LI_0 hI'
    have h9' := LI_9 hI'
    refine EV.seg (c' := (1151, [some (.ref 903), some (.ref 0), some (.ref 39), some (.int v)], [.ref 39, .int (jn (g_t (a_g a) : Int))], W', lg', sl')) 1 rfl trivial ?_
    refine EV.ld (k := 4) (i := v + (1 : Int32)) (pc' := 1155) rfl rfl h9' h1 ?_
    show EV _ _ _ (1156, [some (.ref 903), some (.ref 0), some (.ref 39), some (.int v)], [.int (Z.2 (v + (1 : Int32)).toNatClampNeg), .ref 39, .int (jn (g_t (a_g a) : Int))], W', lg', sl')
    refine lm (A := fun r => r = (F_image a (Z.2 (v + (1 : Int32)).toNatClampNeg)).1) (b' := (F_image a (Z.2 (v + (1 : Int32)).toNatClampNeg)).2) hI' (st_c rfl rfl rfl hf1 (Nat.le_of_ble_eq_true rfl)) rfl (Nat.le_of_ble_eq_true rfl) (fun _ => rfl) (fun w h => mc_image hA h) (fun y W'' hy hI'' => ?_)
    have hok := F_image_ok (x := (Z.2 (v + (1 : Int32)).toNatClampNeg)) hA
    rw [e] at hI'' hok hy
    exact EV.br (c1 := (1187, [some (.ref 903), some (.ref 0), some (.ref 39), some (.int v)], [], W'', lg', sl')) (c2 := (1162, [some (.ref 903), some (.ref 0), some (.ref 39), some (.int v)], [], W'', lg', sl')) rfl (fun _ => hk _ _ _ _ hok hI'') (fun h => absurd hy.symm h)
  · have e : F_image a (Z.2 (v + (1 : Int32)).toNatClampNeg) = (-1, a) := if_neg hgo
    have hv : lw_vI [.int (Z.2 (v + (1 : Int32)).toNatClampNeg), .ref 0] W = none := by
      obtain ⟨y, hy, hyb⟩ := jn_of (Z.2 (v + (1 : Int32)).toNatClampNeg)
      show (if 0 ≤ (Z.2 (v + (1 : Int32)).toNatClampNeg) ∧ (Z.2 (v + (1 : Int32)).toNatClampNeg) < 4 then some (lw_c (lw_j (Z.2 (v + (1 : Int32)).toNatClampNeg).toNatClampNeg)) else none) = _
      rw [hy, jn_toInt hyb] at hgo
      rw [hy, li_0, li_4]
      exact if_neg (fun h => by rw [jn_le (by omega) hyb, jn_lt hyb (by omega)] at h; omega)
    rw [hv] at hs0
    refine lp (A := fun r => r = -1) (a' := a) hI hs0 rfl (Nat.le_of_ble_eq_true rfl) rfl rfl (fun _ _ _ _ h => h) (fun rl im gs rc nx w t h => EM.mono (ec_image_0 hA hgo h) (fun out q => ⟨-1, w, q, rfl, h⟩)) (fun x W' hx hI' => ?_)
    subst hx
    obtain ⟨-, f1, hf1⟩ := LI_0 hI'
    have h9' := LI_9 hI'
    refine EV.seg (c' := (1151, [some (.ref 903), some (.ref 0), some (.ref 39), some (.int v)], [.ref 39, .int (-1)], W', lg, sl)) 1 rfl trivial ?_
    refine EV.ld (k := 4) (i := v + (1 : Int32)) (pc' := 1155) rfl rfl h9' h1 ?_
    show EV _ _ _ (1156, [some (.ref 903), some (.ref 0), some (.ref 39), some (.int v)], [.int (Z.2 (v + (1 : Int32)).toNatClampNeg), .ref 39, .int (-1)], W', lg, sl)
    refine lm (A := fun r => r = (F_image a (Z.2 (v + (1 : Int32)).toNatClampNeg)).1) (b' := (F_image a (Z.2 (v + (1 : Int32)).toNatClampNeg)).2) hI' (st_c rfl rfl rfl hf1 (Nat.le_of_ble_eq_true rfl)) rfl (Nat.le_of_ble_eq_true rfl) (fun _ => rfl) (fun w h => mc_image hA h) (fun y W'' hy hI'' => ?_)
    have hok := F_image_ok (x := (Z.2 (v + (1 : Int32)).toNatClampNeg)) hA
    rw [e] at hI'' hok hy
    exact EV.br (c1 := (1187, [some (.ref 903), some (.ref 0), some (.ref 39), some (.int v)], [], W'', lg, sl)) (c2 := (1162, [some (.ref 903), some (.ref 0), some (.ref 39), some (.int v)], [], W'', lg, sl)) rfl (fun _ => hk _ _ _ _ hok (hI''.up (by omega))) (fun h => absurd hy.symm h)
set_option maxRecDepth 100000 in
theorem op_back {v : Int32} (h1 : vp_in (v + (1 : Int32)) Z.1) (hA : AOk a) (hI : LI a a W lg sl n) (hk : ∀ a' W' lg' sl', AOk a' → LI a' a' W' lg' sl' (n + 1) → EV (ax_GG Z) m_L_law P (1187, [some (.ref 903), some (.ref 0), some (.ref 39), some (.int v)], [], W', lg', sl')) : EV (ax_GG Z) m_L_law P (1164, [some (.ref 903), some (.ref 0), some (.ref 39), some (.int v)], [], W, lg, sl) := by
  obtain ⟨⟨f0, hf0⟩, -⟩ := LI_0 hI
  have h9 := LI_9 hI
  refine EV.seg (c' := (1165, [some (.ref 903), some (.ref 0), some (.ref 39), some (.int v)], [.ref 0], W, lg, sl)) 1 rfl trivial ?_
  refine EV.ld (k := 4) (i := v + (1 : Int32)) (pc' := 1169) rfl rfl h9 h1 ?_
  show EV _ _ _ (1170, [some (.ref 903), some (.ref 0), some (.ref 39), some (.int v)], [.int (Z.2 (v + (1 : Int32)).toNatClampNeg), .ref 0], W, lg, sl)
  have hs0 : ax_step (ax_GG Z) (ax_tab m_L_law) (1170, [some (.ref 903), some (.ref 0), some (.ref 39), some (.int v)], [.int (Z.2 (v + (1 : Int32)).toNatClampNeg), .ref 0], W, lg, sl) = some (.inr (.inr (.inr (_, .ref 0 :: [.int (Z.2 (v + (1 : Int32)).toNatClampNeg)], lw_vI [.int (Z.2 (v + (1 : Int32)).toNatClampNeg), .ref 0] W, _, _, [])))) := st_c rfl rfl rfl hf0 (Nat.le_of_ble_eq_true rfl)
  by_cases hgo : 0 ≤ (Z.2 (v + (1 : Int32)).toNatClampNeg).toInt ∧ (Z.2 (v + (1 : Int32)).toNatClampNeg).toInt ≤ 3
  · obtain ⟨k, hb, hb2⟩ := int_nat hgo.1
    have hv : lw_vI [.int (Z.2 (v + (1 : Int32)).toNatClampNeg), .ref 0] W = some (lw_c (bl (64 + (21 + 13 * k)) 13)) := by
      show (if 0 ≤ (Z.2 (v + (1 : Int32)).toNatClampNeg) ∧ (Z.2 (v + (1 : Int32)).toNatClampNeg) < 4 then some (lw_c (lw_j (Z.2 (v + (1 : Int32)).toNatClampNeg).toNatClampNeg)) else none) = _
      rw [hb, if_pos ⟨by rw [li_0, jn_le (by omega) (by omega)]; omega, by rw [li_4, jn_lt (by omega) (by omega)]; omega⟩, jn_cln (by omega), lw_j_bl, show 85 + 13 * k = 64 + (21 + 13 * k) by omega]
    rw [hv] at hs0
    cases hi : a_i a k with
    | none =>
      have e : F_back a (Z.2 (v + (1 : Int32)).toNatClampNeg) = (-1, a) := by
        unfold F_back
        rw [if_pos hgo, hb2, Int.toNat_natCast, hi]
      have hC0 := hI
      obtain ⟨w, t, gs, rc, nx, hC, hM, hT, hG, g1, g2⟩ := hC0
      refine lw_keep (A := fun r => r = -1) (a' := a) hs0 rfl (Nat.le_of_ble_eq_true rfl) (fun _ => rfl) (by omega) hC (MR_len hM) hT.1 (fun w0 h0 => EM.mono (ec_back_0 hA (fun q hq hq2 => ?_) h0) (fun out q => ⟨-1, w0, q, rfl, h0⟩)) (fun x W' hx hC' => ?_)
      · rw [hb, jn_eq (by omega) (by omega)] at hq2
        rw [show q = k by omega]
        exact rn_no (IM_no hi)
      · subst hx
        have hI' : LI a a W' lg sl n := ⟨w, t, gs, rc, nx, hC', hM, hT, hG, g1, g2⟩
        obtain ⟨-, f1, hf1⟩ := LI_0 hI'
        have h9' := LI_9 hI'
        refine EV.seg (c' := (1174, [some (.ref 903), some (.ref 0), some (.ref 39), some (.int v)], [.ref 39, .int (-1)], W', lg, sl)) 1 rfl trivial ?_
        refine EV.ld (k := 4) (i := v + (1 : Int32)) (pc' := 1178) rfl rfl h9' h1 ?_
        show EV _ _ _ (1179, [some (.ref 903), some (.ref 0), some (.ref 39), some (.int v)], [.int (Z.2 (v + (1 : Int32)).toNatClampNeg), .ref 39, .int (-1)], W', lg, sl)
        refine lm (A := fun r => r = (F_back a (Z.2 (v + (1 : Int32)).toNatClampNeg)).1) (b' := (F_back a (Z.2 (v + (1 : Int32)).toNatClampNeg)).2) hI' (st_c rfl rfl rfl hf1 (Nat.le_of_ble_eq_true rfl)) rfl (Nat.le_of_ble_eq_true rfl) (fun _ => rfl) (fun w h => mc_back hA h) (fun y W'' hy hI'' => ?_)
        have hok := F_back_ok (x := (Z.2 (v + (1 : Int32)).toNatClampNeg)) hA
        rw [e] at hI'' hok hy
        exact EV.br (c1 := (1187, [some (.ref 903), some (.ref 0), some (.ref 39), some (.int v)], [], W'', lg, sl)) (c2 := (1185, [some (.ref 903), some (.ref 0), some (.ref 39), some (.int v)], [], W'', lg, sl)) rfl (fun _ => hk _ _ _ _ hok (hI''.up (by omega))) (fun h => absurd hy.symm h)
    | some σ =>
      have e : F_back a (Z.2 (v + (1 : Int32)).toNatClampNeg) = (jn (g_t (s_g σ) : Int), setP (setS a σ) (a_p a) 0) := by
        unfold F_back
        rw [if_pos hgo, hb2, Int.toNat_natCast, hi]
      refine lbk (k := k) (x := jn (g_t (s_g σ) : Int)) (by omega) hi hI hs0 rfl (Nat.le_of_ble_eq_true rfl) (fun _ => rfl) (fun rl im gs rc nx w _ _ _ _ _ _ _ _ _ _ _ _ _ _ _ _ hi2 hS h => by rw [hb]; exact ec_back_P hA (by omega) hi2 (hA.2.2.2.2.2.2.2 k (by omega) σ hi) hS h) (fun W' hI' => ?_)
      obtain ⟨-, f1, hf1⟩ := LI_0 hI'
      have h9' := LI_9 hI'
      refine EV.seg (c' := (1174, [some (.ref 903), some (.ref 0), some (.ref 39), some (.int v)], [.ref 39, .int (jn (g_t (s_g σ) : Int))], W', lg, sl)) 1 rfl trivial ?_
      refine EV.ld (k := 4) (i := v + (1 : Int32)) (pc' := 1178) rfl rfl h9' h1 ?_
      show EV _ _ _ (1179, [some (.ref 903), some (.ref 0), some (.ref 39), some (.int v)], [.int (Z.2 (v + (1 : Int32)).toNatClampNeg), .ref 39, .int (jn (g_t (s_g σ) : Int))], W', lg, sl)
      refine lm (A := fun r => r = (F_back a (Z.2 (v + (1 : Int32)).toNatClampNeg)).1) (b' := (F_back a (Z.2 (v + (1 : Int32)).toNatClampNeg)).2) hI' (st_c rfl rfl rfl hf1 (Nat.le_of_ble_eq_true rfl)) rfl (Nat.le_of_ble_eq_true rfl) (fun _ => rfl) (fun w h => mc_back hA h) (fun y W'' hy hI'' => ?_)
      have hok := F_back_ok (x := (Z.2 (v + (1 : Int32)).toNatClampNeg)) hA
      rw [e] at hI'' hok hy
      exact EV.br (c1 := (1187, [some (.ref 903), some (.ref 0), some (.ref 39), some (.int v)], [], W'', lg, sl)) (c2 := (1185, [some (.ref 903), some (.ref 0), some (.ref 39), some (.int v)], [], W'', lg, sl)) rfl (fun _ => hk _ _ _ _ hok (hI''.up (by omega))) (fun h => absurd hy.symm h)
  · have e : F_back a (Z.2 (v + (1 : Int32)).toNatClampNeg) = (-1, a) := if_neg hgo
    have hv : lw_vI [.int (Z.2 (v + (1 : Int32)).toNatClampNeg), .ref 0] W = none := by
      obtain ⟨y, hy, hyb⟩ := jn_of (Z.2 (v + (1 : Int32)).toNatClampNeg)
      show (if 0 ≤ (Z.2 (v + (1 : Int32)).toNatClampNeg) ∧ (Z.2 (v + (1 : Int32)).toNatClampNeg) < 4 then some (lw_c (lw_j (Z.2 (v + (1 : Int32)).toNatClampNeg).toNatClampNeg)) else none) = _
      rw [hy, jn_toInt hyb] at hgo
      rw [hy, li_0, li_4]
      exact if_neg (fun h => by rw [jn_le (by omega) hyb, jn_lt hyb (by omega)] at h; omega)
    rw [hv] at hs0
    refine lp (A := fun r => r = -1) (a' := a) hI hs0 rfl (Nat.le_of_ble_eq_true rfl) rfl rfl (fun _ _ _ _ h => h) (fun rl im gs rc nx w t h => EM.mono (ec_back_0 hA (fun q hq hq2 => absurd ⟨by rw [hq2, jn_toInt (by omega)]; omega, by rw [hq2, jn_toInt (by omega)]; omega⟩ hgo) h) (fun out q => ⟨-1, w, q, rfl, h⟩)) (fun x W' hx hI' => ?_)
    subst hx
    obtain ⟨-, f1, hf1⟩ := LI_0 hI'
    have h9' := LI_9 hI'
    refine EV.seg (c' := (1174, [some (.ref 903), some (.ref 0), some (.ref 39), some (.int v)], [.ref 39, .int (-1)], W', lg, sl)) 1 rfl trivial ?_
    refine EV.ld (k := 4) (i := v + (1 : Int32)) (pc' := 1178) rfl rfl h9' h1 ?_
    show EV _ _ _ (1179, [some (.ref 903), some (.ref 0), some (.ref 39), some (.int v)], [.int (Z.2 (v + (1 : Int32)).toNatClampNeg), .ref 39, .int (-1)], W', lg, sl)
    refine lm (A := fun r => r = (F_back a (Z.2 (v + (1 : Int32)).toNatClampNeg)).1) (b' := (F_back a (Z.2 (v + (1 : Int32)).toNatClampNeg)).2) hI' (st_c rfl rfl rfl hf1 (Nat.le_of_ble_eq_true rfl)) rfl (Nat.le_of_ble_eq_true rfl) (fun _ => rfl) (fun w h => mc_back hA h) (fun y W'' hy hI'' => ?_)
    have hok := F_back_ok (x := (Z.2 (v + (1 : Int32)).toNatClampNeg)) hA
    rw [e] at hI'' hok hy
    exact EV.br (c1 := (1187, [some (.ref 903), some (.ref 0), some (.ref 39), some (.int v)], [], W'', lg, sl)) (c2 := (1185, [some (.ref 903), some (.ref 0), some (.ref 39), some (.int v)], [], W'', lg, sl)) rfl (fun _ => hk _ _ _ _ hok (hI''.up (by omega))) (fun h => absurd hy.symm h)
end LOR
