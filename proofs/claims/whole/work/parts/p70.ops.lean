/-! the law: one lemma an opcode -/
section LOP
variable {Z : Nat × (Nat → Int32)} {a : aS} {W : ax_W} {lg : List Nat} {sl n : Nat} {P : ax_E → Prop}
theorem A_sources_un {r r' : Int32} (h : A_sources a r) (h' : A_sources a r') : r = r' := by
  unfold A_sources at h h'
  rw [h, h']
theorem A_stuck_un {r r' : Int32} (h : A_stuck a r) (h' : A_stuck a r') : r = r' := by
  unfold A_stuck at h h'
  rw [h, h']
theorem LI_9 {b : aS} (h : LI a b W lg sl n) : ax_nth W 903 = none := by
  obtain ⟨w, t, gs, rc, nx, hC, hM, hT, -⟩ := h
  have h1 := W_len hC (MR_len hM)
  have h2 := hT.1
  cases h3 : ax_nth W 903 with
  | none => rfl
  | some e =>
    have := ax_nth_lt h3
    omega
theorem st_c {G : ax_G} {M : ax_M} {pc y i c0 j d : Nat} {s0 : Int32} {cv : Int32} {cl : Int64} {sws : List (Int32 × Nat)} {isf : List Value → ax_W → Option (List Nat)} {is' : Option (List Nat)} {ls : ax_L} {st As r fs : List Value} (hrow : ax_nth (ax_tab M) pc = some (.invokevirtual i, 3, j, d, 0, cv, cl, (s0, c0) :: sws, isf, none)) (hpop : ax_pop d st [] = some (.ref y :: As, r)) (his : isf st W = is') (hy : ax_nth W y = some (.inr (c0, fs))) (hcs : ax_cs r ≤ 8) : ax_step G (ax_tab M) (pc, ls, st, W, lg, sl) = some (.inr (.inr (.inr (j, .ref y :: As, is', pc + 3, ls, r)))) := by
  subst his
  exact st_call hrow hpop hy hcs
theorem EV.one {G : ax_G} {M : ax_M} {c c' : ax_C} {Q : Prop} (h : ax_step G (ax_tab M) c = some (.inl (some Q, c'))) (hQ : Q) (hE : EV G M P c') : EV G M P c := by
  obtain ⟨n, out, h1, h2⟩ := hE
  refine ⟨n + 1, out, ?_, h2⟩
  unfold ax_run
  rw [h]
  dsimp only
  rw [if_pos (show ax_ok (some Q) from hQ)]
  exact h1
theorem EV.nil {G : ax_G} {M : ax_M} {c c' : ax_C} (h : ax_step G (ax_tab M) c = some (.inl (none, c'))) (hE : EV G M P c') : EV G M P c := by
  obtain ⟨n, out, h1, h2⟩ := hE
  refine ⟨n + 1, out, ?_, h2⟩
  unfold ax_run
  rw [h]
  dsimp only
  rw [if_pos (show ax_ok none from trivial)]
  exact h1
theorem EV.ld {pc pc' k x1 x2 x3 : Nat} {x4 : Int32} {x5 : Int64} {x6 : List (Int32 × Nat)} {x7 : List Value → ax_W → Option (List Nat)} {ls : ax_L} {st : List Value} {i : Int32} (hs : ax_segs (ax_GG Z) (ax_tab m_L_law) k (pc, ls, st, W, lg, sl) = some ([], (pc', ls, .int i :: .ref 903 :: st, W, lg, sl))) (hrow : ax_nth (ax_tab m_L_law) pc' = some (.iaload, 1, x1, x2, x3, x4, x5, x6, x7, none)) (h9 : ax_nth W 903 = none) (hi : vp_in i Z.1) (hE : EV (ax_GG Z) m_L_law P (pc' + 1, ls, .int (Z.2 i.toNatClampNeg) :: st, W, lg, sl)) : EV (ax_GG Z) m_L_law P (pc, ls, st, W, lg, sl) := by
  refine EV.seg k hs trivial (EV.one (c' := (pc' + 1, ls, .int (Z.2 i.toNatClampNeg) :: st, W, lg, sl)) (Q := vp_in i Z.1) ?_ hi hE)
  unfold ax_step
  simp only [hrow, ax_keep]
  unfold ax_do
  simp only [h9]
  rfl
theorem EV.len {pc pc' k x1 x2 x3 : Nat} {x4 : Int32} {x5 : Int64} {x6 : List (Int32 × Nat)} {x7 : List Value → ax_W → Option (List Nat)} {ls : ax_L} {st st' : List Value} (hs : ax_segs (ax_GG Z) (ax_tab m_L_law) k (pc, ls, st, W, lg, sl) = some ([], (pc', ls, .ref 903 :: st', W, lg, sl))) (hrow : ax_nth (ax_tab m_L_law) pc' = some (.arraylength, 1, x1, x2, x3, x4, x5, x6, x7, none)) (h9 : ax_nth W 903 = none) (hE : EV (ax_GG Z) m_L_law P (pc' + 1, ls, .int (Int32.ofNat Z.1) :: st', W, lg, sl)) : EV (ax_GG Z) m_L_law P (pc, ls, st, W, lg, sl) := by
  refine EV.seg k hs trivial (EV.nil (c' := (pc' + 1, ls, .int (Int32.ofNat Z.1) :: st', W, lg, sl)) ?_ hE)
  unfold ax_step
  simp only [hrow, ax_keep]
  unfold ax_do
  simp only [h9]
  rfl
set_option maxRecDepth 100000 in
theorem op_feed {v : Int32} (h1 : vp_in (v + (1 : Int32)) Z.1) (h2 : vp_in (v + (2 : Int32)) Z.1) (h3 : vp_in (v + (3 : Int32)) Z.1) (h4 : vp_in (v + (4 : Int32)) Z.1) (h5 : vp_in (v + (5 : Int32)) Z.1) (hA : AOk a) (hI : LI a a W lg sl n) (hk : ∀ a' W' lg' sl', AOk a' → LI a' a' W' lg' sl' (n + 1) → EV (ax_GG Z) m_L_law P (1187, [some (.ref 903), some (.ref 0), some (.ref 39), some (.int v)], [], W', lg', sl')) : EV (ax_GG Z) m_L_law P (196, [some (.ref 903), some (.ref 0), some (.ref 39), some (.int v)], [], W, lg, sl) := by
  obtain ⟨⟨f0, hf0⟩, -⟩ := LI_0 hI
  have h9 := LI_9 hI
  refine EV.seg (c' := (197, [some (.ref 903), some (.ref 0), some (.ref 39), some (.int v)], [.ref 0], W, lg, sl)) 1 rfl trivial ?_
  refine EV.ld (k := 4) (i := v + (1 : Int32)) (pc' := 201) rfl rfl h9 h1 ?_
  refine EV.ld (k := 4) (i := v + (2 : Int32)) (pc' := 206) rfl rfl h9 h2 ?_
  refine EV.ld (k := 4) (i := v + (3 : Int32)) (pc' := 211) rfl rfl h9 h3 ?_
  refine EV.ld (k := 4) (i := v + (4 : Int32)) (pc' := 216) rfl rfl h9 h4 ?_
  refine EV.ld (k := 4) (i := v + (5 : Int32)) (pc' := 221) rfl rfl h9 h5 ?_
  show EV _ _ _ (222, [some (.ref 903), some (.ref 0), some (.ref 39), some (.int v)], [.int (Z.2 (v + (5 : Int32)).toNatClampNeg), .int (Z.2 (v + (4 : Int32)).toNatClampNeg), .int (Z.2 (v + (3 : Int32)).toNatClampNeg), .int (Z.2 (v + (2 : Int32)).toNatClampNeg), .int (Z.2 (v + (1 : Int32)).toNatClampNeg), .ref 0], W, lg, sl)
  refine lp (A := fun r => r = (F_feed a (Z.2 (v + (1 : Int32)).toNatClampNeg) (Z.2 (v + (2 : Int32)).toNatClampNeg) (Z.2 (v + (3 : Int32)).toNatClampNeg) (Z.2 (v + (4 : Int32)).toNatClampNeg) (Z.2 (v + (5 : Int32)).toNatClampNeg)).1) (a' := (F_feed a (Z.2 (v + (1 : Int32)).toNatClampNeg) (Z.2 (v + (2 : Int32)).toNatClampNeg) (Z.2 (v + (3 : Int32)).toNatClampNeg) (Z.2 (v + (4 : Int32)).toNatClampNeg) (Z.2 (v + (5 : Int32)).toNatClampNeg)).2) hI (st_c rfl rfl rfl hf0 (Nat.le_of_ble_eq_true rfl)) rfl (Nat.le_of_ble_eq_true rfl) fs_feed.1 fs_feed.2.1 fs_feed.2.2 (fun rl im gs rc nx w t h => ec_feed hA h) (fun x W' hx hI' => ?_)
  obtain ⟨-, f1, hf1⟩ := LI_0 hI'
  have h9' := LI_9 hI'
  refine EV.seg (c' := (226, [some (.ref 903), some (.ref 0), some (.ref 39), some (.int v)], [.ref 39, .int x], W', lg, sl)) 1 rfl trivial ?_
  refine EV.ld (k := 4) (i := v + (1 : Int32)) (pc' := 230) rfl rfl h9' h1 ?_
  refine EV.ld (k := 4) (i := v + (2 : Int32)) (pc' := 235) rfl rfl h9' h2 ?_
  refine EV.ld (k := 4) (i := v + (3 : Int32)) (pc' := 240) rfl rfl h9' h3 ?_
  refine EV.ld (k := 4) (i := v + (4 : Int32)) (pc' := 245) rfl rfl h9' h4 ?_
  refine EV.ld (k := 4) (i := v + (5 : Int32)) (pc' := 250) rfl rfl h9' h5 ?_
  show EV _ _ _ (251, [some (.ref 903), some (.ref 0), some (.ref 39), some (.int v)], [.int (Z.2 (v + (5 : Int32)).toNatClampNeg), .int (Z.2 (v + (4 : Int32)).toNatClampNeg), .int (Z.2 (v + (3 : Int32)).toNatClampNeg), .int (Z.2 (v + (2 : Int32)).toNatClampNeg), .int (Z.2 (v + (1 : Int32)).toNatClampNeg), .ref 39, .int x], W', lg, sl)
  refine lm (A := fun r => r = (F_feed a (Z.2 (v + (1 : Int32)).toNatClampNeg) (Z.2 (v + (2 : Int32)).toNatClampNeg) (Z.2 (v + (3 : Int32)).toNatClampNeg) (Z.2 (v + (4 : Int32)).toNatClampNeg) (Z.2 (v + (5 : Int32)).toNatClampNeg)).1) (b' := (F_feed a (Z.2 (v + (1 : Int32)).toNatClampNeg) (Z.2 (v + (2 : Int32)).toNatClampNeg) (Z.2 (v + (3 : Int32)).toNatClampNeg) (Z.2 (v + (4 : Int32)).toNatClampNeg) (Z.2 (v + (5 : Int32)).toNatClampNeg)).2) hI' (st_c rfl rfl rfl hf1 (Nat.le_of_ble_eq_true rfl)) rfl (Nat.le_of_ble_eq_true rfl) (fun _ => rfl) (fun w h => mc_feed hA h) (fun y W'' hy hI'' => ?_)
  refine EV.br (c1 := (1187, [some (.ref 903), some (.ref 0), some (.ref 39), some (.int v)], [], W'', lg, sl)) (c2 := (257, [some (.ref 903), some (.ref 0), some (.ref 39), some (.int v)], [], W'', lg, sl)) rfl (fun _ => hk _ _ _ _ (F_feed_ok hA) (hI''.up (by omega))) (fun h => absurd (hx.trans hy.symm) h)
set_option maxRecDepth 100000 in
theorem op_end {v : Int32} (h1 : vp_in (v + (1 : Int32)) Z.1) (hA : AOk a) (hI : LI a a W lg sl n) (hk : ∀ a' W' lg' sl', AOk a' → LI a' a' W' lg' sl' (n + 1) → EV (ax_GG Z) m_L_law P (1187, [some (.ref 903), some (.ref 0), some (.ref 39), some (.int v)], [], W', lg', sl')) : EV (ax_GG Z) m_L_law P (259, [some (.ref 903), some (.ref 0), some (.ref 39), some (.int v)], [], W, lg, sl) := by
  obtain ⟨⟨f0, hf0⟩, -⟩ := LI_0 hI
  have h9 := LI_9 hI
  refine EV.seg (c' := (260, [some (.ref 903), some (.ref 0), some (.ref 39), some (.int v)], [.ref 0], W, lg, sl)) 1 rfl trivial ?_
  refine EV.ld (k := 4) (i := v + (1 : Int32)) (pc' := 264) rfl rfl h9 h1 ?_
  show EV _ _ _ (265, [some (.ref 903), some (.ref 0), some (.ref 39), some (.int v)], [.int (Z.2 (v + (1 : Int32)).toNatClampNeg), .ref 0], W, lg, sl)
  refine lp (A := fun r => r = (F_end a (Z.2 (v + (1 : Int32)).toNatClampNeg)).1) (a' := (F_end a (Z.2 (v + (1 : Int32)).toNatClampNeg)).2) hI (st_c rfl rfl rfl hf0 (Nat.le_of_ble_eq_true rfl)) rfl (Nat.le_of_ble_eq_true rfl) fs_end.1 fs_end.2.1 fs_end.2.2 (fun rl im gs rc nx w t h => ec_end hA h) (fun x W' hx hI' => ?_)
  obtain ⟨-, f1, hf1⟩ := LI_0 hI'
  have h9' := LI_9 hI'
  refine EV.seg (c' := (269, [some (.ref 903), some (.ref 0), some (.ref 39), some (.int v)], [.ref 39, .int x], W', lg, sl)) 1 rfl trivial ?_
  refine EV.ld (k := 4) (i := v + (1 : Int32)) (pc' := 273) rfl rfl h9' h1 ?_
  show EV _ _ _ (274, [some (.ref 903), some (.ref 0), some (.ref 39), some (.int v)], [.int (Z.2 (v + (1 : Int32)).toNatClampNeg), .ref 39, .int x], W', lg, sl)
  refine lm (A := fun r => r = (F_end a (Z.2 (v + (1 : Int32)).toNatClampNeg)).1) (b' := (F_end a (Z.2 (v + (1 : Int32)).toNatClampNeg)).2) hI' (st_c rfl rfl rfl hf1 (Nat.le_of_ble_eq_true rfl)) rfl (Nat.le_of_ble_eq_true rfl) (fun _ => rfl) (fun w h => mc_end hA h) (fun y W'' hy hI'' => ?_)
  refine EV.br (c1 := (1187, [some (.ref 903), some (.ref 0), some (.ref 39), some (.int v)], [], W'', lg, sl)) (c2 := (280, [some (.ref 903), some (.ref 0), some (.ref 39), some (.int v)], [], W'', lg, sl)) rfl (fun _ => hk _ _ _ _ (F_end_ok hA) (hI''.up (by omega))) (fun h => absurd (hx.trans hy.symm) h)
set_option maxRecDepth 100000 in
theorem op_lane {v : Int32} (hA : AOk a) (hI : LI a a W lg sl n) (hk : ∀ a' W' lg' sl', AOk a' → LI a' a' W' lg' sl' (n + 1) → EV (ax_GG Z) m_L_law P (1187, [some (.ref 903), some (.ref 0), some (.ref 39), some (.int v)], [], W', lg', sl')) : EV (ax_GG Z) m_L_law P (282, [some (.ref 903), some (.ref 0), some (.ref 39), some (.int v)], [], W, lg, sl) := by
  obtain ⟨⟨f0, hf0⟩, -⟩ := LI_0 hI
  have h9 := LI_9 hI
  refine EV.seg (c' := (283, [some (.ref 903), some (.ref 0), some (.ref 39), some (.int v)], [.ref 0], W, lg, sl)) 1 rfl trivial ?_
  refine lp (A := fun r => r = (F_lane a ).1) (a' := (F_lane a ).2) hI (st_c rfl rfl rfl hf0 (Nat.le_of_ble_eq_true rfl)) rfl (Nat.le_of_ble_eq_true rfl) fs_lane.1 fs_lane.2.1 fs_lane.2.2 (fun rl im gs rc nx w t h => ec_lane hA h) (fun x W' hx hI' => ?_)
  obtain ⟨-, f1, hf1⟩ := LI_0 hI'
  have h9' := LI_9 hI'
  refine EV.seg (c' := (287, [some (.ref 903), some (.ref 0), some (.ref 39), some (.int v)], [.ref 39, .int x], W', lg, sl)) 1 rfl trivial ?_
  refine lm (A := fun r => r = (F_lane a ).1) (b' := (F_lane a ).2) hI' (st_c rfl rfl rfl hf1 (Nat.le_of_ble_eq_true rfl)) rfl (Nat.le_of_ble_eq_true rfl) (fun _ => rfl) (fun w h => mc_lane hA h) (fun y W'' hy hI'' => ?_)
  refine EV.br (c1 := (1187, [some (.ref 903), some (.ref 0), some (.ref 39), some (.int v)], [], W'', lg, sl)) (c2 := (293, [some (.ref 903), some (.ref 0), some (.ref 39), some (.int v)], [], W'', lg, sl)) rfl (fun _ => hk _ _ _ _ (F_lane_ok hA) (hI''.up (by omega))) (fun h => absurd (hx.trans hy.symm) h)
set_option maxRecDepth 100000 in
theorem op_force {v : Int32} (h1 : vp_in (v + (1 : Int32)) Z.1) (hA : AOk a) (hI : LI a a W lg sl n) (hk : ∀ a' W' lg' sl', AOk a' → LI a' a' W' lg' sl' (n + 1) → EV (ax_GG Z) m_L_law P (1187, [some (.ref 903), some (.ref 0), some (.ref 39), some (.int v)], [], W', lg', sl')) : EV (ax_GG Z) m_L_law P (308, [some (.ref 903), some (.ref 0), some (.ref 39), some (.int v)], [], W, lg, sl) := by
  obtain ⟨⟨f0, hf0⟩, -⟩ := LI_0 hI
  have h9 := LI_9 hI
  refine EV.seg (c' := (309, [some (.ref 903), some (.ref 0), some (.ref 39), some (.int v)], [.ref 0], W, lg, sl)) 1 rfl trivial ?_
  refine EV.ld (k := 4) (i := v + (1 : Int32)) (pc' := 313) rfl rfl h9 h1 ?_
  show EV _ _ _ (314, [some (.ref 903), some (.ref 0), some (.ref 39), some (.int v)], [.int (Z.2 (v + (1 : Int32)).toNatClampNeg), .ref 0], W, lg, sl)
  refine lp (A := fun r => r = (F_force a (Z.2 (v + (1 : Int32)).toNatClampNeg)).1) (a' := (F_force a (Z.2 (v + (1 : Int32)).toNatClampNeg)).2) hI (st_c rfl rfl rfl hf0 (Nat.le_of_ble_eq_true rfl)) rfl (Nat.le_of_ble_eq_true rfl) fs_force.1 fs_force.2.1 fs_force.2.2 (fun rl im gs rc nx w t h => ec_force hA h) (fun x W' hx hI' => ?_)
  obtain ⟨-, f1, hf1⟩ := LI_0 hI'
  have h9' := LI_9 hI'
  refine EV.seg (c' := (318, [some (.ref 903), some (.ref 0), some (.ref 39), some (.int v)], [.ref 39, .int x], W', lg, sl)) 1 rfl trivial ?_
  refine EV.ld (k := 4) (i := v + (1 : Int32)) (pc' := 322) rfl rfl h9' h1 ?_
  show EV _ _ _ (323, [some (.ref 903), some (.ref 0), some (.ref 39), some (.int v)], [.int (Z.2 (v + (1 : Int32)).toNatClampNeg), .ref 39, .int x], W', lg, sl)
  refine lm (A := fun r => r = (F_force a (Z.2 (v + (1 : Int32)).toNatClampNeg)).1) (b' := (F_force a (Z.2 (v + (1 : Int32)).toNatClampNeg)).2) hI' (st_c rfl rfl rfl hf1 (Nat.le_of_ble_eq_true rfl)) rfl (Nat.le_of_ble_eq_true rfl) (fun _ => rfl) (fun w h => mc_force hA h) (fun y W'' hy hI'' => ?_)
  refine EV.br (c1 := (1187, [some (.ref 903), some (.ref 0), some (.ref 39), some (.int v)], [], W'', lg, sl)) (c2 := (329, [some (.ref 903), some (.ref 0), some (.ref 39), some (.int v)], [], W'', lg, sl)) rfl (fun _ => hk _ _ _ _ (F_force_ok hA) (hI''.up (by omega))) (fun h => absurd (hx.trans hy.symm) h)
set_option maxRecDepth 100000 in
theorem op_note {v : Int32} (h1 : vp_in (v + (1 : Int32)) Z.1) (h2 : vp_in (v + (2 : Int32)) Z.1) (hA : AOk a) (hI : LI a a W lg sl n) (hk : ∀ a' W' lg' sl', AOk a' → LI a' a' W' lg' sl' (n + 1) → EV (ax_GG Z) m_L_law P (1187, [some (.ref 903), some (.ref 0), some (.ref 39), some (.int v)], [], W', lg', sl')) : EV (ax_GG Z) m_L_law P (963, [some (.ref 903), some (.ref 0), some (.ref 39), some (.int v)], [], W, lg, sl) := by
  obtain ⟨⟨f0, hf0⟩, -⟩ := LI_0 hI
  have h9 := LI_9 hI
  refine EV.seg (c' := (964, [some (.ref 903), some (.ref 0), some (.ref 39), some (.int v)], [.ref 0], W, lg, sl)) 1 rfl trivial ?_
  refine EV.ld (k := 4) (i := v + (1 : Int32)) (pc' := 968) rfl rfl h9 h1 ?_
  refine EV.ld (k := 4) (i := v + (2 : Int32)) (pc' := 973) rfl rfl h9 h2 ?_
  show EV _ _ _ (974, [some (.ref 903), some (.ref 0), some (.ref 39), some (.int v)], [.int (Z.2 (v + (2 : Int32)).toNatClampNeg), .int (Z.2 (v + (1 : Int32)).toNatClampNeg), .ref 0], W, lg, sl)
  refine lp (A := fun r => r = (F_note a (Z.2 (v + (1 : Int32)).toNatClampNeg) (Z.2 (v + (2 : Int32)).toNatClampNeg)).1) (a' := (F_note a (Z.2 (v + (1 : Int32)).toNatClampNeg) (Z.2 (v + (2 : Int32)).toNatClampNeg)).2) hI (st_c rfl rfl rfl hf0 (Nat.le_of_ble_eq_true rfl)) rfl (Nat.le_of_ble_eq_true rfl) fs_note.1 fs_note.2.1 fs_note.2.2 (fun rl im gs rc nx w t h => ec_note hA h) (fun x W' hx hI' => ?_)
  obtain ⟨-, f1, hf1⟩ := LI_0 hI'
  have h9' := LI_9 hI'
  refine EV.seg (c' := (978, [some (.ref 903), some (.ref 0), some (.ref 39), some (.int v)], [.ref 39, .int x], W', lg, sl)) 1 rfl trivial ?_
  refine EV.ld (k := 4) (i := v + (1 : Int32)) (pc' := 982) rfl rfl h9' h1 ?_
  refine EV.ld (k := 4) (i := v + (2 : Int32)) (pc' := 987) rfl rfl h9' h2 ?_
  show EV _ _ _ (988, [some (.ref 903), some (.ref 0), some (.ref 39), some (.int v)], [.int (Z.2 (v + (2 : Int32)).toNatClampNeg), .int (Z.2 (v + (1 : Int32)).toNatClampNeg), .ref 39, .int x], W', lg, sl)
  refine lm (A := fun r => r = (F_note a (Z.2 (v + (1 : Int32)).toNatClampNeg) (Z.2 (v + (2 : Int32)).toNatClampNeg)).1) (b' := (F_note a (Z.2 (v + (1 : Int32)).toNatClampNeg) (Z.2 (v + (2 : Int32)).toNatClampNeg)).2) hI' (st_c rfl rfl rfl hf1 (Nat.le_of_ble_eq_true rfl)) rfl (Nat.le_of_ble_eq_true rfl) (fun _ => rfl) (fun w h => mc_note hA h) (fun y W'' hy hI'' => ?_)
  refine EV.br (c1 := (1187, [some (.ref 903), some (.ref 0), some (.ref 39), some (.int v)], [], W'', lg, sl)) (c2 := (994, [some (.ref 903), some (.ref 0), some (.ref 39), some (.int v)], [], W'', lg, sl)) rfl (fun _ => hk _ _ _ _ (F_note_ok hA) (hI''.up (by omega))) (fun h => absurd (hx.trans hy.symm) h)
set_option maxRecDepth 100000 in
theorem op_seed {v : Int32} (h1 : vp_in (v + (1 : Int32)) Z.1) (hA : AOk a) (hI : LI a a W lg sl n) (hk : ∀ a' W' lg' sl', AOk a' → LI a' a' W' lg' sl' (n + 1) → EV (ax_GG Z) m_L_law P (1187, [some (.ref 903), some (.ref 0), some (.ref 39), some (.int v)], [], W', lg', sl')) : EV (ax_GG Z) m_L_law P (1042, [some (.ref 903), some (.ref 0), some (.ref 39), some (.int v)], [], W, lg, sl) := by
  obtain ⟨⟨f0, hf0⟩, -⟩ := LI_0 hI
  have h9 := LI_9 hI
  refine EV.seg (c' := (1043, [some (.ref 903), some (.ref 0), some (.ref 39), some (.int v)], [.ref 0], W, lg, sl)) 1 rfl trivial ?_
  refine EV.ld (k := 4) (i := v + (1 : Int32)) (pc' := 1047) rfl rfl h9 h1 ?_
  show EV _ _ _ (1048, [some (.ref 903), some (.ref 0), some (.ref 39), some (.int v)], [.int (Z.2 (v + (1 : Int32)).toNatClampNeg), .ref 0], W, lg, sl)
  refine lp (A := fun r => r = (F_seed a (Z.2 (v + (1 : Int32)).toNatClampNeg)).1) (a' := (F_seed a (Z.2 (v + (1 : Int32)).toNatClampNeg)).2) hI (st_c rfl rfl rfl hf0 (Nat.le_of_ble_eq_true rfl)) rfl (Nat.le_of_ble_eq_true rfl) fs_seed.1 fs_seed.2.1 fs_seed.2.2 (fun rl im gs rc nx w t h => ec_seed hA h) (fun x W' hx hI' => ?_)
  obtain ⟨-, f1, hf1⟩ := LI_0 hI'
  have h9' := LI_9 hI'
  refine EV.seg (c' := (1052, [some (.ref 903), some (.ref 0), some (.ref 39), some (.int v)], [.ref 39, .int x], W', lg, sl)) 1 rfl trivial ?_
  refine EV.ld (k := 4) (i := v + (1 : Int32)) (pc' := 1056) rfl rfl h9' h1 ?_
  show EV _ _ _ (1057, [some (.ref 903), some (.ref 0), some (.ref 39), some (.int v)], [.int (Z.2 (v + (1 : Int32)).toNatClampNeg), .ref 39, .int x], W', lg, sl)
  refine lm (A := fun r => r = (F_seed a (Z.2 (v + (1 : Int32)).toNatClampNeg)).1) (b' := (F_seed a (Z.2 (v + (1 : Int32)).toNatClampNeg)).2) hI' (st_c rfl rfl rfl hf1 (Nat.le_of_ble_eq_true rfl)) rfl (Nat.le_of_ble_eq_true rfl) (fun _ => rfl) (fun w h => mc_seed hA h) (fun y W'' hy hI'' => ?_)
  refine EV.br (c1 := (1187, [some (.ref 903), some (.ref 0), some (.ref 39), some (.int v)], [], W'', lg, sl)) (c2 := (1063, [some (.ref 903), some (.ref 0), some (.ref 39), some (.int v)], [], W'', lg, sl)) rfl (fun _ => hk _ _ _ _ (F_seed_ok hA) (hI''.up (by omega))) (fun h => absurd (hx.trans hy.symm) h)
set_option maxRecDepth 100000 in
theorem op_child {v : Int32} (h1 : vp_in (v + (1 : Int32)) Z.1) (h2 : vp_in (v + (2 : Int32)) Z.1) (hA : AOk a) (hI : LI a a W lg sl n) (hk : ∀ a' W' lg' sl', AOk a' → LI a' a' W' lg' sl' (n + 1) → EV (ax_GG Z) m_L_law P (1187, [some (.ref 903), some (.ref 0), some (.ref 39), some (.int v)], [], W', lg', sl')) : EV (ax_GG Z) m_L_law P (331, [some (.ref 903), some (.ref 0), some (.ref 39), some (.int v)], [], W, lg, sl) := by
  obtain ⟨⟨f0, hf0⟩, -⟩ := LI_0 hI
  have h9 := LI_9 hI
  refine EV.seg (c' := (332, [some (.ref 903), some (.ref 0), some (.ref 39), some (.int v)], [.ref 0], W, lg, sl)) 1 rfl trivial ?_
  refine EV.ld (k := 4) (i := v + (1 : Int32)) (pc' := 336) rfl rfl h9 h1 ?_
  refine EV.ld (k := 4) (i := v + (2 : Int32)) (pc' := 341) rfl rfl h9 h2 ?_
  show EV _ _ _ (342, [some (.ref 903), some (.ref 0), some (.ref 39), some (.int v)], [.int (Z.2 (v + (2 : Int32)).toNatClampNeg), .int (Z.2 (v + (1 : Int32)).toNatClampNeg), .ref 0], W, lg, sl)
  refine lp (A := fun r => r = (F_child a (Z.2 (v + (1 : Int32)).toNatClampNeg) (Z.2 (v + (2 : Int32)).toNatClampNeg)).1) (a' := (F_child a (Z.2 (v + (1 : Int32)).toNatClampNeg) (Z.2 (v + (2 : Int32)).toNatClampNeg)).2) hI (st_c rfl rfl rfl hf0 (Nat.le_of_ble_eq_true rfl)) rfl (Nat.le_of_ble_eq_true rfl) rfl rfl (fun _ _ _ _ h => h) (fun rl im gs rc nx w t h => ec_child hA h) (fun x W' hx hI' => ?_)
  obtain ⟨-, f1, hf1⟩ := LI_0 hI'
  have h9' := LI_9 hI'
  refine EV.seg (c' := (346, [some (.ref 903), some (.ref 0), some (.ref 39), some (.int v)], [.ref 39, .int x], W', lg, sl)) 1 rfl trivial ?_
  refine EV.ld (k := 4) (i := v + (1 : Int32)) (pc' := 350) rfl rfl h9' h1 ?_
  refine EV.ld (k := 4) (i := v + (2 : Int32)) (pc' := 355) rfl rfl h9' h2 ?_
  show EV _ _ _ (356, [some (.ref 903), some (.ref 0), some (.ref 39), some (.int v)], [.int (Z.2 (v + (2 : Int32)).toNatClampNeg), .int (Z.2 (v + (1 : Int32)).toNatClampNeg), .ref 39, .int x], W', lg, sl)
  refine lm (A := fun r => r = (F_child a (Z.2 (v + (1 : Int32)).toNatClampNeg) (Z.2 (v + (2 : Int32)).toNatClampNeg)).1) (b' := (F_child a (Z.2 (v + (1 : Int32)).toNatClampNeg) (Z.2 (v + (2 : Int32)).toNatClampNeg)).2) hI' (st_c rfl rfl rfl hf1 (Nat.le_of_ble_eq_true rfl)) rfl (Nat.le_of_ble_eq_true rfl) (fun _ => rfl) (fun w h => mc_child hA h) (fun y W'' hy hI'' => ?_)
  refine EV.br (c1 := (1187, [some (.ref 903), some (.ref 0), some (.ref 39), some (.int v)], [], W'', lg, sl)) (c2 := (362, [some (.ref 903), some (.ref 0), some (.ref 39), some (.int v)], [], W'', lg, sl)) rfl (fun _ => hk _ _ _ _ hA (hI''.up (by omega))) (fun h => absurd (hx.trans hy.symm) h)
set_option maxRecDepth 100000 in
theorem op_order {v : Int32} (hA : AOk a) (hI : LI a a W lg sl n) (hk : ∀ a' W' lg' sl', AOk a' → LI a' a' W' lg' sl' (n + 1) → EV (ax_GG Z) m_L_law P (1187, [some (.ref 903), some (.ref 0), some (.ref 39), some (.int v)], [], W', lg', sl')) : EV (ax_GG Z) m_L_law P (364, [some (.ref 903), some (.ref 0), some (.ref 39), some (.int v)], [], W, lg, sl) := by
  obtain ⟨⟨f0, hf0⟩, -⟩ := LI_0 hI
  have h9 := LI_9 hI
  refine EV.seg (c' := (365, [some (.ref 903), some (.ref 0), some (.ref 39), some (.int v)], [.ref 0], W, lg, sl)) 1 rfl trivial ?_
  refine lp (A := fun r => r = (F_order a ).1) (a' := (F_order a ).2) hI (st_c rfl rfl rfl hf0 (Nat.le_of_ble_eq_true rfl)) rfl (Nat.le_of_ble_eq_true rfl) rfl rfl (fun _ _ _ _ h => h) (fun rl im gs rc nx w t h => ec_order hA h) (fun x W' hx hI' => ?_)
  obtain ⟨-, f1, hf1⟩ := LI_0 hI'
  have h9' := LI_9 hI'
  refine EV.seg (c' := (369, [some (.ref 903), some (.ref 0), some (.ref 39), some (.int v)], [.ref 39, .int x], W', lg, sl)) 1 rfl trivial ?_
  refine lm (A := fun r => r = (F_order a ).1) (b' := (F_order a ).2) hI' (st_c rfl rfl rfl hf1 (Nat.le_of_ble_eq_true rfl)) rfl (Nat.le_of_ble_eq_true rfl) (fun _ => rfl) (fun w h => mc_order hA h) (fun y W'' hy hI'' => ?_)
  refine EV.br (c1 := (1187, [some (.ref 903), some (.ref 0), some (.ref 39), some (.int v)], [], W'', lg, sl)) (c2 := (375, [some (.ref 903), some (.ref 0), some (.ref 39), some (.int v)], [], W'', lg, sl)) rfl (fun _ => hk _ _ _ _ hA (hI''.up (by omega))) (fun h => absurd (hx.trans hy.symm) h)
set_option maxRecDepth 100000 in
theorem op_count {v : Int32} (h1 : vp_in (v + (1 : Int32)) Z.1) (hA : AOk a) (hI : LI a a W lg sl n) (hk : ∀ a' W' lg' sl', AOk a' → LI a' a' W' lg' sl' (n + 1) → EV (ax_GG Z) m_L_law P (1187, [some (.ref 903), some (.ref 0), some (.ref 39), some (.int v)], [], W', lg', sl')) : EV (ax_GG Z) m_L_law P (1118, [some (.ref 903), some (.ref 0), some (.ref 39), some (.int v)], [], W, lg, sl) := by
  obtain ⟨⟨f0, hf0⟩, -⟩ := LI_0 hI
  have h9 := LI_9 hI
  refine EV.seg (c' := (1119, [some (.ref 903), some (.ref 0), some (.ref 39), some (.int v)], [.ref 0], W, lg, sl)) 1 rfl trivial ?_
  refine EV.ld (k := 4) (i := v + (1 : Int32)) (pc' := 1123) rfl rfl h9 h1 ?_
  show EV _ _ _ (1124, [some (.ref 903), some (.ref 0), some (.ref 39), some (.int v)], [.int (Z.2 (v + (1 : Int32)).toNatClampNeg), .ref 0], W, lg, sl)
  refine lp (A := fun r => r = (F_count a (Z.2 (v + (1 : Int32)).toNatClampNeg)).1) (a' := (F_count a (Z.2 (v + (1 : Int32)).toNatClampNeg)).2) hI (st_c rfl rfl rfl hf0 (Nat.le_of_ble_eq_true rfl)) rfl (Nat.le_of_ble_eq_true rfl) rfl rfl (fun _ _ _ _ h => h) (fun rl im gs rc nx w t h => ec_count hA h) (fun x W' hx hI' => ?_)
  obtain ⟨-, f1, hf1⟩ := LI_0 hI'
  have h9' := LI_9 hI'
  refine EV.seg (c' := (1128, [some (.ref 903), some (.ref 0), some (.ref 39), some (.int v)], [.ref 39, .int x], W', lg, sl)) 1 rfl trivial ?_
  refine EV.ld (k := 4) (i := v + (1 : Int32)) (pc' := 1132) rfl rfl h9' h1 ?_
  show EV _ _ _ (1133, [some (.ref 903), some (.ref 0), some (.ref 39), some (.int v)], [.int (Z.2 (v + (1 : Int32)).toNatClampNeg), .ref 39, .int x], W', lg, sl)
  refine lm (A := fun r => r = (F_count a (Z.2 (v + (1 : Int32)).toNatClampNeg)).1) (b' := (F_count a (Z.2 (v + (1 : Int32)).toNatClampNeg)).2) hI' (st_c rfl rfl rfl hf1 (Nat.le_of_ble_eq_true rfl)) rfl (Nat.le_of_ble_eq_true rfl) (fun _ => rfl) (fun w h => mc_count hA h) (fun y W'' hy hI'' => ?_)
  refine EV.br (c1 := (1187, [some (.ref 903), some (.ref 0), some (.ref 39), some (.int v)], [], W'', lg, sl)) (c2 := (1139, [some (.ref 903), some (.ref 0), some (.ref 39), some (.int v)], [], W'', lg, sl)) rfl (fun _ => hk _ _ _ _ hA (hI''.up (by omega))) (fun h => absurd (hx.trans hy.symm) h)
set_option maxRecDepth 100000 in
theorem op_pence {v : Int32} (h1 : vp_in (v + (1 : Int32)) Z.1) (h2 : vp_in (v + (2 : Int32)) Z.1) (hA : AOk a) (hI : LI a a W lg sl n) (hk : ∀ a' W' lg' sl', AOk a' → LI a' a' W' lg' sl' (n + 1) → EV (ax_GG Z) m_L_law P (1187, [some (.ref 903), some (.ref 0), some (.ref 39), some (.int v)], [], W', lg', sl')) : EV (ax_GG Z) m_L_law P (930, [some (.ref 903), some (.ref 0), some (.ref 39), some (.int v)], [], W, lg, sl) := by
  obtain ⟨⟨f0, hf0⟩, -⟩ := LI_0 hI
  have h9 := LI_9 hI
  refine EV.seg (c' := (931, [some (.ref 903), some (.ref 0), some (.ref 39), some (.int v)], [.ref 0], W, lg, sl)) 1 rfl trivial ?_
  refine EV.ld (k := 4) (i := v + (1 : Int32)) (pc' := 935) rfl rfl h9 h1 ?_
  refine EV.ld (k := 4) (i := v + (2 : Int32)) (pc' := 940) rfl rfl h9 h2 ?_
  show EV _ _ _ (941, [some (.ref 903), some (.ref 0), some (.ref 39), some (.int v)], [.int (Z.2 (v + (2 : Int32)).toNatClampNeg), .int (Z.2 (v + (1 : Int32)).toNatClampNeg), .ref 0], W, lg, sl)
  refine lp (A := fun r => A_pence a (Z.2 (v + (1 : Int32)).toNatClampNeg) (Z.2 (v + (2 : Int32)).toNatClampNeg) r) (a' := a) hI (st_c rfl rfl rfl hf0 (Nat.le_of_ble_eq_true rfl)) rfl (Nat.le_of_ble_eq_true rfl) rfl rfl (fun _ _ _ _ h => h) (fun rl im gs rc nx w t h => ec_pence hA h) (fun x W' hx hI' => ?_)
  obtain ⟨-, f1, hf1⟩ := LI_0 hI'
  have h9' := LI_9 hI'
  refine EV.seg (c' := (945, [some (.ref 903), some (.ref 0), some (.ref 39), some (.int v)], [.ref 39, .int x], W', lg, sl)) 1 rfl trivial ?_
  refine EV.ld (k := 4) (i := v + (1 : Int32)) (pc' := 949) rfl rfl h9' h1 ?_
  refine EV.ld (k := 4) (i := v + (2 : Int32)) (pc' := 954) rfl rfl h9' h2 ?_
  show EV _ _ _ (955, [some (.ref 903), some (.ref 0), some (.ref 39), some (.int v)], [.int (Z.2 (v + (2 : Int32)).toNatClampNeg), .int (Z.2 (v + (1 : Int32)).toNatClampNeg), .ref 39, .int x], W', lg, sl)
  refine lm (A := fun r => A_pence a (Z.2 (v + (1 : Int32)).toNatClampNeg) (Z.2 (v + (2 : Int32)).toNatClampNeg) r) (b' := a) hI' (st_c rfl rfl rfl hf1 (Nat.le_of_ble_eq_true rfl)) rfl (Nat.le_of_ble_eq_true rfl) (fun _ => rfl) (fun w h => mc_pence hA h) (fun y W'' hy hI'' => ?_)
  refine EV.br (c1 := (1187, [some (.ref 903), some (.ref 0), some (.ref 39), some (.int v)], [], W'', lg, sl)) (c2 := (961, [some (.ref 903), some (.ref 0), some (.ref 39), some (.int v)], [], W'', lg, sl)) rfl (fun _ => hk _ _ _ _ hA (hI''.up (by omega))) (fun h => absurd (A_pence_un hx hy) h)
set_option maxRecDepth 100000 in
theorem op_sources {v : Int32} (hA : AOk a) (hI : LI a a W lg sl n) (hk : ∀ a' W' lg' sl', AOk a' → LI a' a' W' lg' sl' (n + 1) → EV (ax_GG Z) m_L_law P (1187, [some (.ref 903), some (.ref 0), some (.ref 39), some (.int v)], [], W', lg', sl')) : EV (ax_GG Z) m_L_law P (683, [some (.ref 903), some (.ref 0), some (.ref 39), some (.int v)], [], W, lg, sl) := by
  obtain ⟨⟨f0, hf0⟩, -⟩ := LI_0 hI
  have h9 := LI_9 hI
  refine EV.seg (c' := (684, [some (.ref 903), some (.ref 0), some (.ref 39), some (.int v)], [.ref 0], W, lg, sl)) 1 rfl trivial ?_
  refine lp (A := fun r => A_sources a  r) (a' := a) hI (st_c rfl rfl rfl hf0 (Nat.le_of_ble_eq_true rfl)) rfl (Nat.le_of_ble_eq_true rfl) rfl rfl (fun _ _ _ _ h => h) (fun rl im gs rc nx w t h => ec_sources hA h) (fun x W' hx hI' => ?_)
  obtain ⟨-, f1, hf1⟩ := LI_0 hI'
  have h9' := LI_9 hI'
  refine EV.seg (c' := (688, [some (.ref 903), some (.ref 0), some (.ref 39), some (.int v)], [.ref 39, .int x], W', lg, sl)) 1 rfl trivial ?_
  refine lm (A := fun r => A_sources a  r) (b' := a) hI' (st_c rfl rfl rfl hf1 (Nat.le_of_ble_eq_true rfl)) rfl (Nat.le_of_ble_eq_true rfl) (fun _ => rfl) (fun w h => mc_sources hA h) (fun y W'' hy hI'' => ?_)
  refine EV.br (c1 := (1187, [some (.ref 903), some (.ref 0), some (.ref 39), some (.int v)], [], W'', lg, sl)) (c2 := (694, [some (.ref 903), some (.ref 0), some (.ref 39), some (.int v)], [], W'', lg, sl)) rfl (fun _ => hk _ _ _ _ hA (hI''.up (by omega))) (fun h => absurd (A_sources_un hx hy) h)
set_option maxRecDepth 100000 in
theorem op_ahead {v : Int32} (h1 : vp_in (v + (1 : Int32)) Z.1) (h2 : vp_in (v + (2 : Int32)) Z.1) (h3 : vp_in (v + (3 : Int32)) Z.1) (hA : AOk a) (hI : LI a a W lg sl n) (hk : ∀ a' W' lg' sl', AOk a' → LI a' a' W' lg' sl' (n + 1) → EV (ax_GG Z) m_L_law P (1187, [some (.ref 903), some (.ref 0), some (.ref 39), some (.int v)], [], W', lg', sl')) : EV (ax_GG Z) m_L_law P (696, [some (.ref 903), some (.ref 0), some (.ref 39), some (.int v)], [], W, lg, sl) := by
  obtain ⟨⟨f0, hf0⟩, -⟩ := LI_0 hI
  have h9 := LI_9 hI
  refine EV.seg (c' := (697, [some (.ref 903), some (.ref 0), some (.ref 39), some (.int v)], [.ref 0], W, lg, sl)) 1 rfl trivial ?_
  refine EV.ld (k := 4) (i := v + (1 : Int32)) (pc' := 701) rfl rfl h9 h1 ?_
  refine EV.ld (k := 4) (i := v + (2 : Int32)) (pc' := 706) rfl rfl h9 h2 ?_
  refine EV.ld (k := 4) (i := v + (3 : Int32)) (pc' := 711) rfl rfl h9 h3 ?_
  show EV _ _ _ (712, [some (.ref 903), some (.ref 0), some (.ref 39), some (.int v)], [.int (Z.2 (v + (3 : Int32)).toNatClampNeg), .int (Z.2 (v + (2 : Int32)).toNatClampNeg), .int (Z.2 (v + (1 : Int32)).toNatClampNeg), .ref 0], W, lg, sl)
  refine lq (A := fun r => A_ahead a (Z.2 (v + (1 : Int32)).toNatClampNeg) (Z.2 (v + (2 : Int32)).toNatClampNeg) (Z.2 (v + (3 : Int32)).toNatClampNeg) r) hA hI (st_c rfl rfl rfl hf0 (Nat.le_of_ble_eq_true rfl)) rfl (Nat.le_of_ble_eq_true rfl) (fun _ => rfl) (fun hf rl im gs rc nx w t h => ec_ahead_N hA hf h) (fun i len code hf rl im gs rc nx w t hrl hR h => ec_ahead_R hA hf hrl hR h) (fun x W' hx hI' => ?_)
  obtain ⟨-, f1, hf1⟩ := LI_0 hI'
  have h9' := LI_9 hI'
  refine EV.seg (c' := (716, [some (.ref 903), some (.ref 0), some (.ref 39), some (.int v)], [.ref 39, .int x], W', lg, sl)) 1 rfl trivial ?_
  refine EV.ld (k := 4) (i := v + (1 : Int32)) (pc' := 720) rfl rfl h9' h1 ?_
  refine EV.ld (k := 4) (i := v + (2 : Int32)) (pc' := 725) rfl rfl h9' h2 ?_
  refine EV.ld (k := 4) (i := v + (3 : Int32)) (pc' := 730) rfl rfl h9' h3 ?_
  show EV _ _ _ (731, [some (.ref 903), some (.ref 0), some (.ref 39), some (.int v)], [.int (Z.2 (v + (3 : Int32)).toNatClampNeg), .int (Z.2 (v + (2 : Int32)).toNatClampNeg), .int (Z.2 (v + (1 : Int32)).toNatClampNeg), .ref 39, .int x], W', lg, sl)
  refine lm (A := fun r => A_ahead a (Z.2 (v + (1 : Int32)).toNatClampNeg) (Z.2 (v + (2 : Int32)).toNatClampNeg) (Z.2 (v + (3 : Int32)).toNatClampNeg) r) (b' := a) hI' (st_c rfl rfl rfl hf1 (Nat.le_of_ble_eq_true rfl)) rfl (Nat.le_of_ble_eq_true rfl) (fun _ => rfl) (fun w h => mc_ahead hA h) (fun y W'' hy hI'' => ?_)
  refine EV.br (c1 := (1187, [some (.ref 903), some (.ref 0), some (.ref 39), some (.int v)], [], W'', lg, sl)) (c2 := (737, [some (.ref 903), some (.ref 0), some (.ref 39), some (.int v)], [], W'', lg, sl)) rfl (fun _ => hk _ _ _ _ hA (hI''.up (by omega))) (fun h => absurd (A_ahead_un hx hy) h)
set_option maxRecDepth 100000 in
theorem op_leads {v : Int32} (h1 : vp_in (v + (1 : Int32)) Z.1) (hA : AOk a) (hI : LI a a W lg sl n) (hk : ∀ a' W' lg' sl', AOk a' → LI a' a' W' lg' sl' (n + 1) → EV (ax_GG Z) m_L_law P (1187, [some (.ref 903), some (.ref 0), some (.ref 39), some (.int v)], [], W', lg', sl')) : EV (ax_GG Z) m_L_law P (739, [some (.ref 903), some (.ref 0), some (.ref 39), some (.int v)], [], W, lg, sl) := by
  obtain ⟨⟨f0, hf0⟩, -⟩ := LI_0 hI
  have h9 := LI_9 hI
  refine EV.seg (c' := (740, [some (.ref 903), some (.ref 0), some (.ref 39), some (.int v)], [.ref 0], W, lg, sl)) 1 rfl trivial ?_
  refine EV.ld (k := 4) (i := v + (1 : Int32)) (pc' := 744) rfl rfl h9 h1 ?_
  show EV _ _ _ (745, [some (.ref 903), some (.ref 0), some (.ref 39), some (.int v)], [.int (Z.2 (v + (1 : Int32)).toNatClampNeg), .ref 0], W, lg, sl)
  refine lq (A := fun r => A_leads a (Z.2 (v + (1 : Int32)).toNatClampNeg) r) hA hI (st_c rfl rfl rfl hf0 (Nat.le_of_ble_eq_true rfl)) rfl (Nat.le_of_ble_eq_true rfl) (fun _ => rfl) (fun hf rl im gs rc nx w t h => ec_leads_N hA hf h) (fun i len code hf rl im gs rc nx w t hrl hR h => ec_leads_R hA hf hrl hR h) (fun x W' hx hI' => ?_)
  obtain ⟨-, f1, hf1⟩ := LI_0 hI'
  have h9' := LI_9 hI'
  refine EV.seg (c' := (749, [some (.ref 903), some (.ref 0), some (.ref 39), some (.int v)], [.ref 39, .int x], W', lg, sl)) 1 rfl trivial ?_
  refine EV.ld (k := 4) (i := v + (1 : Int32)) (pc' := 753) rfl rfl h9' h1 ?_
  show EV _ _ _ (754, [some (.ref 903), some (.ref 0), some (.ref 39), some (.int v)], [.int (Z.2 (v + (1 : Int32)).toNatClampNeg), .ref 39, .int x], W', lg, sl)
  refine lm (A := fun r => A_leads a (Z.2 (v + (1 : Int32)).toNatClampNeg) r) (b' := a) hI' (st_c rfl rfl rfl hf1 (Nat.le_of_ble_eq_true rfl)) rfl (Nat.le_of_ble_eq_true rfl) (fun _ => rfl) (fun w h => mc_leads hA h) (fun y W'' hy hI'' => ?_)
  refine EV.br (c1 := (1187, [some (.ref 903), some (.ref 0), some (.ref 39), some (.int v)], [], W'', lg, sl)) (c2 := (760, [some (.ref 903), some (.ref 0), some (.ref 39), some (.int v)], [], W'', lg, sl)) rfl (fun _ => hk _ _ _ _ hA (hI''.up (by omega))) (fun h => absurd (A_leads_un hx hy) h)
set_option maxRecDepth 100000 in
theorem op_stuck {v : Int32} (hA : AOk a) (hI : LI a a W lg sl n) (hk : ∀ a' W' lg' sl', AOk a' → LI a' a' W' lg' sl' (n + 1) → EV (ax_GG Z) m_L_law P (1187, [some (.ref 903), some (.ref 0), some (.ref 39), some (.int v)], [], W', lg', sl')) : EV (ax_GG Z) m_L_law P (762, [some (.ref 903), some (.ref 0), some (.ref 39), some (.int v)], [], W, lg, sl) := by
  obtain ⟨⟨f0, hf0⟩, -⟩ := LI_0 hI
  have h9 := LI_9 hI
  refine EV.seg (c' := (763, [some (.ref 903), some (.ref 0), some (.ref 39), some (.int v)], [.ref 0], W, lg, sl)) 1 rfl trivial ?_
  refine lq (A := fun r => A_stuck a  r) hA hI (st_c rfl rfl rfl hf0 (Nat.le_of_ble_eq_true rfl)) rfl (Nat.le_of_ble_eq_true rfl) (fun _ => rfl) (fun hf rl im gs rc nx w t h => ec_stuck_N hA hf h) (fun i len code hf rl im gs rc nx w t hrl hR h => ec_stuck_R hA hf hrl hR h) (fun x W' hx hI' => ?_)
  obtain ⟨-, f1, hf1⟩ := LI_0 hI'
  have h9' := LI_9 hI'
  refine EV.seg (c' := (767, [some (.ref 903), some (.ref 0), some (.ref 39), some (.int v)], [.ref 39, .int x], W', lg, sl)) 1 rfl trivial ?_
  refine lm (A := fun r => A_stuck a  r) (b' := a) hI' (st_c rfl rfl rfl hf1 (Nat.le_of_ble_eq_true rfl)) rfl (Nat.le_of_ble_eq_true rfl) (fun _ => rfl) (fun w h => mc_stuck hA h) (fun y W'' hy hI'' => ?_)
  refine EV.br (c1 := (1187, [some (.ref 903), some (.ref 0), some (.ref 39), some (.int v)], [], W'', lg, sl)) (c2 := (773, [some (.ref 903), some (.ref 0), some (.ref 39), some (.int v)], [], W'', lg, sl)) rfl (fun _ => hk _ _ _ _ hA (hI''.up (by omega))) (fun h => absurd (A_stuck_un hx hy) h)
set_option maxRecDepth 100000 in
theorem op_given {v : Int32} (h1 : vp_in (v + (1 : Int32)) Z.1) (h2 : vp_in (v + (2 : Int32)) Z.1) (hA : AOk a) (hI : LI a a W lg sl n) (hk : ∀ a' W' lg' sl', AOk a' → LI a' a' W' lg' sl' (n + 1) → EV (ax_GG Z) m_L_law P (1187, [some (.ref 903), some (.ref 0), some (.ref 39), some (.int v)], [], W', lg', sl')) : EV (ax_GG Z) m_L_law P (775, [some (.ref 903), some (.ref 0), some (.ref 39), some (.int v)], [], W, lg, sl) := by
  obtain ⟨⟨f0, hf0⟩, -⟩ := LI_0 hI
  have h9 := LI_9 hI
  refine EV.seg (c' := (776, [some (.ref 903), some (.ref 0), some (.ref 39), some (.int v)], [.ref 0], W, lg, sl)) 1 rfl trivial ?_
  refine EV.ld (k := 4) (i := v + (1 : Int32)) (pc' := 780) rfl rfl h9 h1 ?_
  refine EV.ld (k := 4) (i := v + (2 : Int32)) (pc' := 785) rfl rfl h9 h2 ?_
  show EV _ _ _ (786, [some (.ref 903), some (.ref 0), some (.ref 39), some (.int v)], [.int (Z.2 (v + (2 : Int32)).toNatClampNeg), .int (Z.2 (v + (1 : Int32)).toNatClampNeg), .ref 0], W, lg, sl)
  refine lq (A := fun r => A_given a (Z.2 (v + (1 : Int32)).toNatClampNeg) (Z.2 (v + (2 : Int32)).toNatClampNeg) r) hA hI (st_c rfl rfl rfl hf0 (Nat.le_of_ble_eq_true rfl)) rfl (Nat.le_of_ble_eq_true rfl) (fun _ => rfl) (fun hf rl im gs rc nx w t h => ec_given_N hA hf h) (fun i len code hf rl im gs rc nx w t hrl hR h => ec_given_R hA hf hrl hR h) (fun x W' hx hI' => ?_)
  obtain ⟨-, f1, hf1⟩ := LI_0 hI'
  have h9' := LI_9 hI'
  refine EV.seg (c' := (790, [some (.ref 903), some (.ref 0), some (.ref 39), some (.int v)], [.ref 39, .int x], W', lg, sl)) 1 rfl trivial ?_
  refine EV.ld (k := 4) (i := v + (1 : Int32)) (pc' := 794) rfl rfl h9' h1 ?_
  refine EV.ld (k := 4) (i := v + (2 : Int32)) (pc' := 799) rfl rfl h9' h2 ?_
  show EV _ _ _ (800, [some (.ref 903), some (.ref 0), some (.ref 39), some (.int v)], [.int (Z.2 (v + (2 : Int32)).toNatClampNeg), .int (Z.2 (v + (1 : Int32)).toNatClampNeg), .ref 39, .int x], W', lg, sl)
  refine lm (A := fun r => A_given a (Z.2 (v + (1 : Int32)).toNatClampNeg) (Z.2 (v + (2 : Int32)).toNatClampNeg) r) (b' := a) hI' (st_c rfl rfl rfl hf1 (Nat.le_of_ble_eq_true rfl)) rfl (Nat.le_of_ble_eq_true rfl) (fun _ => rfl) (fun w h => mc_given hA h) (fun y W'' hy hI'' => ?_)
  refine EV.br (c1 := (1187, [some (.ref 903), some (.ref 0), some (.ref 39), some (.int v)], [], W'', lg, sl)) (c2 := (806, [some (.ref 903), some (.ref 0), some (.ref 39), some (.int v)], [], W'', lg, sl)) rfl (fun _ => hk _ _ _ _ hA (hI''.up (by omega))) (fun h => absurd (A_given_un hx hy) h)
set_option maxRecDepth 100000 in
theorem op_rests {v : Int32} (h1 : vp_in (v + (1 : Int32)) Z.1) (h2 : vp_in (v + (2 : Int32)) Z.1) (h3 : vp_in (v + (3 : Int32)) Z.1) (h4 : vp_in (v + (4 : Int32)) Z.1) (hA : AOk a) (hI : LI a a W lg sl n) (hk : ∀ a' W' lg' sl', AOk a' → LI a' a' W' lg' sl' (n + 1) → EV (ax_GG Z) m_L_law P (1187, [some (.ref 903), some (.ref 0), some (.ref 39), some (.int v)], [], W', lg', sl')) : EV (ax_GG Z) m_L_law P (854, [some (.ref 903), some (.ref 0), some (.ref 39), some (.int v)], [], W, lg, sl) := by
  obtain ⟨⟨f0, hf0⟩, -⟩ := LI_0 hI
  have h9 := LI_9 hI
  refine EV.seg (c' := (855, [some (.ref 903), some (.ref 0), some (.ref 39), some (.int v)], [.ref 0], W, lg, sl)) 1 rfl trivial ?_
  refine EV.ld (k := 4) (i := v + (1 : Int32)) (pc' := 859) rfl rfl h9 h1 ?_
  refine EV.ld (k := 4) (i := v + (2 : Int32)) (pc' := 864) rfl rfl h9 h2 ?_
  refine EV.ld (k := 4) (i := v + (3 : Int32)) (pc' := 869) rfl rfl h9 h3 ?_
  refine EV.ld (k := 4) (i := v + (4 : Int32)) (pc' := 874) rfl rfl h9 h4 ?_
  show EV _ _ _ (875, [some (.ref 903), some (.ref 0), some (.ref 39), some (.int v)], [.int (Z.2 (v + (4 : Int32)).toNatClampNeg), .int (Z.2 (v + (3 : Int32)).toNatClampNeg), .int (Z.2 (v + (2 : Int32)).toNatClampNeg), .int (Z.2 (v + (1 : Int32)).toNatClampNeg), .ref 0], W, lg, sl)
  refine lq (A := fun r => A_rests a (Z.2 (v + (1 : Int32)).toNatClampNeg) (Z.2 (v + (2 : Int32)).toNatClampNeg) (Z.2 (v + (3 : Int32)).toNatClampNeg) (Z.2 (v + (4 : Int32)).toNatClampNeg) r) hA hI (st_c rfl rfl rfl hf0 (Nat.le_of_ble_eq_true rfl)) rfl (Nat.le_of_ble_eq_true rfl) (fun _ => rfl) (fun hf rl im gs rc nx w t h => ec_rests_N hA hf h) (fun i len code hf rl im gs rc nx w t hrl hR h => ec_rests_R hA hf hrl hR h) (fun x W' hx hI' => ?_)
  obtain ⟨-, f1, hf1⟩ := LI_0 hI'
  have h9' := LI_9 hI'
  refine EV.seg (c' := (879, [some (.ref 903), some (.ref 0), some (.ref 39), some (.int v)], [.ref 39, .int x], W', lg, sl)) 1 rfl trivial ?_
  refine EV.ld (k := 4) (i := v + (1 : Int32)) (pc' := 883) rfl rfl h9' h1 ?_
  refine EV.ld (k := 4) (i := v + (2 : Int32)) (pc' := 888) rfl rfl h9' h2 ?_
  refine EV.ld (k := 4) (i := v + (3 : Int32)) (pc' := 893) rfl rfl h9' h3 ?_
  refine EV.ld (k := 4) (i := v + (4 : Int32)) (pc' := 898) rfl rfl h9' h4 ?_
  show EV _ _ _ (899, [some (.ref 903), some (.ref 0), some (.ref 39), some (.int v)], [.int (Z.2 (v + (4 : Int32)).toNatClampNeg), .int (Z.2 (v + (3 : Int32)).toNatClampNeg), .int (Z.2 (v + (2 : Int32)).toNatClampNeg), .int (Z.2 (v + (1 : Int32)).toNatClampNeg), .ref 39, .int x], W', lg, sl)
  refine lm (A := fun r => A_rests a (Z.2 (v + (1 : Int32)).toNatClampNeg) (Z.2 (v + (2 : Int32)).toNatClampNeg) (Z.2 (v + (3 : Int32)).toNatClampNeg) (Z.2 (v + (4 : Int32)).toNatClampNeg) r) (b' := a) hI' (st_c rfl rfl rfl hf1 (Nat.le_of_ble_eq_true rfl)) rfl (Nat.le_of_ble_eq_true rfl) (fun _ => rfl) (fun w h => mc_rests hA h) (fun y W'' hy hI'' => ?_)
  refine EV.br (c1 := (1187, [some (.ref 903), some (.ref 0), some (.ref 39), some (.int v)], [], W'', lg, sl)) (c2 := (905, [some (.ref 903), some (.ref 0), some (.ref 39), some (.int v)], [], W'', lg, sl)) rfl (fun _ => hk _ _ _ _ hA (hI''.up (by omega))) (fun h => absurd (A_rests_un hx hy) h)
set_option maxRecDepth 100000 in
theorem op_alike {v : Int32} (h1 : vp_in (v + (1 : Int32)) Z.1) (hA : AOk a) (hI : LI a a W lg sl n) (hk : ∀ a' W' lg' sl', AOk a' → LI a' a' W' lg' sl' (n + 1) → EV (ax_GG Z) m_L_law P (1187, [some (.ref 903), some (.ref 0), some (.ref 39), some (.int v)], [], W', lg', sl')) : EV (ax_GG Z) m_L_law P (907, [some (.ref 903), some (.ref 0), some (.ref 39), some (.int v)], [], W, lg, sl) := by
  obtain ⟨⟨f0, hf0⟩, -⟩ := LI_0 hI
  have h9 := LI_9 hI
  refine EV.seg (c' := (908, [some (.ref 903), some (.ref 0), some (.ref 39), some (.int v)], [.ref 0], W, lg, sl)) 1 rfl trivial ?_
  refine EV.ld (k := 4) (i := v + (1 : Int32)) (pc' := 912) rfl rfl h9 h1 ?_
  show EV _ _ _ (913, [some (.ref 903), some (.ref 0), some (.ref 39), some (.int v)], [.int (Z.2 (v + (1 : Int32)).toNatClampNeg), .ref 0], W, lg, sl)
  refine lq (A := fun r => A_alike a (Z.2 (v + (1 : Int32)).toNatClampNeg) r) hA hI (st_c rfl rfl rfl hf0 (Nat.le_of_ble_eq_true rfl)) rfl (Nat.le_of_ble_eq_true rfl) (fun _ => rfl) (fun hf rl im gs rc nx w t h => ec_alike_N hA hf h) (fun i len code hf rl im gs rc nx w t hrl hR h => ec_alike_R hA hf hrl hR h) (fun x W' hx hI' => ?_)
  obtain ⟨-, f1, hf1⟩ := LI_0 hI'
  have h9' := LI_9 hI'
  refine EV.seg (c' := (917, [some (.ref 903), some (.ref 0), some (.ref 39), some (.int v)], [.ref 39, .int x], W', lg, sl)) 1 rfl trivial ?_
  refine EV.ld (k := 4) (i := v + (1 : Int32)) (pc' := 921) rfl rfl h9' h1 ?_
  show EV _ _ _ (922, [some (.ref 903), some (.ref 0), some (.ref 39), some (.int v)], [.int (Z.2 (v + (1 : Int32)).toNatClampNeg), .ref 39, .int x], W', lg, sl)
  refine lm (A := fun r => A_alike a (Z.2 (v + (1 : Int32)).toNatClampNeg) r) (b' := a) hI' (st_c rfl rfl rfl hf1 (Nat.le_of_ble_eq_true rfl)) rfl (Nat.le_of_ble_eq_true rfl) (fun _ => rfl) (fun w h => mc_alike hA h) (fun y W'' hy hI'' => ?_)
  refine EV.br (c1 := (1187, [some (.ref 903), some (.ref 0), some (.ref 39), some (.int v)], [], W'', lg, sl)) (c2 := (928, [some (.ref 903), some (.ref 0), some (.ref 39), some (.int v)], [], W'', lg, sl)) rfl (fun _ => hk _ _ _ _ hA (hI''.up (by omega))) (fun h => absurd (A_alike_un hx hy) h)
set_option maxRecDepth 100000 in
theorem op_leapsOf {v : Int32} (h1 : vp_in (v + (1 : Int32)) Z.1) (hA : AOk a) (hI : LI a a W lg sl n) (hk : ∀ a' W' lg' sl', AOk a' → LI a' a' W' lg' sl' (n + 1) → EV (ax_GG Z) m_L_law P (1187, [some (.ref 903), some (.ref 0), some (.ref 39), some (.int v)], [], W', lg', sl')) : EV (ax_GG Z) m_L_law P (808, [some (.ref 903), some (.ref 0), some (.ref 39), some (.int v)], [], W, lg, sl) := by
  obtain ⟨⟨f0, hf0⟩, -⟩ := LI_0 hI
  have h9 := LI_9 hI
  refine EV.seg (c' := (809, [some (.ref 903), some (.ref 0), some (.ref 39), some (.int v)], [.ref 0], W, lg, sl)) 1 rfl trivial ?_
  refine EV.ld (k := 4) (i := v + (1 : Int32)) (pc' := 813) rfl rfl h9 h1 ?_
  show EV _ _ _ (814, [some (.ref 903), some (.ref 0), some (.ref 39), some (.int v)], [.int (Z.2 (v + (1 : Int32)).toNatClampNeg), .ref 0], W, lg, sl)
  refine lq (A := fun r => A_leapsOf a (Z.2 (v + (1 : Int32)).toNatClampNeg) r) hA hI (st_c rfl rfl rfl hf0 (Nat.le_of_ble_eq_true rfl)) rfl (Nat.le_of_ble_eq_true rfl) (fun _ => rfl) (fun hf rl im gs rc nx w t h => ec_leapsOf_N hA hf h) (fun i len code hf rl im gs rc nx w t hrl hR h => ec_leapsOf_R hA hf hrl hR h) (fun x W' hx hI' => ?_)
  obtain ⟨-, f1, hf1⟩ := LI_0 hI'
  have h9' := LI_9 hI'
  refine EV.seg (c' := (818, [some (.ref 903), some (.ref 0), some (.ref 39), some (.int v)], [.ref 39, .int x], W', lg, sl)) 1 rfl trivial ?_
  refine EV.ld (k := 4) (i := v + (1 : Int32)) (pc' := 822) rfl rfl h9' h1 ?_
  show EV _ _ _ (823, [some (.ref 903), some (.ref 0), some (.ref 39), some (.int v)], [.int (Z.2 (v + (1 : Int32)).toNatClampNeg), .ref 39, .int x], W', lg, sl)
  refine lm (A := fun r => A_leapsOf a (Z.2 (v + (1 : Int32)).toNatClampNeg) r) (b' := a) hI' (st_c rfl rfl rfl hf1 (Nat.le_of_ble_eq_true rfl)) rfl (Nat.le_of_ble_eq_true rfl) (fun _ => rfl) (fun w h => mc_leapsOf hA h) (fun y W'' hy hI'' => ?_)
  refine EV.br (c1 := (1187, [some (.ref 903), some (.ref 0), some (.ref 39), some (.int v)], [], W'', lg, sl)) (c2 := (829, [some (.ref 903), some (.ref 0), some (.ref 39), some (.int v)], [], W'', lg, sl)) rfl (fun _ => hk _ _ _ _ hA (hI''.up (by omega))) (fun h => absurd (A_leapsOf_un hx hy) h)
set_option maxRecDepth 100000 in
theorem op_backsOf {v : Int32} (h1 : vp_in (v + (1 : Int32)) Z.1) (hA : AOk a) (hI : LI a a W lg sl n) (hk : ∀ a' W' lg' sl', AOk a' → LI a' a' W' lg' sl' (n + 1) → EV (ax_GG Z) m_L_law P (1187, [some (.ref 903), some (.ref 0), some (.ref 39), some (.int v)], [], W', lg', sl')) : EV (ax_GG Z) m_L_law P (831, [some (.ref 903), some (.ref 0), some (.ref 39), some (.int v)], [], W, lg, sl) := by
  obtain ⟨⟨f0, hf0⟩, -⟩ := LI_0 hI
  have h9 := LI_9 hI
  refine EV.seg (c' := (832, [some (.ref 903), some (.ref 0), some (.ref 39), some (.int v)], [.ref 0], W, lg, sl)) 1 rfl trivial ?_
  refine EV.ld (k := 4) (i := v + (1 : Int32)) (pc' := 836) rfl rfl h9 h1 ?_
  show EV _ _ _ (837, [some (.ref 903), some (.ref 0), some (.ref 39), some (.int v)], [.int (Z.2 (v + (1 : Int32)).toNatClampNeg), .ref 0], W, lg, sl)
  refine lq (A := fun r => A_backsOf a (Z.2 (v + (1 : Int32)).toNatClampNeg) r) hA hI (st_c rfl rfl rfl hf0 (Nat.le_of_ble_eq_true rfl)) rfl (Nat.le_of_ble_eq_true rfl) (fun _ => rfl) (fun hf rl im gs rc nx w t h => ec_backsOf_N hA hf h) (fun i len code hf rl im gs rc nx w t hrl hR h => ec_backsOf_R hA hf hrl hR h) (fun x W' hx hI' => ?_)
  obtain ⟨-, f1, hf1⟩ := LI_0 hI'
  have h9' := LI_9 hI'
  refine EV.seg (c' := (841, [some (.ref 903), some (.ref 0), some (.ref 39), some (.int v)], [.ref 39, .int x], W', lg, sl)) 1 rfl trivial ?_
  refine EV.ld (k := 4) (i := v + (1 : Int32)) (pc' := 845) rfl rfl h9' h1 ?_
  show EV _ _ _ (846, [some (.ref 903), some (.ref 0), some (.ref 39), some (.int v)], [.int (Z.2 (v + (1 : Int32)).toNatClampNeg), .ref 39, .int x], W', lg, sl)
  refine lm (A := fun r => A_backsOf a (Z.2 (v + (1 : Int32)).toNatClampNeg) r) (b' := a) hI' (st_c rfl rfl rfl hf1 (Nat.le_of_ble_eq_true rfl)) rfl (Nat.le_of_ble_eq_true rfl) (fun _ => rfl) (fun w h => mc_backsOf hA h) (fun y W'' hy hI'' => ?_)
  refine EV.br (c1 := (1187, [some (.ref 903), some (.ref 0), some (.ref 39), some (.int v)], [], W'', lg, sl)) (c2 := (852, [some (.ref 903), some (.ref 0), some (.ref 39), some (.int v)], [], W'', lg, sl)) rfl (fun _ => hk _ _ _ _ hA (hI''.up (by omega))) (fun h => absurd (A_backsOf_un hx hy) h)
set_option maxRecDepth 100000 in
theorem op_stumbles {v : Int32} (h1 : vp_in (v + (1 : Int32)) Z.1) (h2 : vp_in (v + (2 : Int32)) Z.1) (h3 : vp_in (v + (3 : Int32)) Z.1) (h4 : vp_in (v + (4 : Int32)) Z.1) (hA : AOk a) (hI : LI a a W lg sl n) (hk : ∀ a' W' lg' sl', AOk a' → LI a' a' W' lg' sl' (n + 1) → EV (ax_GG Z) m_L_law P (1187, [some (.ref 903), some (.ref 0), some (.ref 39), some (.int v)], [], W', lg', sl')) : EV (ax_GG Z) m_L_law P (1065, [some (.ref 903), some (.ref 0), some (.ref 39), some (.int v)], [], W, lg, sl) := by
  obtain ⟨⟨f0, hf0⟩, -⟩ := LI_0 hI
  have h9 := LI_9 hI
  refine EV.seg (c' := (1066, [some (.ref 903), some (.ref 0), some (.ref 39), some (.int v)], [.ref 0], W, lg, sl)) 1 rfl trivial ?_
  refine EV.ld (k := 4) (i := v + (1 : Int32)) (pc' := 1070) rfl rfl h9 h1 ?_
  refine EV.ld (k := 4) (i := v + (2 : Int32)) (pc' := 1075) rfl rfl h9 h2 ?_
  refine EV.ld (k := 4) (i := v + (3 : Int32)) (pc' := 1080) rfl rfl h9 h3 ?_
  refine EV.ld (k := 4) (i := v + (4 : Int32)) (pc' := 1085) rfl rfl h9 h4 ?_
  show EV _ _ _ (1086, [some (.ref 903), some (.ref 0), some (.ref 39), some (.int v)], [.int (Z.2 (v + (4 : Int32)).toNatClampNeg), .int (Z.2 (v + (3 : Int32)).toNatClampNeg), .int (Z.2 (v + (2 : Int32)).toNatClampNeg), .int (Z.2 (v + (1 : Int32)).toNatClampNeg), .ref 0], W, lg, sl)
  refine lq (A := fun r => A_stumbles a (Z.2 (v + (1 : Int32)).toNatClampNeg) (Z.2 (v + (2 : Int32)).toNatClampNeg) (Z.2 (v + (3 : Int32)).toNatClampNeg) (Z.2 (v + (4 : Int32)).toNatClampNeg) r) hA hI (st_c rfl rfl rfl hf0 (Nat.le_of_ble_eq_true rfl)) rfl (Nat.le_of_ble_eq_true rfl) (fun _ => rfl) (fun hf rl im gs rc nx w t h => ec_stumbles_N hA hf h) (fun i len code hf rl im gs rc nx w t hrl hR h => ec_stumbles_R hA hf hrl hR h) (fun x W' hx hI' => ?_)
  obtain ⟨-, f1, hf1⟩ := LI_0 hI'
  have h9' := LI_9 hI'
  refine EV.seg (c' := (1090, [some (.ref 903), some (.ref 0), some (.ref 39), some (.int v)], [.ref 39, .int x], W', lg, sl)) 1 rfl trivial ?_
  refine EV.ld (k := 4) (i := v + (1 : Int32)) (pc' := 1094) rfl rfl h9' h1 ?_
  refine EV.ld (k := 4) (i := v + (2 : Int32)) (pc' := 1099) rfl rfl h9' h2 ?_
  refine EV.ld (k := 4) (i := v + (3 : Int32)) (pc' := 1104) rfl rfl h9' h3 ?_
  refine EV.ld (k := 4) (i := v + (4 : Int32)) (pc' := 1109) rfl rfl h9' h4 ?_
  show EV _ _ _ (1110, [some (.ref 903), some (.ref 0), some (.ref 39), some (.int v)], [.int (Z.2 (v + (4 : Int32)).toNatClampNeg), .int (Z.2 (v + (3 : Int32)).toNatClampNeg), .int (Z.2 (v + (2 : Int32)).toNatClampNeg), .int (Z.2 (v + (1 : Int32)).toNatClampNeg), .ref 39, .int x], W', lg, sl)
  refine lm (A := fun r => A_stumbles a (Z.2 (v + (1 : Int32)).toNatClampNeg) (Z.2 (v + (2 : Int32)).toNatClampNeg) (Z.2 (v + (3 : Int32)).toNatClampNeg) (Z.2 (v + (4 : Int32)).toNatClampNeg) r) (b' := a) hI' (st_c rfl rfl rfl hf1 (Nat.le_of_ble_eq_true rfl)) rfl (Nat.le_of_ble_eq_true rfl) (fun _ => rfl) (fun w h => mc_stumbles hA h) (fun y W'' hy hI'' => ?_)
  refine EV.br (c1 := (1187, [some (.ref 903), some (.ref 0), some (.ref 39), some (.int v)], [], W'', lg, sl)) (c2 := (1116, [some (.ref 903), some (.ref 0), some (.ref 39), some (.int v)], [], W'', lg, sl)) rfl (fun _ => hk _ _ _ _ hA (hI''.up (by omega))) (fun h => absurd (A_stumbles_un hx hy) h)
set_option maxRecDepth 100000 in
theorem op_ruled {v : Int32} (h1 : vp_in (v + (1 : Int32)) Z.1) (hA : AOk a) (hI : LI a a W lg sl n) (hk : ∀ a' W' lg' sl', AOk a' → LI a' a' W' lg' sl' (n + 1) → EV (ax_GG Z) m_L_law P (1187, [some (.ref 903), some (.ref 0), some (.ref 39), some (.int v)], [], W', lg', sl')) : EV (ax_GG Z) m_L_law P (996, [some (.ref 903), some (.ref 0), some (.ref 39), some (.int v)], [], W, lg, sl) := by
  obtain ⟨⟨f0, hf0⟩, -⟩ := LI_0 hI
  have h9 := LI_9 hI
  refine EV.seg (c' := (997, [some (.ref 903), some (.ref 0), some (.ref 39), some (.int v)], [.ref 0], W, lg, sl)) 1 rfl trivial ?_
  refine EV.ld (k := 4) (i := v + (1 : Int32)) (pc' := 1001) rfl rfl h9 h1 ?_
  show EV _ _ _ (1002, [some (.ref 903), some (.ref 0), some (.ref 39), some (.int v)], [.int (Z.2 (v + (1 : Int32)).toNatClampNeg), .ref 0], W, lg, sl)
  refine lzr (A := fun r => A_ruled a (Z.2 (v + (1 : Int32)).toNatClampNeg) r) hA hI (st_c rfl rfl rfl hf0 (Nat.le_of_ble_eq_true rfl)) rfl (Nat.le_of_ble_eq_true rfl) (fun _ => rfl) (fun rl im gs rc nx w zs hz h => ec_ruled hA hz h) (fun x W' hx hI' => ?_)
  obtain ⟨-, f1, hf1⟩ := LI_0 hI'
  have h9' := LI_9 hI'
  refine EV.seg (c' := (1006, [some (.ref 903), some (.ref 0), some (.ref 39), some (.int v)], [.ref 39, .int x], W', lg, sl)) 1 rfl trivial ?_
  refine EV.ld (k := 4) (i := v + (1 : Int32)) (pc' := 1010) rfl rfl h9' h1 ?_
  show EV _ _ _ (1011, [some (.ref 903), some (.ref 0), some (.ref 39), some (.int v)], [.int (Z.2 (v + (1 : Int32)).toNatClampNeg), .ref 39, .int x], W', lg, sl)
  refine lm (A := fun r => A_ruled a (Z.2 (v + (1 : Int32)).toNatClampNeg) r) (b' := a) hI' (st_c rfl rfl rfl hf1 (Nat.le_of_ble_eq_true rfl)) rfl (Nat.le_of_ble_eq_true rfl) (fun _ => rfl) (fun w h => mc_ruled hA h) (fun y W'' hy hI'' => ?_)
  refine EV.br (c1 := (1187, [some (.ref 903), some (.ref 0), some (.ref 39), some (.int v)], [], W'', lg, sl)) (c2 := (1017, [some (.ref 903), some (.ref 0), some (.ref 39), some (.int v)], [], W'', lg, sl)) rfl (fun _ => hk _ _ _ _ hA (hI''.up (by omega))) (fun h => absurd (A_ruled_un hx hy) h)
set_option maxRecDepth 100000 in
theorem op_look {v : Int32} (h1 : vp_in (v + (1 : Int32)) Z.1) (hA : AOk a) (hI : LI a a W lg sl n) (hk : ∀ a' W' lg' sl', AOk a' → LI a' a' W' lg' sl' (n + 1) → EV (ax_GG Z) m_L_law P (1187, [some (.ref 903), some (.ref 0), some (.ref 39), some (.int v)], [], W', lg', sl')) : EV (ax_GG Z) m_L_law P (1019, [some (.ref 903), some (.ref 0), some (.ref 39), some (.int v)], [], W, lg, sl) := by
  obtain ⟨⟨f0, hf0⟩, -⟩ := LI_0 hI
  have h9 := LI_9 hI
  refine EV.seg (c' := (1020, [some (.ref 903), some (.ref 0), some (.ref 39), some (.int v)], [.ref 0], W, lg, sl)) 1 rfl trivial ?_
  refine EV.ld (k := 4) (i := v + (1 : Int32)) (pc' := 1024) rfl rfl h9 h1 ?_
  show EV _ _ _ (1025, [some (.ref 903), some (.ref 0), some (.ref 39), some (.int v)], [.int (Z.2 (v + (1 : Int32)).toNatClampNeg), .ref 0], W, lg, sl)
  refine lzr (A := fun r => A_look a (Z.2 (v + (1 : Int32)).toNatClampNeg) r) hA hI (st_c rfl rfl rfl hf0 (Nat.le_of_ble_eq_true rfl)) rfl (Nat.le_of_ble_eq_true rfl) (fun _ => rfl) (fun rl im gs rc nx w zs hz h => ec_look hA hz h) (fun x W' hx hI' => ?_)
  obtain ⟨-, f1, hf1⟩ := LI_0 hI'
  have h9' := LI_9 hI'
  refine EV.seg (c' := (1029, [some (.ref 903), some (.ref 0), some (.ref 39), some (.int v)], [.ref 39, .int x], W', lg, sl)) 1 rfl trivial ?_
  refine EV.ld (k := 4) (i := v + (1 : Int32)) (pc' := 1033) rfl rfl h9' h1 ?_
  show EV _ _ _ (1034, [some (.ref 903), some (.ref 0), some (.ref 39), some (.int v)], [.int (Z.2 (v + (1 : Int32)).toNatClampNeg), .ref 39, .int x], W', lg, sl)
  refine lm (A := fun r => A_look a (Z.2 (v + (1 : Int32)).toNatClampNeg) r) (b' := a) hI' (st_c rfl rfl rfl hf1 (Nat.le_of_ble_eq_true rfl)) rfl (Nat.le_of_ble_eq_true rfl) (fun _ => rfl) (fun w h => mc_look hA h) (fun y W'' hy hI'' => ?_)
  refine EV.br (c1 := (1187, [some (.ref 903), some (.ref 0), some (.ref 39), some (.int v)], [], W'', lg, sl)) (c2 := (1040, [some (.ref 903), some (.ref 0), some (.ref 39), some (.int v)], [], W'', lg, sl)) rfl (fun _ => hk _ _ _ _ hA (hI''.up (by omega))) (fun h => absurd (A_look_un hx hy) h)
end LOP
