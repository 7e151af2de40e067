/-! the law: rules one after another; a step that calls -/
section LLK
variable {Z : Nat × (Nat → Int32)} {a b : aS} {gs : Nat → Option Nat} {rc : Value} {nx : Nat} {w t W : ax_W} {lg : List Nat} {sl n : Nat}
def ZT (zs : Nat → Option (Nat × (Nat → Int32))) : ax_W := [ax_r1 (zs 0) 40, ax_r2 (zs 0), ax_r1 (zs 1) 42, ax_r2 (zs 1), ax_r1 (zs 2) 44, ax_r2 (zs 2), ax_r1 (zs 3) 46, ax_r2 (zs 3), ax_r1 (zs 4) 48, ax_r2 (zs 4), ax_r1 (zs 5) 50, ax_r2 (zs 5)]
theorem rnm_r {f : Nat → Nat} {z : Option (Nat × (Nat → Int32))} {k : Nat} : rnm f [ax_r1 z k, ax_r2 z] = [ax_r1 z (f k), ax_r2 z] := by
  cases z with
  | none => rfl
  | some x => rfl
theorem lzr {M' : ax_M} {As st r : List Value} {pc pn j : Nat} {ls0 ls : ax_L} {P : ax_E → Prop} {A : Int32 → Prop} (hA : AOk a) (hI : LI a b W lg sl n)
    (hs : ax_step (ax_GG Z) (ax_tab m_L_law) (pc, ls0, st, W, lg, sl) = some (.inr (.inr (.inr (j, .ref 0 :: As, some (lw_c (bl (64 + 9) 12)), pn, ls, r))))) (hj : (ax_GG Z).2.2.2[j]? = some M') (hl : (ax_lay (.ref 0 :: As)).length ≤ M'.2.2.1) (hAs : ∀ f, As.map (ax_rv f) = As)
    (hE : ∀ (rl im gs : Nat → Option Nat) (rc : Value) (nx : Nat) (w : ax_W) (zs : Nat → Option (Nat × (Nat → Int32))), zOk 6000 a rl zs → CRel a rl im gs rc nx w (ZT zs) → EM (ax_GG Z) M' (.ref 0 :: As) w (fun out => ∃ x w', out = (some (.int x), w', [], 0) ∧ A x ∧ CRel a rl im gs rc nx w' (ZT zs)))
    (hk : ∀ x W', A x → LI a b W' lg sl n → EV (ax_GG Z) m_L_law P (pn, ls, .int x :: r, W', lg, sl)) : EV (ax_GG Z) m_L_law P (pc, ls0, st, W, lg, sl) := by
  obtain ⟨w, t, gs, rc, nx, hC, hM, hT, hG, g1, g2⟩ := hI
  have hw := MR_len hM
  have h6 := hA.2.2.1
  have hz : ∀ i, i < 6 → ∃ z : Option (Nat × (Nat → Int32)), tk t (9 + 2 * i) 2 = [ax_r1 z (74 + 2 * i), ax_r2 z] ∧ (i < a_r a → ∃ l c, z = some (l, c) ∧ cR 6000 c l (rFn a i)) := by
    intro i hi
    by_cases e : i < a_r a
    · obtain ⟨len, code, q1, q2⟩ := (hT.2.2.1 i hi).1 e
      refine ⟨some (len, code), ?_, fun _ => ⟨len, code, rfl, q2⟩⟩
      rw [q1]
      unfold RC
      rw [show 73 + 2 * i + 1 = 74 + 2 * i by omega]
      rfl
    · exact ⟨none, (hT.2.2.1 i hi).2 (by omega), fun h => absurd h e⟩
  obtain ⟨z0, p0, q0⟩ := hz 0 (by omega)
  obtain ⟨z1, p1, q1⟩ := hz 1 (by omega)
  obtain ⟨z2, p2, q2⟩ := hz 2 (by omega)
  obtain ⟨z3, p3, q3⟩ := hz 3 (by omega)
  obtain ⟨z4, p4, q4⟩ := hz 4 (by omega)
  obtain ⟨z5, p5, q5⟩ := hz 5 (by omega)
  let zs : Nat → Option (Nat × (Nat → Int32)) := fun i => match i with
    | 0 => z0
    | 1 => z1
    | 2 => z2
    | 3 => z3
    | 4 => z4
    | _ => z5
  have hcut : rnm (ax_tau (lw_c (bl (64 + 9) 12))) (tk t 9 12) = ZT zs := by
    have e : tk t 9 12 = tk t (9 + 2 * 0) 2 ++ (tk t (9 + 2 * 1) 2 ++ (tk t (9 + 2 * 2) 2 ++ (tk t (9 + 2 * 3) 2 ++ (tk t (9 + 2 * 4) 2 ++ tk t (9 + 2 * 5) 2)))) := rfl
    rw [e, p0, p1, p2, p3, p4, p5, rnm_app, rnm_app, rnm_app, rnm_app, rnm_app, rnm_r, rnm_r, rnm_r, rnm_r, rnm_r, rnm_r]
    rfl
  have hzok : zOk 6000 a (rn (lw_c (bl (64 + 9) 12)) (RLs a)) zs := by
    intro j hj
    refine ⟨?_, ?_⟩
    · refine rn_in (g := RLs a) bl_nd (fun k hk => by have := mem_bl.mp hk; omega) (bl_at (q := 2 * j) (by omega)) ?_
      rw [RL_at hj]
    · have : j = 0 ∨ j = 1 ∨ j = 2 ∨ j = 3 ∨ j = 4 ∨ j = 5 := by omega
      rcases this with rfl | rfl | rfl | rfl | rfl | rfl
      · exact q0 hj
      · exact q1 hj
      · exact q2 hj
      · exact q3 hj
      · exact q4 hj
      · exact q5 hj
  refine lw_keep hs hj hl hAs (by omega) hC hw hT.1 (fun w0 h0 => ?_) (fun x W' hx hC' => hk x W' hx ⟨w, t, gs, rc, nx, hC', hM, hT, hG, g1, g2⟩)
  rw [hcut] at h0 ⊢
  exact hE _ _ _ _ _ _ zs hzok h0
theorem LI_0 (h : LI a b W lg sl n) : (∃ fs, ax_nth W 0 = some (.inr (11, fs))) ∧ ∃ fs, ax_nth W 39 = some (.inr (12, fs)) := by
  obtain ⟨w, t, gs, rc, nx, hC, hM, -⟩ := h
  refine CRel_e hC (fun c_rulesMany p_bytes p_length p_at p_sign p_place p_number p_fault z_tape z_lane q_tape q_state q_sum q_clauses q_values q_tested q_code q_length q_pile q_top q_depth q_open s_l_told s_l_spring s_l_many s_l_back s_l_leap s_l_breath s_g_turn s_g_order s_g_back s_g_breath s_g_leapt s_n_many s_n_turns s_n_children s_inForce s_x a_many u_words u_pile t_turn t_order t_back t_breath t_leapt k_told k_spring k_many k_back k_leap k_breath c_marks c_firsts c_gains hw_ hT hr hS hm => ?_)
  subst hw_
  obtain ⟨m_tape, m_taped, m_rules, m_sign, m_length, m_clause, m_clauses, m_read, m_next, m_wrong, m_number, m_text, m_made, m_deep, m_lines, m_open, m_opened, m_stack, m_top, m_word, m_said, m_force, m_x, m_wasSaid, m_undone, m_row, m_rowThen, m_far, m_queue, m_reached, m_stepWho, m_stepBacks, m_kept, m_hasBy, m_standsThen, m_isFit, m_firstThen, m_drawX, m_images, m_imageForce, m_imageX, m_isMade, rfl, hR⟩ := hM
  exact ⟨⟨_, rfl⟩, _, rfl⟩
theorem st_call {G : ax_G} {M : ax_M} {pc y i c0 j d : Nat} {s0 : Int32} {cv : Int32} {cl : Int64} {sws : List (Int32 × Nat)} {isf : List Value → ax_W → Option (List Nat)} {ls : ax_L} {st As r fs : List Value} (hrow : ax_nth (ax_tab M) pc = some (.invokevirtual i, 3, j, d, 0, cv, cl, (s0, c0) :: sws, isf, none)) (hpop : ax_pop d st [] = some (.ref y :: As, r)) (hy : ax_nth W y = some (.inr (c0, fs))) (hcs : ax_cs r ≤ 8) : ax_step G (ax_tab M) (pc, ls, st, W, lg, sl) = some (.inr (.inr (.inr (j, .ref y :: As, isf st W, pc + 3, ls, r)))) := by
  unfold ax_step
  simp only [hrow, ax_keep]
  unfold ax_do
  simp only [hpop, hy, if_pos hcs, if_true]
variable {v0 v1 v2 v3 v4 : Int32}
theorem fs_feed : RLs (F_feed a v0 v1 v2 v3 v4).2 = RLs a ∧ IMs (F_feed a v0 v1 v2 v3 v4).2 = IMs a ∧ ∀ gs rc nx t, TIn a gs rc nx t → TIn (F_feed a v0 v1 v2 v3 v4).2 gs rc nx t := by
  unfold F_feed
  split <;> exact ⟨rfl, rfl, fun _ _ _ _ h => h⟩
theorem fs_end : RLs (F_end a v0).2 = RLs a ∧ IMs (F_end a v0).2 = IMs a ∧ ∀ gs rc nx t, TIn a gs rc nx t → TIn (F_end a v0).2 gs rc nx t := by
  unfold F_end
  split <;> exact ⟨rfl, rfl, fun _ _ _ _ h => h⟩
theorem fs_force : RLs (F_force a v0).2 = RLs a ∧ IMs (F_force a v0).2 = IMs a ∧ ∀ gs rc nx t, TIn a gs rc nx t → TIn (F_force a v0).2 gs rc nx t := by
  unfold F_force
  split <;> exact ⟨rfl, rfl, fun _ _ _ _ h => h⟩
theorem fs_seed : RLs (F_seed a v0).2 = RLs a ∧ IMs (F_seed a v0).2 = IMs a ∧ ∀ gs rc nx t, TIn a gs rc nx t → TIn (F_seed a v0).2 gs rc nx t := by
  unfold F_seed
  split <;> exact ⟨rfl, rfl, fun _ _ _ _ h => h⟩
theorem fs_note : RLs (F_note a v0 v1).2 = RLs a ∧ IMs (F_note a v0 v1).2 = IMs a ∧ ∀ gs rc nx t, TIn a gs rc nx t → TIn (F_note a v0 v1).2 gs rc nx t := by
  unfold F_note
  split
  · exact ⟨rfl, rfl, fun _ _ _ _ h => h⟩
  · split
    · exact ⟨rfl, rfl, fun _ _ _ _ h => h⟩
    · split <;> exact ⟨rfl, rfl, fun _ _ _ _ h => h⟩
theorem fs_lane : RLs (F_lane a).2 = RLs a ∧ IMs (F_lane a).2 = IMs a ∧ ∀ gs rc nx t, TIn a gs rc nx t → TIn (F_lane a).2 gs rc nx t := by
  unfold F_lane
  split
  · exact ⟨rfl, rfl, fun _ _ _ _ h => h⟩
  · exact ⟨rfl, rfl, fun _ _ _ _ h => ⟨h.1, h.2.1, h.2.2.1, h.2.2.2.1, h.2.2.2.2.1, h.2.2.2.2.2.1, h.2.2.2.2.2.2.1, fun i hi => absurd hi (Nat.not_lt_zero i)⟩⟩
end LLK
