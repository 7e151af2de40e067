/-! the law: a rule; images; rules one after another; the reference's calls -/
section LRE
variable {Z : Nat × (Nat → Int32)} {a b : aS} {rl im gs : Nat → Option Nat} {rc : Value} {nx : Nat} {w t W v : ax_W} {lg : List Nat} {sl n : Nat}
def mkR (a : aS) : aS := setR (setT a (a_b a) 0) (fun i => if i = a_r a then p_d (told a) else a_d a i) (a_r a + 1)
theorem RL_up : va_up (RLs a) (a_r a) (some (73 + 2 * a_r a)) = RLs (mkR a) := by
  funext i
  show (if i = a_r a then some (73 + 2 * a_r a) else RLs a i) = if i < a_r a + 1 then some (73 + 2 * i) else none
  by_cases e : i = a_r a
  · rw [if_pos e, if_pos (by omega), e]
  · rw [if_neg e]
    unfold RLs
    by_cases h : i < a_r a
    · rw [if_pos h, if_pos (by omega)]
    · rw [if_neg h, if_neg (by omega)]
theorem RC_some {c len : Nat} {code : Nat → Int32} : ∀ q, q < 2 → ∃ e, ax_nth (RC c len code) q = some e := by
  intro q hq
  have : q = 0 ∨ q = 1 := by omega
  rcases this with rfl | rfl <;> exact ⟨_, rfl⟩
theorem ln {M' : ax_M} {st r : List Value} {pc pn j : Nat} {ls0 ls : ax_L} {P : ax_E → Prop} (hA : AOk a) (h6 : a_r a ≠ 6) (hf : p_f (told a) = 0) (hI : LI a b W lg sl n)
    (hs : ax_step (ax_GG Z) (ax_tab m_L_law) (pc, ls0, st, W, lg, sl) = some (.inr (.inr (.inr (j, [.ref 0], some (lw_c (bl (64 + (9 + 2 * a_r a)) 2)), pn, ls, r))))) (hj : (ax_GG Z).2.2.2[j]? = some M') (hl : (ax_lay [.ref 0]).length ≤ M'.2.2.1)
    (hE : ∀ (rl im gs : Nat → Option Nat) (rc : Value) (nx : Nat) (w : ax_W), CRel a rl im gs rc nx w [none, none] → EM (ax_GG Z) M' [.ref 0] w (fun out => ∃ w' code, out = (some (.int (jn (a_r a : Int))), w', [39, 40], 1 + (fl (p_d (told a))).length) ∧ lA code (fl (p_d (told a))) ∧ CRel (mkR a) (va_up rl (a_r a) (some 39)) im gs rc nx w' (RC 39 (fl (p_d (told a))).length code)))
    (hk : ∀ W' lg' sl', LI (mkR a) b W' lg' sl' (n + 1) → EV (ax_GG Z) m_L_law P (pn, ls, .int (jn (a_r a : Int)) :: r, W', lg', sl')) : EV (ax_GG Z) m_L_law P (pc, ls0, st, W, lg, sl) := by
  obtain ⟨w, t, gs, rc, nx, hC, hM, hT, hG, g1, g2⟩ := hI
  have hw := MR_len hM
  have h66 := hA.2.2.1
  obtain ⟨h4, hct⟩ := told_400 hA hf
  obtain ⟨t1, t2, t3, t4, t5, t6, t7, t8⟩ := hT
  have hnd : (bl (64 + (9 + 2 * a_r a)) 2).Nodup := bl_nd
  have hmem : ∀ k ∈ bl (64 + (9 + 2 * a_r a)) 2, 64 ≤ k ∧ k < 239 := fun k hk => by have := mem_bl.mp hk; omega
  have hge := fun k hk => (hmem k hk).1
  have hl8 : (bl (64 + (9 + 2 * a_r a)) 2).length ≤ 800 := by rw [bl_len]; omega
  have hthe : ∀ q, q < 2 → ax_the (lw_c (bl (64 + (9 + 2 * a_r a)) 2)) (39 + q) = 73 + 2 * a_r a + q := fun q hq => by
    rw [the_X (bl_at hq)]; omega
  have hcut := see (L := lw_c (bl (64 + (9 + 2 * a_r a)) 2)) (p := 9 + 2 * a_r a) (m := 2) hC hw
  have e1 := (t3 (a_r a) (by omega)).2 (Nat.le_refl _)
  rw [e1, rnm_nn] at hcut
  refine lw_call hs hj hl rfl hnd hmem hl8 hC hw t1 (fun w0 h0 => hE _ _ _ _ _ w0 (by rw [hcut] at h0; exact h0)) ?_
  rintro out ⟨w', code, rfl, hc, hC'⟩
  have h1 := put_C hC hw hC' hge
  rw [show (39 : Nat) = 39 + 0 from rfl, rb_up hl8 (bl_at (q := 0) (by omega)), show 64 + (9 + 2 * a_r a) + 0 = 73 + 2 * a_r a by omega, RL_up, rb_rn hl8, rb_rn hl8, rv_back hl8, bl_sub, uncut_rnm (v := RC (39 + 0) (fl (p_d (told a))).length code), rnm_RC (b := 39 + 0) (b' := 73 + 2 * a_r a) hthe] at h1
  have hlg : ([39, 40] : List Nat).map (ax_the (lw_c (bl (64 + (9 + 2 * a_r a)) 2))) = bl (64 + (9 + 2 * a_r a)) 2 := by
    rw [show 64 + (9 + 2 * a_r a) = 73 + 2 * a_r a by omega] at hthe ⊢
    exact map_f (b := 39) (n := 2) hthe
  show EV _ _ _ (pn, ls, .int (jn (a_r a : Int)) :: r, _, lg ++ ([39, 40] : List Nat).map (ax_the (lw_c (bl (64 + (9 + 2 * a_r a)) 2))), sl + (1 + (fl (p_d (told a))).length))
  rw [hlg]
  refine hk _ _ _ ⟨w, _, gs, rc, nx, h1, hM, ⟨by rw [ax_put_len]; exact t1, by rw [tk_out (by omega)]; exact t2, fun i hi => ⟨fun hi2 => ?_, fun hi2 => ?_⟩, EIn_put t4 (by omega), IIn_put (a := mkR a) t5 (by omega), GIn_put t6 (by omega), t7, PIn_put (a := mkR a) t8 (by omega)⟩, LG_new hG (by omega) rfl RC_some e1, ?_, by omega⟩
  · have hi2 : i < a_r a + 1 := hi2
    by_cases e : i = a_r a
    · subst e
      refine ⟨_, code, tk_put (by omega) rfl, ?_⟩
      have hd : rFn (mkR a) (a_r a) = fun w => ruv w (p_d (told a)) := by
        funext w
        show ruv w (if a_r a = a_r a then p_d (told a) else a_d a (a_r a)) = _
        rw [if_pos rfl]
      rw [hd]
      exact wl_worth (by omega) (by omega) rfl hc hct
    · obtain ⟨len, cd, q1, q2⟩ := (t3 i hi).1 (by omega)
      refine ⟨len, cd, by rw [tk_out (by omega)]; exact q1, ?_⟩
      have hd : rFn (mkR a) i = rFn a i := by
        funext w
        show ruv w (if i = a_r a then p_d (told a) else a_d a i) = _
        rw [if_neg e]; rfl
      rw [hd]; exact q2
  · have hi2 : a_r a + 1 ≤ i := hi2
    rw [tk_out (by omega)]
    exact (t3 i hi).2 (by omega)
  · rw [List.length_append, bl_len]; omega
def mkI (a : aS) (k : Nat) : aS := setI a (fun j => if j = k then some (a_s a) else a_i a j)
theorem IM_up {k : Nat} (hk : k < 4) : va_up (IMs a) k (some (85 + 13 * k)) = IMs (mkI a k) := by
  funext i
  show (if i = k then some (85 + 13 * k) else IMs a i) = if i < 4 ∧ (if i = k then some (a_s a) else a_i a i).isSome = true then some (85 + 13 * i) else none
  by_cases e : i = k
  · rw [if_pos e, if_pos e, if_pos ⟨by omega, rfl⟩, e]
  · rw [if_neg e, if_neg e]; rfl
theorem IM_no {k : Nat} (h : a_i a k = none) : IMs a k = none := by
  unfold IMs
  rw [h, if_neg (fun q => by cases q.2)]
theorem IM_at {k : Nat} {σ : sS} (hk : k < 4) (h : a_i a k = some σ) : IMs a k = some (85 + 13 * k) := by
  unfold IMs
  rw [h, if_pos ⟨hk, rfl⟩]
theorem IM_same {k : Nat} {σ : sS} (hk : k < 4) (h : a_i a k = some σ) : IMs a = IMs (mkI a k) := by
  rw [← IM_up hk]
  funext i
  show _ = if i = k then some (85 + 13 * k) else IMs a i
  by_cases e : i = k
  · rw [if_pos e, e]; exact IM_at hk h
  · rw [if_neg e]
theorem S13_some {y_l_told : Int32} {y_l_spring : Int32} {y_l_many : Int32} {y_l_back : Nat → Int32} {y_l_leap : Nat → Int32} {y_l_breath : Nat → Int32} {y_g_turn : Int32} {y_g_order : Nat → Int32} {y_g_back : Nat → Int32} {y_g_breath : Nat → Int32} {y_g_leapt : Nat → Int32} {y_n_many : Int32} {y_n_turns : Nat → Int32} {y_n_children : Nat → Int32} {y_inForce : Int32} {y_x : Int32} {c : Nat} : ∀ q, q < 13 → ∃ e, ax_nth (S13 c y_l_told y_l_spring y_l_many y_l_back y_l_leap y_l_breath y_g_turn y_g_order y_g_back y_g_breath y_g_leapt y_n_many y_n_turns y_n_children y_inForce y_x) q = some e := by
  intro q hq
  have : q = 0 ∨ q = 1 ∨ q = 2 ∨ q = 3 ∨ q = 4 ∨ q = 5 ∨ q = 6 ∨ q = 7 ∨ q = 8 ∨ q = 9 ∨ q = 10 ∨ q = 11 ∨ q = 12 := by omega
  rcases this with rfl | rfl | rfl | rfl | rfl | rfl | rfl | rfl | rfl | rfl | rfl | rfl | rfl <;> exact ⟨_, rfl⟩
theorem li {M' : ax_M} {As st r : List Value} {pc pn j k : Nat} {ls0 ls : ax_L} {P : ax_E → Prop} {x : Int32} (hk4 : k < 4) (hI : LI a b W lg sl n)
    (hs : ax_step (ax_GG Z) (ax_tab m_L_law) (pc, ls0, st, W, lg, sl) = some (.inr (.inr (.inr (j, .ref 0 :: As, some (lw_c (bl (64 + (21 + 13 * k)) 13)), pn, ls, r))))) (hj : (ax_GG Z).2.2.2[j]? = some M') (hl : (ax_lay (.ref 0 :: As)).length ≤ M'.2.2.1) (hAs : ∀ f, As.map (ax_rv f) = As)
    (hEA : ∀ (rl im gs : Nat → Option Nat) (rc : Value) (nx : Nat) (w : ax_W), im k = none → CRel a rl im gs rc nx w (nn 13) → EM (ax_GG Z) M' (.ref 0 :: As) w (fun out => ∃ (w' : ax_W) (y_l_told : Int32) (y_l_spring : Int32) (y_l_many : Int32) (y_l_back : Nat → Int32) (y_l_leap : Nat → Int32) (y_l_breath : Nat → Int32) (y_g_turn : Int32) (y_g_order : Nat → Int32) (y_g_back : Nat → Int32) (y_g_breath : Nat → Int32) (y_g_leapt : Nat → Int32) (y_n_many : Int32) (y_n_turns : Nat → Int32) (y_n_children : Nat → Int32) (y_inForce : Int32) (y_x : Int32), out = (some (.int x), w', [39, 40, 41, 42, 43, 44, 45, 46, 47, 48, 49, 50, 51], 88) ∧ CRel a rl (va_up im k (some 39)) gs rc nx w' (S13 39 y_l_told y_l_spring y_l_many y_l_back y_l_leap y_l_breath y_g_turn y_g_order y_g_back y_g_breath y_g_leapt y_n_many y_n_turns y_n_children y_inForce y_x) ∧ cSt y_l_told y_l_spring y_l_many y_l_back y_l_leap y_l_breath y_g_turn y_g_order y_g_back y_g_breath y_g_leapt y_n_many y_n_turns y_n_children y_inForce y_x (a_s a)))
    (hEP : ∀ (rl im gs : Nat → Option Nat) (rc : Value) (nx : Nat) (w : ax_W) (y_l_told : Int32) (y_l_spring : Int32) (y_l_many : Int32) (y_l_back : Nat → Int32) (y_l_leap : Nat → Int32) (y_l_breath : Nat → Int32) (y_g_turn : Int32) (y_g_order : Nat → Int32) (y_g_back : Nat → Int32) (y_g_breath : Nat → Int32) (y_g_leapt : Nat → Int32) (y_n_many : Int32) (y_n_turns : Nat → Int32) (y_n_children : Nat → Int32) (y_inForce : Int32) (y_x : Int32), im k = some 39 → CRel a rl im gs rc nx w (S13 39 y_l_told y_l_spring y_l_many y_l_back y_l_leap y_l_breath y_g_turn y_g_order y_g_back y_g_breath y_g_leapt y_n_many y_n_turns y_n_children y_inForce y_x) → EM (ax_GG Z) M' (.ref 0 :: As) w (fun out => ∃ (w' : ax_W) (y_l_told : Int32) (y_l_spring : Int32) (y_l_many : Int32) (y_l_back : Nat → Int32) (y_l_leap : Nat → Int32) (y_l_breath : Nat → Int32) (y_g_turn : Int32) (y_g_order : Nat → Int32) (y_g_back : Nat → Int32) (y_g_breath : Nat → Int32) (y_g_leapt : Nat → Int32) (y_n_many : Int32) (y_n_turns : Nat → Int32) (y_n_children : Nat → Int32) (y_inForce : Int32) (y_x : Int32), out = (some (.int x), w', [], 0) ∧ CRel a rl im gs rc nx w' (S13 39 y_l_told y_l_spring y_l_many y_l_back y_l_leap y_l_breath y_g_turn y_g_order y_g_back y_g_breath y_g_leapt y_n_many y_n_turns y_n_children y_inForce y_x) ∧ cSt y_l_told y_l_spring y_l_many y_l_back y_l_leap y_l_breath y_g_turn y_g_order y_g_back y_g_breath y_g_leapt y_n_many y_n_turns y_n_children y_inForce y_x (a_s a)))
    (hk : ∀ W' lg' sl', LI (mkI a k) b W' lg' sl' (n + 1) → EV (ax_GG Z) m_L_law P (pn, ls, .int x :: r, W', lg', sl')) : EV (ax_GG Z) m_L_law P (pc, ls0, st, W, lg, sl) := by
  obtain ⟨w, t, gs, rc, nx, hC, hM, hT, hG, g1, g2⟩ := hI
  have hw := MR_len hM
  obtain ⟨t1, t2, t3, t4, t5, t6, t7, t8⟩ := hT
  have hnd : (bl (64 + (21 + 13 * k)) 13).Nodup := bl_nd
  have hmem : ∀ q ∈ bl (64 + (21 + 13 * k)) 13, 64 ≤ q ∧ q < 239 := fun q hq => by have := mem_bl.mp hq; omega
  have hge := fun q hq => (hmem q hq).1
  have hl8 : (bl (64 + (21 + 13 * k)) 13).length ≤ 800 := by rw [bl_len]; omega
  have htau : ∀ q, q < 13 → ax_tau (lw_c (bl (64 + (21 + 13 * k)) 13)) (85 + 13 * k + q) = 39 + q := fun q hq => by
    rw [show 85 + 13 * k + q = 64 + (21 + 13 * k) + q by omega]
    exact tau_X hnd hge (bl_at hq)
  have hthe : ∀ q, q < 13 → ax_the (lw_c (bl (64 + (21 + 13 * k)) 13)) (39 + q) = 85 + 13 * k + q := fun q hq => by
    rw [the_X (bl_at hq)]; omega
  have hcut := see (L := lw_c (bl (64 + (21 + 13 * k)) 13)) (p := 21 + 13 * k) (m := 13) hC hw
  have fin : ∀ (im' : Nat → Option Nat) (lg' : List Nat) (sl' : Nat) (w' : ax_W) (y_l_told : Int32) (y_l_spring : Int32) (y_l_many : Int32) (y_l_back : Nat → Int32) (y_l_leap : Nat → Int32) (y_l_breath : Nat → Int32) (y_g_turn : Int32) (y_g_order : Nat → Int32) (y_g_back : Nat → Int32) (y_g_breath : Nat → Int32) (y_g_leapt : Nat → Int32) (y_n_many : Int32) (y_n_turns : Nat → Int32) (y_n_children : Nat → Int32) (y_inForce : Int32) (y_x : Int32), rb (lw_c (bl (64 + (21 + 13 * k)) 13)) im' = IMs (mkI a k) → CRel a (rn (lw_c (bl (64 + (21 + 13 * k)) 13)) (RLs a)) im' (rn (lw_c (bl (64 + (21 + 13 * k)) 13)) gs) (ax_rv (ax_tau (lw_c (bl (64 + (21 + 13 * k)) 13))) rc) nx w' (S13 39 y_l_told y_l_spring y_l_many y_l_back y_l_leap y_l_breath y_g_turn y_g_order y_g_back y_g_breath y_g_leapt y_n_many y_n_turns y_n_children y_inForce y_x) → cSt y_l_told y_l_spring y_l_many y_l_back y_l_leap y_l_breath y_g_turn y_g_order y_g_back y_g_breath y_g_leapt y_n_many y_n_turns y_n_children y_inForce y_x (a_s a) → LGn lg' (ax_put t (bl (21 + 13 * k) 13) (S13 (85 + 13 * k) y_l_told y_l_spring y_l_many y_l_back y_l_leap y_l_breath y_g_turn y_g_order y_g_back y_g_breath y_g_leapt y_n_many y_n_turns y_n_children y_inForce y_x)) → lg'.length ≤ 64 + 13 * (n + 1) → sl' ≤ 1000000 + 500 * (n + 1) + rcN rc → EV (ax_GG Z) m_L_law P (pn, ls, .int x :: r, ax_put W (lw_c (bl (64 + (21 + 13 * k)) 13)) (ax_uncut (lw_c (bl (64 + (21 + 13 * k)) 13)) w'), lg', sl') := by
    intro im' lg' sl' w' y_l_told y_l_spring y_l_many y_l_back y_l_leap y_l_breath y_g_turn y_g_order y_g_back y_g_breath y_g_leapt y_n_many y_n_turns y_n_children y_inForce y_x e1 hC' hS hL k1 k2
    have h1 := put_C hC hw hC' hge
    rw [e1, rb_rn hl8, rb_rn hl8, rv_back hl8, bl_sub, uncut_rnm (v := S13 39 y_l_told y_l_spring y_l_many y_l_back y_l_leap y_l_breath y_g_turn y_g_order y_g_back y_g_breath y_g_leapt y_n_many y_n_turns y_n_children y_inForce y_x), rnm_S13 hthe] at h1
    refine hk _ lg' sl' ⟨w, _, gs, rc, nx, h1, hM, ⟨by rw [ax_put_len]; exact t1, by rw [tk_out (by omega)]; exact t2, RIn_put (a := mkI a k) t3 (by omega), EIn_put t4 (by omega), fun i hi => ?_, GIn_put t6 (by omega), t7, PIn_put (a := mkI a k) t8 (by omega)⟩, hL, k1, k2⟩
    show ((if i = k then some (a_s a) else a_i a i) = none → _) ∧ ∀ σ, (if i = k then some (a_s a) else a_i a i) = some σ → _
    by_cases e : i = k
    · subst e
      rw [if_pos rfl, tk_put (m := 13) (by omega) rfl]
      refine ⟨fun q => (by cases q), fun σ q => ?_⟩
      cases q
      exact ⟨_, _, _, _, _, _, _, _, _, _, _, _, _, _, _, _, rfl, hS⟩
    · rw [if_neg e, tk_out (by omega)]
      exact t5 i hi
  cases hi : a_i a k with
  | none =>
    have e1 := (t5 k hk4).1 hi
    rw [e1, rnm_nn] at hcut
    refine lw_call hs hj hl (hAs _) hnd hmem hl8 hC hw t1 (fun w0 h0 => hEA _ _ _ _ _ w0 (rn_no (IM_no hi)) (by rw [← hcut]; exact h0)) ?_
    rintro out ⟨w', y_l_told, y_l_spring, y_l_many, y_l_back, y_l_leap, y_l_breath, y_g_turn, y_g_order, y_g_back, y_g_breath, y_g_leapt, y_n_many, y_n_turns, y_n_children, y_inForce, y_x, rfl, hC', hS⟩
    have hlg : ([39, 40, 41, 42, 43, 44, 45, 46, 47, 48, 49, 50, 51] : List Nat).map (ax_the (lw_c (bl (64 + (21 + 13 * k)) 13))) = bl (64 + (21 + 13 * k)) 13 := by
      rw [show 64 + (21 + 13 * k) = 85 + 13 * k by omega] at hthe ⊢
      exact map_f (b := 39) (n := 13) hthe
    show EV _ _ _ (pn, ls, .int x :: r, _, lg ++ ([39, 40, 41, 42, 43, 44, 45, 46, 47, 48, 49, 50, 51] : List Nat).map (ax_the (lw_c (bl (64 + (21 + 13 * k)) 13))), sl + 88)
    rw [hlg]
    refine fin _ _ _ w' y_l_told y_l_spring y_l_many y_l_back y_l_leap y_l_breath y_g_turn y_g_order y_g_back y_g_breath y_g_leapt y_n_many y_n_turns y_n_children y_inForce y_x ?_ hC' hS (LG_new hG (by omega) rfl S13_some e1) (by rw [List.length_append, bl_len]; omega) (by omega)
    rw [show (39 : Nat) = 39 + 0 from rfl, rb_up hl8 (bl_at (q := 0) (by omega)), show 64 + (21 + 13 * k) + 0 = 85 + 13 * k by omega, IM_up hk4]
  | some σ =>
    obtain ⟨y_l_told, y_l_spring, y_l_many, y_l_back, y_l_leap, y_l_breath, y_g_turn, y_g_order, y_g_back, y_g_breath, y_g_leapt, y_n_many, y_n_turns, y_n_children, y_inForce, y_x, e1, -⟩ := (t5 k hk4).2 σ hi
    rw [e1, rnm_S13 htau] at hcut
    refine lw_call hs hj hl (hAs _) hnd hmem hl8 hC hw t1 (fun w0 h0 => hEP _ _ _ _ _ w0 y_l_told y_l_spring y_l_many y_l_back y_l_leap y_l_breath y_g_turn y_g_order y_g_back y_g_breath y_g_leapt y_n_many y_n_turns y_n_children y_inForce y_x (rn_in (g := IMs a) hnd hge (bl_at (q := 0) (by omega)) (by rw [IM_at hk4 hi]; exact congrArg some (by omega))) (by rw [← hcut]; exact h0)) ?_
    rintro out ⟨w', y_l_told', y_l_spring', y_l_many', y_l_back', y_l_leap', y_l_breath', y_g_turn', y_g_order', y_g_back', y_g_breath', y_g_leapt', y_n_many', y_n_turns', y_n_children', y_inForce', y_x', rfl, hC', hS⟩
    show EV _ _ _ (pn, ls, .int x :: r, _, lg ++ [], sl)
    rw [List.append_nil]
    refine fin _ _ _ w' y_l_told' y_l_spring' y_l_many' y_l_back' y_l_leap' y_l_breath' y_g_turn' y_g_order' y_g_back' y_g_breath' y_g_leapt' y_n_many' y_n_turns' y_n_children' y_inForce' y_x' ?_ hC' hS (LG_put hG (by omega) rfl S13_some) (by omega) (by omega)
    rw [rb_rn hl8]; exact IM_same hk4 hi
theorem lbk {M' : ax_M} {As st r : List Value} {pc pn j k : Nat} {ls0 ls : ax_L} {P : ax_E → Prop} {x : Int32} {σ : sS} (hk4 : k < 4) (hi : a_i a k = some σ) (hI : LI a b W lg sl n)
    (hs : ax_step (ax_GG Z) (ax_tab m_L_law) (pc, ls0, st, W, lg, sl) = some (.inr (.inr (.inr (j, .ref 0 :: As, some (lw_c (bl (64 + (21 + 13 * k)) 13)), pn, ls, r))))) (hj : (ax_GG Z).2.2.2[j]? = some M') (hl : (ax_lay (.ref 0 :: As)).length ≤ M'.2.2.1) (hAs : ∀ f, As.map (ax_rv f) = As)
    (hE : ∀ (rl im gs : Nat → Option Nat) (rc : Value) (nx : Nat) (w : ax_W) (y_l_told : Int32) (y_l_spring : Int32) (y_l_many : Int32) (y_l_back : Nat → Int32) (y_l_leap : Nat → Int32) (y_l_breath : Nat → Int32) (y_g_turn : Int32) (y_g_order : Nat → Int32) (y_g_back : Nat → Int32) (y_g_breath : Nat → Int32) (y_g_leapt : Nat → Int32) (y_n_many : Int32) (y_n_turns : Nat → Int32) (y_n_children : Nat → Int32) (y_inForce : Int32) (y_x : Int32), im k = some 39 → cSt y_l_told y_l_spring y_l_many y_l_back y_l_leap y_l_breath y_g_turn y_g_order y_g_back y_g_breath y_g_leapt y_n_many y_n_turns y_n_children y_inForce y_x σ → CRel a rl im gs rc nx w (S13 39 y_l_told y_l_spring y_l_many y_l_back y_l_leap y_l_breath y_g_turn y_g_order y_g_back y_g_breath y_g_leapt y_n_many y_n_turns y_n_children y_inForce y_x) → EM (ax_GG Z) M' (.ref 0 :: As) w (fun out => ∃ w', out = (some (.int x), w', [], 0) ∧ CRel (setP (setS a σ) (a_p a) 0) rl im gs rc nx w' (S13 39 y_l_told y_l_spring y_l_many y_l_back y_l_leap y_l_breath y_g_turn y_g_order y_g_back y_g_breath y_g_leapt y_n_many y_n_turns y_n_children y_inForce y_x)))
    (hk : ∀ W', LI (setP (setS a σ) (a_p a) 0) b W' lg sl n → EV (ax_GG Z) m_L_law P (pn, ls, .int x :: r, W', lg, sl)) : EV (ax_GG Z) m_L_law P (pc, ls0, st, W, lg, sl) := by
  obtain ⟨w, t, gs, rc, nx, hC, hM, hT, hG, g1, g2⟩ := hI
  have hw := MR_len hM
  obtain ⟨t1, t2, t3, t4, t5, t6, t7, t8⟩ := hT
  have hnd : (bl (64 + (21 + 13 * k)) 13).Nodup := bl_nd
  have hge : ∀ q ∈ bl (64 + (21 + 13 * k)) 13, 64 ≤ q := fun q hq => by have := mem_bl.mp hq; omega
  have htau : ∀ q, q < 13 → ax_tau (lw_c (bl (64 + (21 + 13 * k)) 13)) (85 + 13 * k + q) = 39 + q := fun q hq => by
    rw [show 85 + 13 * k + q = 64 + (21 + 13 * k) + q by omega]
    exact tau_X hnd hge (bl_at hq)
  obtain ⟨y_l_told, y_l_spring, y_l_many, y_l_back, y_l_leap, y_l_breath, y_g_turn, y_g_order, y_g_back, y_g_breath, y_g_leapt, y_n_many, y_n_turns, y_n_children, y_inForce, y_x, e1, e2⟩ := (t5 k hk4).2 σ hi
  refine lw_keep (A := fun y => y = x) (a' := setP (setS a σ) (a_p a) 0) hs hj hl hAs (by omega) hC hw t1 (fun w0 h0 => ?_) (fun y W' hy hC' => ?_)
  · rw [e1, rnm_S13 htau] at h0 ⊢
    exact EM.mono (hE _ _ _ _ _ w0 y_l_told y_l_spring y_l_many y_l_back y_l_leap y_l_breath y_g_turn y_g_order y_g_back y_g_breath y_g_leapt y_n_many y_n_turns y_n_children y_inForce y_x (rn_in (g := IMs a) hnd hge (bl_at (q := 0) (by omega)) (by rw [IM_at hk4 hi]; exact congrArg some (by omega))) e2 h0) (fun out ⟨w', q1, q2⟩ => ⟨x, w', q1, rfl, q2⟩)
  · subst hy
    exact hk W' ⟨w, t, gs, rc, nx, hC', hM, ⟨t1, t2, t3, t4, t5, t6, t7, fun i hi => absurd hi (Nat.not_lt_zero i)⟩, hG, g1, g2⟩
theorem okm {m : Nat} (h : 64 ≤ m) : ax_okL lw_m m = true := by
  unfold ax_okL
  rw [show ax_nod lw_m = true from by decide, show Nat.ble lw_m.length 900 = true from by decide, Bool.and_true, Bool.and_true]
  refine List.all_eq_true.mpr (fun k hk => ?_)
  unfold lw_m at hk
  simp only [List.mem_cons, List.not_mem_nil, or_false] at hk
  exact Nat.ble_eq_true_of_le (by omega)
theorem cutM (hC : CRel a rl im gs rc nx W (ax_uncut lw_m w ++ t)) (hM : MR b w) : ax_cut lw_m W = w := by
  refine CRel_e hC (fun c_rulesMany p_bytes p_length p_at p_sign p_place p_number p_fault z_tape z_lane q_tape q_state q_sum q_clauses q_values q_tested q_code q_length q_pile q_top q_depth q_open s_l_told s_l_spring s_l_many s_l_back s_l_leap s_l_breath s_g_turn s_g_order s_g_back s_g_breath s_g_leapt s_n_many s_n_turns s_n_children s_inForce s_x a_many u_words u_pile t_turn t_order t_back t_breath t_leapt k_told k_spring k_many k_back k_leap k_breath c_marks c_firsts c_gains hw_ hT hr hS hm => ?_)
  subst hw_
  obtain ⟨m_tape, m_taped, m_rules, m_sign, m_length, m_clause, m_clauses, m_read, m_next, m_wrong, m_number, m_text, m_made, m_deep, m_lines, m_open, m_opened, m_stack, m_top, m_word, m_said, m_force, m_x, m_wasSaid, m_undone, m_row, m_rowThen, m_far, m_queue, m_reached, m_stepWho, m_stepBacks, m_kept, m_hasBy, m_standsThen, m_isFit, m_firstThen, m_drawX, m_images, m_imageForce, m_imageX, m_isMade, rfl, hR⟩ := hM
  rfl
theorem putM {w' : ax_W} (hC : CRel a rl im gs rc nx W (ax_uncut lw_m w ++ t)) (hw : w.length = 25) (hw' : w'.length = 25) : CRel a rl im gs rc nx (ax_put W lw_m (ax_uncut lw_m w')) (ax_uncut lw_m w' ++ t) := by
  refine CRel_e hC (fun c_rulesMany p_bytes p_length p_at p_sign p_place p_number p_fault z_tape z_lane q_tape q_state q_sum q_clauses q_values q_tested q_code q_length q_pile q_top q_depth q_open s_l_told s_l_spring s_l_many s_l_back s_l_leap s_l_breath s_g_turn s_g_order s_g_back s_g_breath s_g_leapt s_n_many s_n_turns s_n_children s_inForce s_x a_many u_words u_pile t_turn t_order t_back t_breath t_leapt k_told k_spring k_many k_back k_leap k_breath c_marks c_firsts c_gains hw_ hT hr hS hm => ?_)
  subst hw_
  refine ⟨c_rulesMany, p_bytes, p_length, p_at, p_sign, p_place, p_number, p_fault, z_tape, z_lane, q_tape, q_state, q_sum, q_clauses, q_values, q_tested, q_code, q_length, q_pile, q_top, q_depth, q_open, s_l_told, s_l_spring, s_l_many, s_l_back, s_l_leap, s_l_breath, s_g_turn, s_g_order, s_g_back, s_g_breath, s_g_leapt, s_n_many, s_n_turns, s_n_children, s_inForce, s_x, a_many, u_words, u_pile, t_turn, t_order, t_back, t_breath, t_leapt, k_told, k_spring, k_many, k_back, k_leap, k_breath, c_marks, c_firsts, c_gains, ?_, hT, hr, hS, hm⟩
  have hl : (ax_uncut lw_m w).length = 25 := by rw [← hw]; exact List.length_map _
  have hl' : (ax_uncut lw_m w').length = 25 := by rw [← hw']; exact List.length_map _
  have e := put_pre (u := ax_uncut lw_m w') (c := ax_uncut lw_m w) (pre := (wL0 c_rulesMany rc p_bytes p_length p_at p_sign p_place p_number p_fault z_tape z_lane q_tape q_state q_sum q_clauses q_values q_tested q_code q_length q_pile q_top q_depth q_open rl s_l_told s_l_spring s_l_many s_l_back s_l_leap s_l_breath s_g_turn s_g_order s_g_back s_g_breath s_g_leapt s_n_many s_n_turns s_n_children s_inForce s_x im gs (jn (nx : Int)) a_many u_words u_pile t_turn t_order t_back t_breath t_leapt k_told k_spring k_many k_back k_leap k_breath c_marks c_firsts c_gains [])) (T := t) (by omega)
  rw [hl'] at e
  exact e
/-- a call of the reference -/
theorem lm {M' : ax_M} {As st r : List Value} {pc pn j : Nat} {ls0 ls : ax_L} {P : ax_E → Prop} {A : Int32 → Prop} {b' : aS} (hI : LI a b W lg sl n)
    (hs : ax_step (ax_GG Z) (ax_tab m_L_law) (pc, ls0, st, W, lg, sl) = some (.inr (.inr (.inr (j, .ref 39 :: As, some lw_m, pn, ls, r))))) (hj : (ax_GG Z).2.2.2[j]? = some M') (hl : (ax_lay (.ref 39 :: As)).length ≤ M'.2.2.1) (hAs : ∀ f, As.map (ax_rv f) = As)
    (hE : ∀ w, MR b w → EM (ax_GG Z) M' (.ref 0 :: As) w (fun out => ∃ x w', out = (some (.int x), w', [], 0) ∧ A x ∧ MR b' w'))
    (hk : ∀ x W', A x → LI a b' W' lg sl n → EV (ax_GG Z) m_L_law P (pn, ls, .int x :: r, W', lg, sl)) : EV (ax_GG Z) m_L_law P (pc, ls0, st, W, lg, sl) := by
  obtain ⟨w, t, gs, rc, nx, hC, hM, hT', hG, g1, g2⟩ := hI
  have hw := MR_len hM
  have hW := W_len hC hw
  refine EV.callL hs hj ⟨okm (by show 64 ≤ W.length; omega), hl⟩ (by show Value.ref (ax_tau lw_m 39) :: As.map _ = _; rw [hAs]; rfl) (cutM hC hM) (hE w hM) ?_
  rintro out ⟨x, w', rfl, hx, hM'⟩
  have := hk x _ hx ⟨w', t, gs, rc, nx, putM hC hw (MR_len hM'), hM', hT', hG, g1, g2⟩
  show EV _ _ _ (pn, ls, .int x :: r, ax_put W lw_m (ax_uncut lw_m w'), lg ++ [], sl)
  rw [List.append_nil]
  exact this
end LRE
