/-! the law: acts and what is refused, out of what holds between two calls -/
section LWR
variable {Z : Nat × (Nat → Int32)} {a b : aS} {W : ax_W} {lg : List Nat} {sl n : Nat}
theorem two_bl {nx : Nat} : lw_c (237 :: 238 :: lw_s nx) = lw_c (bl (64 + 173) 2 ++ bl (137 + 5 * nx) 5) := by
  rw [lw_s_bl]; rfl
/-- an act, no rule in sight -/
theorem la_A {M' : ax_M} {As st r : List Value} {pc pn j : Nat} {ls0 ls : ax_L} {P : ax_E → Prop} {x : Int32} {g : gS} (hA : AOk a) (hI : LI a b W lg sl n)
    (hs : ax_step (ax_GG Z) (ax_tab m_L_law) (pc, ls0, st, W, lg, sl) = some (.inr (.inr (.inr (j, .ref 0 :: As, lw_vA st W, pn, ls, r))))) (hj : (ax_GG Z).2.2.2[j]? = some M') (hl : (ax_lay (.ref 0 :: As)).length ≤ M'.2.2.1) (hAs : ∀ f, As.map (ax_rv f) = As)
    (hEA : ∀ (rl im gs : Nat → Option Nat) (rc : Value) (nx : Nat) (w0 : ax_W), nx < 20 → gs nx = none → CRel a rl im gs rc nx w0 (none :: none :: [none, none, none, none, none]) → EM (ax_GG Z) M' (.ref 0 :: As) w0 (fun out => ∃ (w' : ax_W) (y_turn : Int32) (y_order : Nat → Int32) (y_back : Nat → Int32) (y_breath : Nat → Int32) (y_leapt : Nat → Int32), out = (some (.int x), w', [41, 42, 43, 44, 45], 33) ∧ CRel (act a g) rl im (va_up gs nx (some 41)) rc ((nx + 1) % 20) w' (none :: none :: G5 41 y_turn y_order y_back y_breath y_leapt) ∧ cG (l_k (a_l a)) y_turn y_order y_back y_breath y_leapt (a_g a)))
    (hEP : ∀ (rl im gs : Nat → Option Nat) (rc : Value) (nx : Nat) (w0 : ax_W) (y_turn : Int32) (y_order : Nat → Int32) (y_back : Nat → Int32) (y_breath : Nat → Int32) (y_leapt : Nat → Int32), nx < 20 → gs nx = some 41 → CRel a rl im gs rc nx w0 (none :: none :: G5 41 y_turn y_order y_back y_breath y_leapt) → EM (ax_GG Z) M' (.ref 0 :: As) w0 (fun out => ∃ (w' : ax_W) (y_turn : Int32) (y_order : Nat → Int32) (y_back : Nat → Int32) (y_breath : Nat → Int32) (y_leapt : Nat → Int32), out = (some (.int x), w', [], 0) ∧ CRel (act a g) rl im gs rc ((nx + 1) % 20) w' (none :: none :: G5 41 y_turn y_order y_back y_breath y_leapt) ∧ cG (l_k (a_l a)) y_turn y_order y_back y_breath y_leapt (a_g a)))
    (hk : ∀ W' lg' sl', LI (act a g) b W' lg' sl' (n + 1) → EV (ax_GG Z) m_L_law P (pn, ls, .int x :: r, W', lg', sl')) : EV (ax_GG Z) m_L_law P (pc, ls0, st, W, lg, sl) := by
  obtain ⟨w, t, gs, rc, nx, hC, hM, hT, hG, g1, g2⟩ := hI
  have hnx := hT.2.2.2.2.2.2.1
  unfold lw_vA at hs
  rw [lw_nxt hC, jn_cln (by omega), two_bl] at hs
  refine la hA (Or.inr rfl) hC hM hT hG g1 g2 hs hj hl hAs (fun im gs rc w0 hg h => ?_) (fun im gs rc w0 y_turn y_order y_back y_breath y_leapt hg h => ?_) hk
  · rw [hT.2.1, rnm_nn] at h ⊢
    exact hEA _ _ _ _ _ w0 hnx hg h
  · rw [hT.2.1, rnm_nn] at h ⊢
    exact hEP _ _ _ _ _ w0 y_turn y_order y_back y_breath y_leapt hnx hg h
/-- a turn -/
theorem la_T {M' : ax_M} {st r : List Value} {pc pn j : Nat} {ls0 ls : ax_L} {P : ax_E → Prop} {x : Int32} {g : gS} (hA : AOk a) (hI : LI a b W lg sl n)
    (hs : ax_step (ax_GG Z) (ax_tab m_L_law) (pc, ls0, st, W, lg, sl) = some (.inr (.inr (.inr (j, [.ref 0], lw_vT st W, pn, ls, r))))) (hj : (ax_GG Z).2.2.2[j]? = some M') (hl : (ax_lay [.ref 0]).length ≤ M'.2.2.1)
    (hNA : s_f (a_s a) < 0 → ∀ (rl im gs : Nat → Option Nat) (rc : Value) (nx : Nat) (w0 : ax_W), nx < 20 → gs nx = none → CRel a rl im gs rc nx w0 (none :: none :: [none, none, none, none, none]) → EM (ax_GG Z) M' [.ref 0] w0 (fun out => ∃ (w' : ax_W) (y_turn : Int32) (y_order : Nat → Int32) (y_back : Nat → Int32) (y_breath : Nat → Int32) (y_leapt : Nat → Int32), out = (some (.int x), w', [41, 42, 43, 44, 45], 33) ∧ CRel (act a g) rl im (va_up gs nx (some 41)) rc ((nx + 1) % 20) w' (none :: none :: G5 41 y_turn y_order y_back y_breath y_leapt) ∧ cG (l_k (a_l a)) y_turn y_order y_back y_breath y_leapt (a_g a)))
    (hNP : s_f (a_s a) < 0 → ∀ (rl im gs : Nat → Option Nat) (rc : Value) (nx : Nat) (w0 : ax_W) (y_turn : Int32) (y_order : Nat → Int32) (y_back : Nat → Int32) (y_breath : Nat → Int32) (y_leapt : Nat → Int32), nx < 20 → gs nx = some 41 → CRel a rl im gs rc nx w0 (none :: none :: G5 41 y_turn y_order y_back y_breath y_leapt) → EM (ax_GG Z) M' [.ref 0] w0 (fun out => ∃ (w' : ax_W) (y_turn : Int32) (y_order : Nat → Int32) (y_back : Nat → Int32) (y_breath : Nat → Int32) (y_leapt : Nat → Int32), out = (some (.int x), w', [], 0) ∧ CRel (act a g) rl im gs rc ((nx + 1) % 20) w' (none :: none :: G5 41 y_turn y_order y_back y_breath y_leapt) ∧ cG (l_k (a_l a)) y_turn y_order y_back y_breath y_leapt (a_g a)))
    (hRA : ∀ (i len : Nat) (code : Nat → Int32), s_f (a_s a) = (i : Int) → cR 6000 code len (rFn a i) → ∀ (rl im gs : Nat → Option Nat) (rc : Value) (nx : Nat) (w0 : ax_W), rl i = some 39 → nx < 20 → gs nx = none → CRel a rl im gs rc nx w0 (some (.inr (6, [.ref 40])) :: some (.inl (0, len, .inl code)) :: [none, none, none, none, none]) → EM (ax_GG Z) M' [.ref 0] w0 (fun out => ∃ (w' : ax_W) (y_turn : Int32) (y_order : Nat → Int32) (y_back : Nat → Int32) (y_breath : Nat → Int32) (y_leapt : Nat → Int32), out = (some (.int x), w', [41, 42, 43, 44, 45], 33) ∧ CRel (act a g) rl im (va_up gs nx (some 41)) rc ((nx + 1) % 20) w' (some (.inr (6, [.ref 40])) :: some (.inl (0, len, .inl code)) :: G5 41 y_turn y_order y_back y_breath y_leapt) ∧ cG (l_k (a_l a)) y_turn y_order y_back y_breath y_leapt (a_g a)))
    (hRP : ∀ (i len : Nat) (code : Nat → Int32), s_f (a_s a) = (i : Int) → cR 6000 code len (rFn a i) → ∀ (rl im gs : Nat → Option Nat) (rc : Value) (nx : Nat) (w0 : ax_W) (y_turn : Int32) (y_order : Nat → Int32) (y_back : Nat → Int32) (y_breath : Nat → Int32) (y_leapt : Nat → Int32), rl i = some 39 → nx < 20 → gs nx = some 41 → CRel a rl im gs rc nx w0 (some (.inr (6, [.ref 40])) :: some (.inl (0, len, .inl code)) :: G5 41 y_turn y_order y_back y_breath y_leapt) → EM (ax_GG Z) M' [.ref 0] w0 (fun out => ∃ (w' : ax_W) (y_turn : Int32) (y_order : Nat → Int32) (y_back : Nat → Int32) (y_breath : Nat → Int32) (y_leapt : Nat → Int32), out = (some (.int x), w', [], 0) ∧ CRel (act a g) rl im gs rc ((nx + 1) % 20) w' (some (.inr (6, [.ref 40])) :: some (.inl (0, len, .inl code)) :: G5 41 y_turn y_order y_back y_breath y_leapt) ∧ cG (l_k (a_l a)) y_turn y_order y_back y_breath y_leapt (a_g a)))
    (hk : ∀ W' lg' sl', LI (act a g) b W' lg' sl' (n + 1) → EV (ax_GG Z) m_L_law P (pn, ls, .int x :: r, W', lg', sl')) : EV (ax_GG Z) m_L_law P (pc, ls0, st, W, lg, sl) := by
  obtain ⟨w, t, gs, rc, nx, hC, hM, hT, hG, g1, g2⟩ := hI
  have hnx := hT.2.2.2.2.2.2.1
  have h4 := (AOk_s hA).2.2.2.1
  have h6 := hA.2.2.1
  unfold lw_vT at hs
  rw [lw_nxt hC, lw_inf hC, jn_cln (i := nx) (by omega)] at hs
  by_cases e : s_f (a_s a) < 0
  · rw [if_pos (by rw [li_0, jn_lt (by omega) (by omega)]; omega)] at hs
    have hs : ax_step (ax_GG Z) (ax_tab m_L_law) (pc, ls0, st, W, lg, sl) = some (.inr (.inr (.inr (j, [.ref 0], some (lw_c (237 :: 238 :: lw_s nx)), pn, ls, r)))) := hs
    rw [two_bl] at hs
    refine la hA (Or.inr rfl) hC hM hT hG g1 g2 hs hj hl (fun _ => rfl) (fun im gs rc w0 hg h => ?_) (fun im gs rc w0 y_turn y_order y_back y_breath y_leapt hg h => ?_) hk
    · rw [hT.2.1, rnm_nn] at h ⊢
      exact hNA e _ _ _ _ _ w0 hnx hg h
    · rw [hT.2.1, rnm_nn] at h ⊢
      exact hNP e _ _ _ _ _ w0 y_turn y_order y_back y_breath y_leapt hnx hg h
  · rw [if_neg (by rw [li_0, jn_lt (by omega) (by omega)]; omega)] at hs
    obtain ⟨i, hi⟩ : ∃ i : Nat, s_f (a_s a) = i := ⟨(s_f (a_s a)).toNat, by omega⟩
    rw [hi, jn_cln (by omega), lw_r_bl, lw_s_bl, show 73 + 2 * i = 64 + (9 + 2 * i) by omega] at hs
    obtain ⟨len, code, e1, e2⟩ := (hT.2.2.1 i (by omega)).1 (by omega)
    have hnd : (bl (64 + (9 + 2 * i)) 2 ++ bl (137 + 5 * nx) 5).Nodup := List.nodup_append.mpr ⟨bl_nd, bl_nd, fun k hk k' hk' e => by
      have := mem_bl.mp hk
      have := mem_bl.mp hk'
      omega⟩
    have hge : ∀ k ∈ bl (64 + (9 + 2 * i)) 2 ++ bl (137 + 5 * nx) 5, 64 ≤ k := fun k hk => by
      rcases List.mem_append.mp hk with h | h
      · have := mem_bl.mp h; omega
      · have := mem_bl.mp h; omega
    have hat : ∀ q, q < 2 → (bl (64 + (9 + 2 * i)) 2 ++ bl (137 + 5 * nx) 5)[q]? = some (73 + 2 * i + q) := fun q hq => by
      rw [List.getElem?_append_left (by rw [bl_len]; exact hq), bl_at hq]; exact congrArg some (by omega)
    have htau : ∀ q, q < 2 → ax_tau (lw_c (bl (64 + (9 + 2 * i)) 2 ++ bl (137 + 5 * nx) 5)) (73 + 2 * i + q) = 39 + q := fun q hq => tau_X hnd hge (hat q hq)
    have hrl : rn (lw_c (bl (64 + (9 + 2 * i)) 2 ++ bl (137 + 5 * nx) 5)) (RLs a) i = some 39 := rn_in (g := RLs a) hnd hge (hat 0 (by omega)) (by rw [RL_at (by omega)]; rfl)
    refine la hA (Or.inl (by omega)) hC hM hT hG g1 g2 hs hj hl (fun _ => rfl) (fun im gs rc w0 hg h => ?_) (fun im gs rc w0 y_turn y_order y_back y_breath y_leapt hg h => ?_) hk
    · rw [e1, rnm_RC htau] at h ⊢
      exact hRA i len code hi e2 _ _ _ _ _ w0 hrl hnx hg h
    · rw [e1, rnm_RC htau] at h ⊢
      exact hRP i len code hi e2 _ _ _ _ _ w0 y_turn y_order y_back y_breath y_leapt hrl hnx hg h
/-- what is refused of an act -/
theorem l0_A {M' : ax_M} {As st r : List Value} {pc pn j : Nat} {ls0 ls : ax_L} {P : ax_E → Prop} (hI : LI a b W lg sl n)
    (hs : ax_step (ax_GG Z) (ax_tab m_L_law) (pc, ls0, st, W, lg, sl) = some (.inr (.inr (.inr (j, .ref 0 :: As, lw_vA st W, pn, ls, r))))) (hj : (ax_GG Z).2.2.2[j]? = some M') (hl : (ax_lay (.ref 0 :: As)).length ≤ M'.2.2.1) (hAs : ∀ f, As.map (ax_rv f) = As)
    (hE : ∀ (rl im gs : Nat → Option Nat) (rc : Value) (nx : Nat) (w t : ax_W), CRel a rl im gs rc nx w t → EM (ax_GG Z) M' (.ref 0 :: As) w (fun out => out = (some (.int (-1)), w, [], 0)))
    (hk : ∀ W', LI a b W' lg sl n → EV (ax_GG Z) m_L_law P (pn, ls, .int (-1) :: r, W', lg, sl)) : EV (ax_GG Z) m_L_law P (pc, ls0, st, W, lg, sl) := by
  have hI' := hI
  obtain ⟨w, t, gs, rc, nx, hC, hM, hT, hG, g1, g2⟩ := hI
  have hnx := hT.2.2.2.2.2.2.1
  unfold lw_vA at hs
  rw [lw_nxt hC, jn_cln (by omega), two_bl, show 137 + 5 * nx = 64 + (73 + 5 * nx) by omega] at hs
  exact lz0 (Or.inl rfl) ⟨by omega, by omega⟩ hI' hs hj hl hAs hE hk
theorem l0_T {M' : ax_M} {st r : List Value} {pc pn j : Nat} {ls0 ls : ax_L} {P : ax_E → Prop} (hA : AOk a) (hI : LI a b W lg sl n)
    (hs : ax_step (ax_GG Z) (ax_tab m_L_law) (pc, ls0, st, W, lg, sl) = some (.inr (.inr (.inr (j, [.ref 0], lw_vT st W, pn, ls, r))))) (hj : (ax_GG Z).2.2.2[j]? = some M') (hl : (ax_lay [.ref 0]).length ≤ M'.2.2.1)
    (hE : ∀ (rl im gs : Nat → Option Nat) (rc : Value) (nx : Nat) (w t : ax_W), CRel a rl im gs rc nx w t → EM (ax_GG Z) M' [.ref 0] w (fun out => out = (some (.int (-1)), w, [], 0)))
    (hk : ∀ W', LI a b W' lg sl n → EV (ax_GG Z) m_L_law P (pn, ls, .int (-1) :: r, W', lg, sl)) : EV (ax_GG Z) m_L_law P (pc, ls0, st, W, lg, sl) := by
  have hI' := hI
  obtain ⟨w, t, gs, rc, nx, hC, hM, hT, hG, g1, g2⟩ := hI
  have hnx := hT.2.2.2.2.2.2.1
  have h4 := (AOk_s hA).2.2.2.1
  have h6 := hA.2.2.1
  unfold lw_vT at hs
  rw [lw_nxt hC, lw_inf hC, jn_cln (i := nx) (by omega)] at hs
  by_cases e : s_f (a_s a) < 0
  · rw [if_pos (by rw [li_0, jn_lt (by omega) (by omega)]; omega)] at hs
    have hs : ax_step (ax_GG Z) (ax_tab m_L_law) (pc, ls0, st, W, lg, sl) = some (.inr (.inr (.inr (j, [.ref 0], some (lw_c (237 :: 238 :: lw_s nx)), pn, ls, r)))) := hs
    rw [two_bl, show 137 + 5 * nx = 64 + (73 + 5 * nx) by omega] at hs
    exact lz0 (Or.inl rfl) ⟨by omega, by omega⟩ hI' hs hj hl (fun _ => rfl) hE hk
  · rw [if_neg (by rw [li_0, jn_lt (by omega) (by omega)]; omega)] at hs
    obtain ⟨i, hi⟩ : ∃ i : Nat, s_f (a_s a) = i := ⟨(s_f (a_s a)).toNat, by omega⟩
    rw [hi, jn_cln (by omega), lw_r_bl, lw_s_bl, show 73 + 2 * i = 64 + (9 + 2 * i) by omega, show 137 + 5 * nx = 64 + (73 + 5 * nx) by omega] at hs
    exact lz0 (Or.inr (by omega)) ⟨by omega, by omega⟩ hI' hs hj hl (fun _ => rfl) hE hk
theorem l0_U {M' : ax_M} {st r : List Value} {pc pn j : Nat} {ls0 ls : ax_L} {P : ax_E → Prop} (hI : LI a b W lg sl n)
    (hs : ax_step (ax_GG Z) (ax_tab m_L_law) (pc, ls0, st, W, lg, sl) = some (.inr (.inr (.inr (j, [.ref 0], lw_vU st W, pn, ls, r))))) (hj : (ax_GG Z).2.2.2[j]? = some M') (hl : (ax_lay [.ref 0]).length ≤ M'.2.2.1)
    (hE : ∀ (rl im gs : Nat → Option Nat) (rc : Value) (nx : Nat) (w t : ax_W), CRel a rl im gs rc nx w t → EM (ax_GG Z) M' [.ref 0] w (fun out => out = (some (.int (-1)), w, [], 0)))
    (hk : ∀ W', LI a b W' lg sl n → EV (ax_GG Z) m_L_law P (pn, ls, .int (-1) :: r, W', lg, sl)) : EV (ax_GG Z) m_L_law P (pc, ls0, st, W, lg, sl) := by
  have hI' := hI
  obtain ⟨w, t, gs, rc, nx, hC, hM, hT, hG, g1, g2⟩ := hI
  have hnx := hT.2.2.2.2.2.2.1
  unfold lw_vU at hs
  rw [lw_nxt hC, jn_cln (by omega), two_bl, show 137 + 5 * ((nx + 19) % 20) = 64 + (73 + 5 * ((nx + 19) % 20)) by omega] at hs
  exact lz0 (Or.inl rfl) ⟨by omega, by omega⟩ hI' hs hj hl (fun _ => rfl) hE hk
end LWR
