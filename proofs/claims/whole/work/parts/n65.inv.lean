/-! the law: what holds between two calls -/
def RLs (a : aS) : Nat → Option Nat := fun i => if i < a_r a then some (73 + 2 * i) else none
def IMs (a : aS) : Nat → Option Nat := fun k => if k < 4 ∧ (a_i a k).isSome = true then some (85 + 13 * k) else none
def RIn (a : aS) (t : ax_W) : Prop := ∀ i, i < 6 → (i < a_r a → ∃ len code, tk t (9 + 2 * i) 2 = RC (73 + 2 * i) len code ∧ cR 6000 code len (rFn a i)) ∧ (a_r a ≤ i → tk t (9 + 2 * i) 2 = nn 2)
def EIn (rc : Value) (t : ax_W) : Prop := (rc = .null ∧ tk t 0 9 = nn 9) ∨ (rc = .ref 64 ∧ ∃ (y_many : Int32) (y_spring : Int32) (y_leapable : Nat → Int32) (y_found : Int32) (y_whereOf : Nat → Int32) (y_rows : Nat → Int32) (y_from : Nat → Int32) (y_depth : Nat → Int32) (y_order : Nat → Int32) (y_places : Nat → Int32) (y_lesser : Nat → Int32), tk t 0 9 = E9 64 y_many y_spring y_leapable y_found y_whereOf y_rows y_from y_depth y_order y_places y_lesser ∧ cX0 y_many y_spring y_leapable y_found y_whereOf y_rows y_from y_depth)
def IIn (a : aS) (t : ax_W) : Prop := ∀ k, k < 4 → (a_i a k = none → tk t (21 + 13 * k) 13 = nn 13) ∧ ∀ σ, a_i a k = some σ → ∃ (y_l_told : Int32) (y_l_spring : Int32) (y_l_many : Int32) (y_l_back : Nat → Int32) (y_l_leap : Nat → Int32) (y_l_breath : Nat → Int32) (y_g_turn : Int32) (y_g_order : Nat → Int32) (y_g_back : Nat → Int32) (y_g_breath : Nat → Int32) (y_g_leapt : Nat → Int32) (y_n_many : Int32) (y_n_turns : Nat → Int32) (y_n_children : Nat → Int32) (y_inForce : Int32) (y_x : Int32), tk t (21 + 13 * k) 13 = S13 (85 + 13 * k) y_l_told y_l_spring y_l_many y_l_back y_l_leap y_l_breath y_g_turn y_g_order y_g_back y_g_breath y_g_leapt y_n_many y_n_turns y_n_children y_inForce y_x ∧ cSt y_l_told y_l_spring y_l_many y_l_back y_l_leap y_l_breath y_g_turn y_g_order y_g_back y_g_breath y_g_leapt y_n_many y_n_turns y_n_children y_inForce y_x σ
def GIn (gs : Nat → Option Nat) (t : ax_W) : Prop := ∀ j, j < 20 → (gs j = none ∧ tk t (73 + 5 * j) 5 = nn 5) ∨ (gs j = some (137 + 5 * j) ∧ ∃ (y_turn : Int32) (y_order : Nat → Int32) (y_back : Nat → Int32) (y_breath : Nat → Int32) (y_leapt : Nat → Int32), tk t (73 + 5 * j) 5 = G5 (137 + 5 * j) y_turn y_order y_back y_breath y_leapt)
/-- the place of the i-th act that can be undone -/
def plI (nx m i : Nat) : Nat := (nx + 20 - m + i) % 20
def PIn (a : aS) (gs : Nat → Option Nat) (nx : Nat) (t : ax_W) : Prop := ∀ i, i < a_m a → gs (plI nx (a_m a) i) = some (137 + 5 * plI nx (a_m a) i) ∧ ∃ (y_turn : Int32) (y_order : Nat → Int32) (y_back : Nat → Int32) (y_breath : Nat → Int32) (y_leapt : Nat → Int32), tk t (73 + 5 * plI nx (a_m a) i) 5 = G5 (137 + 5 * plI nx (a_m a) i) y_turn y_order y_back y_breath y_leapt ∧ cG (l_k (a_l a)) y_turn y_order y_back y_breath y_leapt (a_p a i)
def TIn (a : aS) (gs : Nat → Option Nat) (rc : Value) (nx : Nat) (t : ax_W) : Prop := t.length = 175 ∧ tk t 173 2 = nn 2 ∧ RIn a t ∧ EIn rc t ∧ IIn a t ∧ GIn gs t ∧ nx < 20 ∧ PIn a gs nx t
def LGn (lg : List Nat) (t : ax_W) : Prop := lg.Nodup ∧ ∀ k ∈ lg, k < 64 ∨ ∃ q, k = 64 + q ∧ ∃ e, ax_nth t q = some e
def rcN (rc : Value) : Nat := match rc with
  | .null => 0
  | _ => 1000000
/-- the class is at a, the reference at b -/
def LI (a b : aS) (W : ax_W) (lg : List Nat) (sl n : Nat) : Prop := ∃ w t gs rc nx, CRel a (RLs a) (IMs a) gs rc nx W (ax_uncut lw_m w ++ t) ∧ MR b w ∧ TIn a gs rc nx t ∧ LGn lg t ∧ lg.length ≤ 64 + 13 * n ∧ sl ≤ 1000000 + 500 * n + rcN rc
section LIN
variable {Z : Nat × (Nat → Int32)} {a b : aS} {rl im gs : Nat → Option Nat} {rc : Value} {nx : Nat} {w t W : ax_W} {lg : List Nat} {sl n : Nat}
theorem LI.up {k : Nat} (h : LI a b W lg sl n) (hk : n ≤ k) : LI a b W lg sl k := by
  obtain ⟨w, t, gs, rc, nx, h1, h2, h3, h4, h5, h6⟩ := h
  exact ⟨w, t, gs, rc, nx, h1, h2, h3, h4, by omega, by omega⟩
theorem lw_inf (h : CRel a rl im gs rc nx W t) : lw_i W 8 3 = jn (s_f (a_s a)) := by
  refine CRel_e h (fun c_rulesMany p_bytes p_length p_at p_sign p_place p_number p_fault z_tape z_lane q_tape q_state q_sum q_clauses q_values q_tested q_code q_length q_pile q_top q_depth q_open s_l_told s_l_spring s_l_many s_l_back s_l_leap s_l_breath s_g_turn s_g_order s_g_back s_g_breath s_g_leapt s_n_many s_n_turns s_n_children s_inForce s_x a_many u_words u_pile t_turn t_order t_back t_breath t_leapt k_told k_spring k_many k_back k_leap k_breath c_marks c_firsts c_gains hw_ hT hr hS hm => ?_)
  subst hw_
  exact hS.2.2.2.1
theorem lw_nxt (h : CRel a rl im gs rc nx W t) : lw_i W 22 1 = jn (nx : Int) := by
  refine CRel_e h (fun c_rulesMany p_bytes p_length p_at p_sign p_place p_number p_fault z_tape z_lane q_tape q_state q_sum q_clauses q_values q_tested q_code q_length q_pile q_top q_depth q_open s_l_told s_l_spring s_l_many s_l_back s_l_leap s_l_breath s_g_turn s_g_order s_g_back s_g_breath s_g_leapt s_n_many s_n_turns s_n_children s_inForce s_x a_many u_words u_pile t_turn t_order t_back t_breath t_leapt k_told k_spring k_many k_back k_leap k_breath c_marks c_firsts c_gains hw_ hT hr hS hm => ?_)
  subst hw_
  rfl
theorem lw_rms (h : CRel a rl im gs rc nx W t) : lw_i W 0 4 = jn (a_r a : Int) := by
  refine CRel_e h (fun c_rulesMany p_bytes p_length p_at p_sign p_place p_number p_fault z_tape z_lane q_tape q_state q_sum q_clauses q_values q_tested q_code q_length q_pile q_top q_depth q_open s_l_told s_l_spring s_l_many s_l_back s_l_leap s_l_breath s_g_turn s_g_order s_g_back s_g_breath s_g_leapt s_n_many s_n_turns s_n_children s_inForce s_x a_many u_words u_pile t_turn t_order t_back t_breath t_leapt k_told k_spring k_many k_back k_leap k_breath c_marks c_firsts c_gains hw_ hT hr hS hm => ?_)
  subst hw_
  exact hr
theorem rnm_back {X : List Nat} {v : ax_W} (hl : X.length ≤ 800) : rnm (ax_the (lw_c X)) (rnm (ax_tau (lw_c X)) v) = v := by
  have hid : (fun x => ax_the (lw_c X) (ax_tau (lw_c X) x)) = (fun x => x) := funext (fun x => ax_the_tau (by show X.length + 39 ≤ 900; omega) x)
  induction v with
  | nil => rfl
  | cons x v ih =>
    cases x with
    | none => exact congrArg (none :: ·) ih
    | some e =>
      show some (ax_rc _ _ (ax_rc _ _ e)) :: _ = some e :: v
      rw [ax_rc_comp, hid, ax_rc_id]
      exact congrArg (some e :: ·) ih
theorem unsee {X : List Nat} (hl : X.length ≤ 800) : ax_uncut (lw_c X) (lw_t (lw_c X) X W) = X.map (ax_nth W) := by
  rw [lw_t_rnm]
  exact rnm_back hl
/-- a call of the class by a view -/
theorem lw_call {M' : ax_M} {As st r : List Value} {X : List Nat} {pc pn j : Nat} {ls0 ls : ax_L} {P P' : ax_E → Prop}
    (hs : ax_step (ax_GG Z) (ax_tab m_L_law) (pc, ls0, st, W, lg, sl) = some (.inr (.inr (.inr (j, .ref 0 :: As, some (lw_c X), pn, ls, r))))) (hj : (ax_GG Z).2.2.2[j]? = some M') (hl : (ax_lay (.ref 0 :: As)).length ≤ M'.2.2.1) (hAs : As.map (ax_rv (ax_tau (lw_c X))) = As)
    (hX : X.Nodup) (hX2 : ∀ k ∈ X, 64 ≤ k ∧ k < 239) (hX3 : X.length ≤ 800) (hC : CRel a rl im gs rc nx W (ax_uncut lw_m w ++ t)) (hw : w.length = 25) (ht : t.length = 175)
    (hE : ∀ w0, CRel a (rn (lw_c X) rl) (rn (lw_c X) im) (rn (lw_c X) gs) (ax_rv (ax_tau (lw_c X)) rc) nx w0 (lw_t (lw_c X) X W) → EM (ax_GG Z) M' (.ref 0 :: As) w0 P')
    (hk : ∀ out, P' out → EV (ax_GG Z) m_L_law P (pn, ls, (out.1.map (ax_rv (ax_the (lw_c X)))).toList ++ r, ax_put W (lw_c X) (ax_uncut (lw_c X) out.2.1), lg ++ out.2.2.1.map (ax_the (lw_c X)), sl + out.2.2.2)) : EV (ax_GG Z) m_L_law P (pc, ls0, st, W, lg, sl) := by
  have hW := W_len hC hw
  refine EV.callL hs hj ⟨okL hX (fun k hk => ?_) (by show 64 ≤ W.length; omega) hX3, hl⟩ ?_ rfl (hE _ (cut_C hC)) hk
  · have := hX2 k hk
    show 64 ≤ k ∧ k < W.length
    omega
  · show Value.ref (ax_tau (lw_c X) 0) :: As.map (ax_rv (ax_tau (lw_c X))) = _
    rw [hAs]; rfl
/-- ... that leaves the view's own part as it was -/
theorem lw_keepX {M' : ax_M} {As st r : List Value} {X : List Nat} {pc pn j : Nat} {ls0 ls : ax_L} {P : ax_E → Prop} {A : Int32 → Prop} {a' : aS}
    (hs : ax_step (ax_GG Z) (ax_tab m_L_law) (pc, ls0, st, W, lg, sl) = some (.inr (.inr (.inr (j, .ref 0 :: As, some (lw_c X), pn, ls, r))))) (hj : (ax_GG Z).2.2.2[j]? = some M') (hl : (ax_lay (.ref 0 :: As)).length ≤ M'.2.2.1) (hAs : ∀ f, As.map (ax_rv f) = As)
    (hX : X.Nodup) (hX2 : ∀ k ∈ X, 64 ≤ k ∧ k < 239) (hX3 : X.length ≤ 800) (hC : CRel a rl im gs rc nx W (ax_uncut lw_m w ++ t)) (hw : w.length = 25) (ht : t.length = 175) (hself : ax_put t (X.map (fun k => k - 64)) (X.map (ax_nth W)) = t)
    (hE : ∀ w0, CRel a (rn (lw_c X) rl) (rn (lw_c X) im) (rn (lw_c X) gs) (ax_rv (ax_tau (lw_c X)) rc) nx w0 (lw_t (lw_c X) X W) → EM (ax_GG Z) M' (.ref 0 :: As) w0 (fun out => ∃ x w', out = (some (.int x), w', [], 0) ∧ A x ∧ CRel a' (rn (lw_c X) rl) (rn (lw_c X) im) (rn (lw_c X) gs) (ax_rv (ax_tau (lw_c X)) rc) nx w' (lw_t (lw_c X) X W)))
    (hk : ∀ x W', A x → CRel a' rl im gs rc nx W' (ax_uncut lw_m w ++ t) → EV (ax_GG Z) m_L_law P (pn, ls, .int x :: r, W', lg, sl)) : EV (ax_GG Z) m_L_law P (pc, ls0, st, W, lg, sl) := by
  refine lw_call hs hj hl (hAs _) hX hX2 hX3 hC hw ht hE ?_
  rintro out ⟨x, w', rfl, hx, hC'⟩
  have h1 := put_C hC hw hC' (fun k hk => (hX2 k hk).1)
  rw [rb_rn hX3, rb_rn hX3, rb_rn hX3, rv_back hX3, unsee hX3, hself] at h1
  have := hk x _ hx h1
  rw [show lg ++ List.map (ax_the (lw_c X)) [] = lg from List.append_nil lg]
  exact this
theorem lw_keep {M' : ax_M} {As st r : List Value} {pc pn j p m : Nat} {ls0 ls : ax_L} {P : ax_E → Prop} {A : Int32 → Prop} {a' : aS}
    (hs : ax_step (ax_GG Z) (ax_tab m_L_law) (pc, ls0, st, W, lg, sl) = some (.inr (.inr (.inr (j, .ref 0 :: As, some (lw_c (bl (64 + p) m)), pn, ls, r))))) (hj : (ax_GG Z).2.2.2[j]? = some M') (hl : (ax_lay (.ref 0 :: As)).length ≤ M'.2.2.1) (hAs : ∀ f, As.map (ax_rv f) = As)
    (hm : p + m ≤ 175) (hC : CRel a rl im gs rc nx W (ax_uncut lw_m w ++ t)) (hw : w.length = 25) (ht : t.length = 175)
    (hE : ∀ w0, CRel a (rn (lw_c (bl (64 + p) m)) rl) (rn (lw_c (bl (64 + p) m)) im) (rn (lw_c (bl (64 + p) m)) gs) (ax_rv (ax_tau (lw_c (bl (64 + p) m))) rc) nx w0 (rnm (ax_tau (lw_c (bl (64 + p) m))) (tk t p m)) → EM (ax_GG Z) M' (.ref 0 :: As) w0 (fun out => ∃ x w', out = (some (.int x), w', [], 0) ∧ A x ∧ CRel a' (rn (lw_c (bl (64 + p) m)) rl) (rn (lw_c (bl (64 + p) m)) im) (rn (lw_c (bl (64 + p) m)) gs) (ax_rv (ax_tau (lw_c (bl (64 + p) m))) rc) nx w' (rnm (ax_tau (lw_c (bl (64 + p) m))) (tk t p m))))
    (hk : ∀ x W', A x → CRel a' rl im gs rc nx W' (ax_uncut lw_m w ++ t) → EV (ax_GG Z) m_L_law P (pn, ls, .int x :: r, W', lg, sl)) : EV (ax_GG Z) m_L_law P (pc, ls0, st, W, lg, sl) := by
  have hl8 : (bl (64 + p) m).length ≤ 800 := by rw [bl_len]; omega
  rw [← see hC hw] at hE
  refine lw_keepX hs hj hl hAs bl_nd (fun k hk => ?_) hl8 hC hw ht ?_ hE hk
  · have := mem_bl.mp hk; omega
  · rw [map_bl, W_tk hC hw, bl_sub, put_self]
theorem RL_at {i : Nat} (h : i < a_r a) : RLs a i = some (73 + 2 * i) := if_pos h
/-- a question that looks at the rule in force -/
theorem lq {M' : ax_M} {As st r : List Value} {pc pn j : Nat} {ls0 ls : ax_L} {P : ax_E → Prop} {A : Int32 → Prop} (hA : AOk a) (hI : LI a b W lg sl n)
    (hs : ax_step (ax_GG Z) (ax_tab m_L_law) (pc, ls0, st, W, lg, sl) = some (.inr (.inr (.inr (j, .ref 0 :: As, lw_vR st W, pn, ls, r))))) (hj : (ax_GG Z).2.2.2[j]? = some M') (hl : (ax_lay (.ref 0 :: As)).length ≤ M'.2.2.1) (hAs : ∀ f, As.map (ax_rv f) = As)
    (hN : s_f (a_s a) < 0 → ∀ (rl im gs : Nat → Option Nat) (rc : Value) (nx : Nat) (w t : ax_W), CRel a rl im gs rc nx w t → EM (ax_GG Z) M' (.ref 0 :: As) w (fun out => ∃ x w', out = (some (.int x), w', [], 0) ∧ A x ∧ CRel a rl im gs rc nx w' t))
    (hR : ∀ (i len : Nat) (code : Nat → Int32), s_f (a_s a) = (i : Int) → ∀ (rl im gs : Nat → Option Nat) (rc : Value) (nx : Nat) (w t : ax_W), rl i = some 39 → cR 6000 code len (rFn a i) → CRel a rl im gs rc nx w (some (.inr (6, [.ref 40])) :: some (.inl (0, len, .inl code)) :: t) → EM (ax_GG Z) M' (.ref 0 :: As) w (fun out => ∃ x w', out = (some (.int x), w', [], 0) ∧ A x ∧ CRel a rl im gs rc nx w' (some (.inr (6, [.ref 40])) :: some (.inl (0, len, .inl code)) :: t)))
    (hk : ∀ x W', A x → LI a b W' lg sl n → EV (ax_GG Z) m_L_law P (pn, ls, .int x :: r, W', lg, sl)) : EV (ax_GG Z) m_L_law P (pc, ls0, st, W, lg, sl) := by
  obtain ⟨w, t, gs, rc, nx, hC, hM, hT, hG, g1, g2⟩ := hI
  have h4 := (AOk_s hA).2.2.2.1
  have h6 := hA.2.2.1
  have hw := MR_len hM
  unfold lw_vR at hs
  rw [lw_inf hC] at hs
  by_cases e : s_f (a_s a) < 0
  · rw [if_pos (by rw [li_0, jn_lt (by omega) (by omega)]; omega)] at hs
    refine EV.call hs hj hl (hN e _ _ _ _ _ _ _ hC) ?_
    rintro out ⟨x, w', rfl, hx, hC'⟩
    have := hk x w' hx ⟨w, t, gs, rc, nx, hC', hM, hT, hG, g1, g2⟩
    show EV _ _ _ (pn, ls, .int x :: r, w', lg ++ [], sl)
    rw [List.append_nil]; exact this
  · rw [if_neg (by rw [li_0, jn_lt (by omega) (by omega)]; omega)] at hs
    obtain ⟨i, hi⟩ : ∃ i : Nat, s_f (a_s a) = i := ⟨(s_f (a_s a)).toNat, by omega⟩
    rw [hi, jn_cln (by omega), lw_r_bl, show 73 + 2 * i = 64 + (9 + 2 * i) by omega] at hs
    obtain ⟨len, code, e1, e2⟩ := (hT.2.2.1 i (by omega)).1 (by omega)
    have hnd : (bl (64 + (9 + 2 * i)) 2).Nodup := bl_nd
    have hge : ∀ k ∈ bl (64 + (9 + 2 * i)) 2, 64 ≤ k := fun k hk => by have := mem_bl.mp hk; omega
    have htau : ∀ q, q < 2 → ax_tau (lw_c (bl (64 + (9 + 2 * i)) 2)) (73 + 2 * i + q) = 39 + q := fun q hq => by
      rw [show 73 + 2 * i + q = 64 + (9 + 2 * i) + q by omega]
      exact tau_X hnd hge (bl_at hq)
    refine lw_keep hs hj hl hAs (by omega) hC hw hT.1 (fun w0 h0 => ?_) (fun x W' hx hC' => hk x W' hx ⟨w, t, gs, rc, nx, hC', hM, hT, hG, g1, g2⟩)
    rw [e1, rnm_RC htau] at h0 ⊢
    exact hR i len code hi _ _ _ _ _ _ [] (rn_in hnd hge (bl_at (q := 0) (by omega)) (by rw [RL_at (by omega)]; exact congrArg some (by omega))) e2 h0
/-- a question that makes nothing and looks at no rule; or a call that leaves all names -/
theorem lp {M' : ax_M} {As st r : List Value} {pc pn j : Nat} {ls0 ls : ax_L} {P : ax_E → Prop} {A : Int32 → Prop} {a' : aS} (hI : LI a b W lg sl n)
    (hs : ax_step (ax_GG Z) (ax_tab m_L_law) (pc, ls0, st, W, lg, sl) = some (.inr (.inr (.inr (j, .ref 0 :: As, none, pn, ls, r))))) (hj : (ax_GG Z).2.2.2[j]? = some M') (hl : (ax_lay (.ref 0 :: As)).length ≤ M'.2.2.1)
    (hrl : RLs a' = RLs a) (him : IMs a' = IMs a) (hTn : ∀ gs rc nx t, TIn a gs rc nx t → TIn a' gs rc nx t)
    (hN : ∀ (rl im gs : Nat → Option Nat) (rc : Value) (nx : Nat) (w t : ax_W), CRel a rl im gs rc nx w t → EM (ax_GG Z) M' (.ref 0 :: As) w (fun out => ∃ x w', out = (some (.int x), w', [], 0) ∧ A x ∧ CRel a' rl im gs rc nx w' t))
    (hk : ∀ x W', A x → LI a' b W' lg sl n → EV (ax_GG Z) m_L_law P (pn, ls, .int x :: r, W', lg, sl)) : EV (ax_GG Z) m_L_law P (pc, ls0, st, W, lg, sl) := by
  obtain ⟨w, t, gs, rc, nx, hC, hM, hT, hG, g1, g2⟩ := hI
  refine EV.call hs hj hl (hN _ _ _ _ _ _ _ hC) ?_
  rintro out ⟨x, w', rfl, hx, hC'⟩
  have := hk x w' hx ⟨w, t, gs, rc, nx, by rw [hrl, him]; exact hC', hM, hTn _ _ _ _ hT, hG, g1, g2⟩
  show EV _ _ _ (pn, ls, .int x :: r, w', lg ++ [], sl)
  rw [List.append_nil]; exact this
end LIN
