/-! the law: what is refused; undo; orders; rules; images -/
section LMO
variable {Z : Nat × (Nat → Int32)} {a b : aS} {rl im gs : Nat → Option Nat} {rc : Value} {nx : Nat} {w t W v : ax_W} {lg : List Nat} {sl n : Nat}
theorem self2 {p0 p1 m0 m1 : Nat} (hC : CRel a rl im gs rc nx W (ax_uncut lw_m w ++ t)) (hw : w.length = 25) : ax_put t ((bl (64 + p0) m0 ++ bl (64 + p1) m1).map (fun k => k - 64)) ((bl (64 + p0) m0 ++ bl (64 + p1) m1).map (ax_nth W)) = t := by
  rw [List.map_append, List.map_append, bl_sub, bl_sub, map_bl, map_bl, W_tk hC hw, W_tk hC hw, put_two (by rw [tk_len, bl_len]), put_self, put_self]
/-- what is refused, whatever is seen: by a view of two blocks -/
theorem lz0 {M' : ax_M} {As st r : List Value} {pc pn j p0 p1 : Nat} {ls0 ls : ax_L} {P : ax_E → Prop} (hp0 : p0 = 173 ∨ p0 + 2 ≤ 73) (hp1 : 73 ≤ p1 ∧ p1 + 5 ≤ 173)
    (hI : LI a b W lg sl n)
    (hs : ax_step (ax_GG Z) (ax_tab m_L_law) (pc, ls0, st, W, lg, sl) = some (.inr (.inr (.inr (j, .ref 0 :: As, some (lw_c (bl (64 + p0) 2 ++ bl (64 + p1) 5)), pn, ls, r))))) (hj : (ax_GG Z).2.2.2[j]? = some M') (hl : (ax_lay (.ref 0 :: As)).length ≤ M'.2.2.1) (hAs : ∀ f, As.map (ax_rv f) = As)
    (hE : ∀ (rl im gs : Nat → Option Nat) (rc : Value) (nx : Nat) (w t : ax_W), CRel a rl im gs rc nx w t → EM (ax_GG Z) M' (.ref 0 :: As) w (fun out => out = (some (.int (-1)), w, [], 0)))
    (hk : ∀ W', LI a b W' lg sl n → EV (ax_GG Z) m_L_law P (pn, ls, .int (-1) :: r, W', lg, sl)) : EV (ax_GG Z) m_L_law P (pc, ls0, st, W, lg, sl) := by
  obtain ⟨w, t, gs, rc, nx, hC, hM, hT, hG, g1, g2⟩ := hI
  have hw := MR_len hM
  refine lw_keepX (A := fun x => x = -1) hs hj hl hAs ?_ (fun k hk => ?_) ?_ hC hw hT.1 (self2 hC hw) (fun w0 h0 => EM.mono (hE _ _ _ _ _ _ _ h0) (fun out e => ⟨-1, w0, e, rfl, h0⟩)) (fun x W' hx hC' => ?_)
  · exact List.nodup_append.mpr ⟨bl_nd, bl_nd, fun k hk k' hk' e => by
      have := mem_bl.mp hk
      have := mem_bl.mp hk'
      omega⟩
  · rcases List.mem_append.mp hk with h | h
    · have := mem_bl.mp h; omega
    · have := mem_bl.mp h; omega
  · rw [List.length_append, bl_len, bl_len]; omega
  · subst hx
    exact hk W' ⟨w, t, gs, rc, nx, hC', hM, hT, hG, g1, g2⟩
/-- a call by a view of one block that is left as it was -/
theorem l1 {M' : ax_M} {As st r : List Value} {pc pn j p m : Nat} {ls0 ls : ax_L} {P : ax_E → Prop} {A : Int32 → Prop} {a' : aS} (hpm : p + m ≤ 175)
    (hI : LI a b W lg sl n) (hrl : RLs a' = RLs a) (him : IMs a' = IMs a) (hTn : ∀ gs rc nx t, TIn a gs rc nx t → TIn a' gs rc nx t)
    (hs : ax_step (ax_GG Z) (ax_tab m_L_law) (pc, ls0, st, W, lg, sl) = some (.inr (.inr (.inr (j, .ref 0 :: As, some (lw_c (bl (64 + p) m)), pn, ls, r))))) (hj : (ax_GG Z).2.2.2[j]? = some M') (hl : (ax_lay (.ref 0 :: As)).length ≤ M'.2.2.1) (hAs : ∀ f, As.map (ax_rv f) = As)
    (hE : ∀ (rl im gs : Nat → Option Nat) (rc : Value) (nx : Nat) (w t : ax_W), CRel a rl im gs rc nx w t → EM (ax_GG Z) M' (.ref 0 :: As) w (fun out => ∃ x w', out = (some (.int x), w', [], 0) ∧ A x ∧ CRel a' rl im gs rc nx w' t))
    (hk : ∀ x W', A x → LI a' b W' lg sl n → EV (ax_GG Z) m_L_law P (pn, ls, .int x :: r, W', lg, sl)) : EV (ax_GG Z) m_L_law P (pc, ls0, st, W, lg, sl) := by
  obtain ⟨w, t, gs, rc, nx, hC, hM, hT, hG, g1, g2⟩ := hI
  refine lw_keep hs hj hl hAs hpm hC (MR_len hM) hT.1 (fun w0 h0 => hE _ _ _ _ _ _ _ h0) (fun x W' hx hC' => hk x W' hx ⟨w, t, gs, rc, nx, by rw [hrl, him]; exact hC', hM, hTn _ _ _ _ hT, hG, g1, g2⟩)
/-- the last act is undone -/
theorem lu {M' : ax_M} {st r : List Value} {pc pn j p : Nat} {ls0 ls : ax_L} {P : ax_E → Prop} (hm : a_m a = p + 1)
    (hI : LI a b W lg sl n)
    (hs : ax_step (ax_GG Z) (ax_tab m_L_law) (pc, ls0, st, W, lg, sl) = some (.inr (.inr (.inr (j, [.ref 0], lw_vU st W, pn, ls, r))))) (hj : (ax_GG Z).2.2.2[j]? = some M') (hl : (ax_lay [.ref 0]).length ≤ M'.2.2.1) (hA : AOk a)
    (hE : ∀ (rl im gs : Nat → Option Nat) (rc : Value) (nx : Nat) (w : ax_W) (y_turn : Int32) (y_order : Nat → Int32) (y_back : Nat → Int32) (y_breath : Nat → Int32) (y_leapt : Nat → Int32) (g : gS), nx < 20 → gs nx = some 41 → cG (l_k (a_l a)) y_turn y_order y_back y_breath y_leapt g → CRel a rl im gs rc ((nx + 1) % 20) w (none :: none :: G5 41 y_turn y_order y_back y_breath y_leapt) → EM (ax_GG Z) M' [.ref 0] w (fun out => ∃ w', out = (some (.int (jn (p : Int))), w', [], 0) ∧ CRel (setS (setP a (a_p a) p) (setG (a_s a) g)) rl im gs rc nx w' (none :: none :: G5 41 y_turn y_order y_back y_breath y_leapt)))
    (hk : ∀ W', LI (setS (setP a (a_p a) p) (setG (a_s a) (a_p a p))) b W' lg sl n → EV (ax_GG Z) m_L_law P (pn, ls, .int (jn (p : Int)) :: r, W', lg, sl)) : EV (ax_GG Z) m_L_law P (pc, ls0, st, W, lg, sl) := by
  obtain ⟨w, t, gs, rc, nx, hC, hM, hT, hG, g1, g2⟩ := hI
  have hw := MR_len hM
  have hm20 := hA.2.2.2.2.2.1
  obtain ⟨t1, t2, t3, t4, t5, t6, t7, t8⟩ := hT
  obtain ⟨q1, y_turn, y_order, y_back, y_breath, y_leapt, q2, q3⟩ := t8 p (by omega)
  have hpl : plI nx (a_m a) p = (nx + 19) % 20 := by unfold plI; omega
  rw [hpl] at q1 q2
  unfold lw_vU at hs
  rw [lw_nxt hC, jn_cln (by omega), lw_s_bl] at hs
  generalize hj0 : (nx + 19) % 20 = j0 at *
  have hj20 : j0 < 20 := by omega
  have hnx : nx = (j0 + 1) % 20 := by omega
  have hs : ax_step (ax_GG Z) (ax_tab m_L_law) (pc, ls0, st, W, lg, sl) = some (.inr (.inr (.inr (j, [.ref 0], some (lw_c (bl (64 + 173) 2 ++ bl (137 + 5 * j0) 5)), pn, ls, r)))) := hs
  have hnd : (bl (64 + 173) 2 ++ bl (137 + 5 * j0) 5).Nodup := List.nodup_append.mpr ⟨bl_nd, bl_nd, fun k hk k' hk' e => by
    have := mem_bl.mp hk
    have := mem_bl.mp hk'
    omega⟩
  have hmem : ∀ k ∈ bl (64 + 173) 2 ++ bl (137 + 5 * j0) 5, 64 ≤ k ∧ k < 239 := fun k hk => by
    rcases List.mem_append.mp hk with h | h
    · have := mem_bl.mp h; omega
    · have := mem_bl.mp h; omega
  have hge := fun k hk => (hmem k hk).1
  have hl8 : (bl (64 + 173) 2 ++ bl (137 + 5 * j0) 5).length ≤ 800 := by rw [List.length_append, bl_len, bl_len]; omega
  have hat : ∀ q, q < 5 → (bl (64 + 173) 2 ++ bl (137 + 5 * j0) 5)[2 + q]? = some (137 + 5 * j0 + q) := fun q hq => by
    rw [List.getElem?_append_right (by rw [bl_len]; omega), bl_len, show 2 + q - 2 = q by omega]
    exact bl_at hq
  have htau : ∀ q, q < 5 → ax_tau (lw_c (bl (64 + 173) 2 ++ bl (137 + 5 * j0) 5)) (137 + 5 * j0 + q) = 41 + q := fun q hq => by
    rw [tau_X hnd hge (hat q hq)]; omega
  have hcut : lw_t (lw_c (bl (64 + 173) 2 ++ bl (137 + 5 * j0) 5)) (bl (64 + 173) 2 ++ bl (137 + 5 * j0) 5) W = none :: none :: G5 41 y_turn y_order y_back y_breath y_leapt := by
    rw [see2, see hC hw, t2, rnm_nn, show bl (137 + 5 * j0) 5 = bl (64 + (73 + 5 * j0)) 5 by rw [show 137 + 5 * j0 = 64 + (73 + 5 * j0) by omega], see hC hw, q2, ← show bl (137 + 5 * j0) 5 = bl (64 + (73 + 5 * j0)) 5 by rw [show 137 + 5 * j0 = 64 + (73 + 5 * j0) by omega], rnm_G5 htau]
    rfl
  have hself : ax_put t ((bl (64 + 173) 2 ++ bl (137 + 5 * j0) 5).map (fun k => k - 64)) ((bl (64 + 173) 2 ++ bl (137 + 5 * j0) 5).map (ax_nth W)) = t := by
    rw [show 137 + 5 * j0 = 64 + (73 + 5 * j0) by omega]; exact self2 hC hw
  refine lw_call hs hj hl rfl hnd hmem hl8 hC hw t1 (fun w0 h0 => hE _ _ _ _ j0 w0 y_turn y_order y_back y_breath y_leapt (a_p a p) hj20 (rn_in hnd hge (hat 0 (by omega)) q1) q3 (by rw [← hcut, ← hnx]; exact h0)) ?_
  rintro out ⟨w', rfl, hC'⟩
  have h1 := put_C hC hw hC' hge
  rw [← hcut, rb_rn hl8, rb_rn hl8, rb_rn hl8, rv_back hl8, unsee hl8, hself] at h1
  show EV _ _ _ (pn, ls, .int (jn (p : Int)) :: r, _, lg ++ [], sl)
  rw [List.append_nil]
  refine hk _ ⟨w, t, gs, rc, j0, h1, hM, ⟨t1, t2, t3, t4, t5, t6, hj20, fun i hi => ?_⟩, hG, g1, g2⟩
  have hi : i < p := hi
  have := t8 i (by omega)
  rw [show plI nx (a_m a) i = plI j0 p i by unfold plI; omega] at this
  exact this
/-- questions on orders -/
theorem le {M' : ax_M} {As st r : List Value} {pc pn j : Nat} {ls0 ls : ax_L} {P : ax_E → Prop} {A : Int32 → Prop}
    (hI : LI a b W lg sl n)
    (hs : ax_step (ax_GG Z) (ax_tab m_L_law) (pc, ls0, st, W, lg, sl) = some (.inr (.inr (.inr (j, .ref 0 :: As, some (lw_c (bl (64 + 0) 9)), pn, ls, r))))) (hj : (ax_GG Z).2.2.2[j]? = some M') (hl : (ax_lay (.ref 0 :: As)).length ≤ M'.2.2.1) (hAs : ∀ f, As.map (ax_rv f) = As)
    (hEA : ∀ (rl im gs : Nat → Option Nat) (nx : Nat) (w : ax_W), CRel a rl im gs .null nx w (nn 9) → EM (ax_GG Z) M' (.ref 0 :: As) w (fun out => ∃ (x : Int32) (w' : ax_W) (y_many : Int32) (y_spring : Int32) (y_leapable : Nat → Int32) (y_found : Int32) (y_whereOf : Nat → Int32) (y_rows : Nat → Int32) (y_from : Nat → Int32) (y_depth : Nat → Int32) (y_order : Nat → Int32) (y_places : Nat → Int32) (y_lesser : Nat → Int32), out = (some (.int x), w', [39, 40, 41, 42, 43, 44, 45, 46, 47], 20199) ∧ A x ∧ CRel a rl im gs (.ref 39) nx w' (E9 39 y_many y_spring y_leapable y_found y_whereOf y_rows y_from y_depth y_order y_places y_lesser) ∧ cX0 y_many y_spring y_leapable y_found y_whereOf y_rows y_from y_depth))
    (hEP : ∀ (rl im gs : Nat → Option Nat) (nx : Nat) (w : ax_W) (y_many : Int32) (y_spring : Int32) (y_leapable : Nat → Int32) (y_found : Int32) (y_whereOf : Nat → Int32) (y_rows : Nat → Int32) (y_from : Nat → Int32) (y_depth : Nat → Int32) (y_order : Nat → Int32) (y_places : Nat → Int32) (y_lesser : Nat → Int32), cX0 y_many y_spring y_leapable y_found y_whereOf y_rows y_from y_depth → CRel a rl im gs (.ref 39) nx w (E9 39 y_many y_spring y_leapable y_found y_whereOf y_rows y_from y_depth y_order y_places y_lesser) → EM (ax_GG Z) M' (.ref 0 :: As) w (fun out => ∃ (x : Int32) (w' : ax_W) (y_many : Int32) (y_spring : Int32) (y_leapable : Nat → Int32) (y_found : Int32) (y_whereOf : Nat → Int32) (y_rows : Nat → Int32) (y_from : Nat → Int32) (y_depth : Nat → Int32) (y_order : Nat → Int32) (y_places : Nat → Int32) (y_lesser : Nat → Int32), out = (some (.int x), w', [], 0) ∧ A x ∧ CRel a rl im gs (.ref 39) nx w' (E9 39 y_many y_spring y_leapable y_found y_whereOf y_rows y_from y_depth y_order y_places y_lesser) ∧ cX0 y_many y_spring y_leapable y_found y_whereOf y_rows y_from y_depth))
    (hk : ∀ x W' lg' sl', A x → LI a b W' lg' sl' (n + 1) → EV (ax_GG Z) m_L_law P (pn, ls, .int x :: r, W', lg', sl')) : EV (ax_GG Z) m_L_law P (pc, ls0, st, W, lg, sl) := by
  obtain ⟨w, t, gs, rc, nx, hC, hM, hT, hG, g1, g2⟩ := hI
  have hw := MR_len hM
  obtain ⟨t1, t2, t3, t4, t5, t6, t7, t8⟩ := hT
  have hnd : (bl (64 + 0) 9).Nodup := bl_nd
  have hmem : ∀ k ∈ bl (64 + 0) 9, 64 ≤ k ∧ k < 239 := fun k hk => by have := mem_bl.mp hk; omega
  have hge := fun k hk => (hmem k hk).1
  have hl8 : (bl (64 + 0) 9).length ≤ 800 := by rw [bl_len]; omega
  have htau : ∀ q, q < 9 → ax_tau (lw_c (bl (64 + 0) 9)) (64 + q) = 39 + q := fun q hq => tau_X hnd hge (bl_at hq)
  have hthe : ∀ q, q < 9 → ax_the (lw_c (bl (64 + 0) 9)) (39 + q) = 64 + q := fun q hq => the_X (bl_at hq)
  have hcut := see (L := lw_c (bl (64 + 0) 9)) (p := 0) (m := 9) hC hw
  have hsome : ∀ (y_many : Int32) (y_spring : Int32) (y_leapable : Nat → Int32) (y_found : Int32) (y_whereOf : Nat → Int32) (y_rows : Nat → Int32) (y_from : Nat → Int32) (y_depth : Nat → Int32) (y_order : Nat → Int32) (y_places : Nat → Int32) (y_lesser : Nat → Int32), ∀ q, q < 9 → ∃ e, ax_nth (E9 64 y_many y_spring y_leapable y_found y_whereOf y_rows y_from y_depth y_order y_places y_lesser) q = some e := by
    intro y_many y_spring y_leapable y_found y_whereOf y_rows y_from y_depth y_order y_places y_lesser q hq
    have : q = 0 ∨ q = 1 ∨ q = 2 ∨ q = 3 ∨ q = 4 ∨ q = 5 ∨ q = 6 ∨ q = 7 ∨ q = 8 := by omega
    rcases this with rfl | rfl | rfl | rfl | rfl | rfl | rfl | rfl | rfl <;> exact ⟨_, rfl⟩
  have fin : ∀ (x : Int32) (lg' : List Nat) (sl' : Nat) (w' : ax_W) (y_many : Int32) (y_spring : Int32) (y_leapable : Nat → Int32) (y_found : Int32) (y_whereOf : Nat → Int32) (y_rows : Nat → Int32) (y_from : Nat → Int32) (y_depth : Nat → Int32) (y_order : Nat → Int32) (y_places : Nat → Int32) (y_lesser : Nat → Int32), A x → CRel a (rn (lw_c (bl (64 + 0) 9)) (RLs a)) (rn (lw_c (bl (64 + 0) 9)) (IMs a)) (rn (lw_c (bl (64 + 0) 9)) gs) (.ref 39) nx w' (E9 39 y_many y_spring y_leapable y_found y_whereOf y_rows y_from y_depth y_order y_places y_lesser) → cX0 y_many y_spring y_leapable y_found y_whereOf y_rows y_from y_depth → LGn lg' (ax_put t (bl 0 9) (E9 64 y_many y_spring y_leapable y_found y_whereOf y_rows y_from y_depth y_order y_places y_lesser)) → lg'.length ≤ 64 + 13 * (n + 1) → sl' ≤ 1000000 + 500 * (n + 1) + 1000000 → EV (ax_GG Z) m_L_law P (pn, ls, .int x :: r, ax_put W (lw_c (bl (64 + 0) 9)) (ax_uncut (lw_c (bl (64 + 0) 9)) w'), lg', sl') := by
    intro x lg' sl' w' y_many y_spring y_leapable y_found y_whereOf y_rows y_from y_depth y_order y_places y_lesser hx hC' hX hL k1 k2
    have h1 := put_C hC hw hC' hge
    rw [rb_rn hl8, rb_rn hl8, rb_rn hl8, bl_sub, uncut_rnm (v := E9 39 y_many y_spring y_leapable y_found y_whereOf y_rows y_from y_depth y_order y_places y_lesser), rnm_E9 hthe] at h1
    have h1 : CRel a (RLs a) (IMs a) gs (.ref (ax_the (lw_c (bl (64 + 0) 9)) (39 + 0))) nx _ _ := h1
    rw [hthe 0 (by omega)] at h1
    exact hk x _ lg' sl' hx ⟨w, _, gs, .ref 64, nx, h1, hM, ⟨by rw [ax_put_len]; exact t1, by rw [tk_out (by omega)]; exact t2, RIn_put t3 (by omega), Or.inr ⟨rfl, _, _, _, _, _, _, _, _, _, _, _, tk_put (by omega) rfl, hX⟩, IIn_put t5 (by omega), GIn_put t6 (by omega), t7, PIn_put t8 (by omega)⟩, hL, k1, k2⟩
  rcases t4 with ⟨rfl, e1⟩ | ⟨rfl, y_many, y_spring, y_leapable, y_found, y_whereOf, y_rows, y_from, y_depth, y_order, y_places, y_lesser, e1, e2⟩
  · rw [e1, rnm_nn] at hcut
    refine lw_call hs hj hl (hAs _) hnd hmem hl8 hC hw t1 (fun w0 h0 => hEA _ _ _ _ w0 (by rw [← hcut]; exact h0)) ?_
    rintro out ⟨x, w', y_many, y_spring, y_leapable, y_found, y_whereOf, y_rows, y_from, y_depth, y_order, y_places, y_lesser, rfl, hx, hC', hX⟩
    have hlg : ([39, 40, 41, 42, 43, 44, 45, 46, 47] : List Nat).map (ax_the (lw_c (bl (64 + 0) 9))) = bl (64 + 0) 9 := by decide
    show EV _ _ _ (pn, ls, .int x :: r, _, lg ++ ([39, 40, 41, 42, 43, 44, 45, 46, 47] : List Nat).map (ax_the (lw_c (bl (64 + 0) 9))), sl + 20199)
    rw [hlg]
    refine fin x _ _ w' y_many y_spring y_leapable y_found y_whereOf y_rows y_from y_depth y_order y_places y_lesser hx hC' hX (LG_new hG (by omega) rfl (hsome y_many y_spring y_leapable y_found y_whereOf y_rows y_from y_depth y_order y_places y_lesser) e1) (by rw [List.length_append, bl_len]; omega) ?_
    have : rcN .null = 0 := rfl
    omega
  · rw [e1, rnm_E9 htau] at hcut
    refine lw_call hs hj hl (hAs _) hnd hmem hl8 hC hw t1 (fun w0 h0 => hEP _ _ _ _ w0 y_many y_spring y_leapable y_found y_whereOf y_rows y_from y_depth y_order y_places y_lesser e2 (by
      rw [← hcut]
      have h0 : CRel a _ _ _ (.ref (ax_tau (lw_c (bl (64 + 0) 9)) (64 + 0))) nx w0 _ := h0
      rw [htau 0 (by omega)] at h0
      exact h0)) ?_
    rintro out ⟨x, w', y_many', y_spring', y_leapable', y_found', y_whereOf', y_rows', y_from', y_depth', y_order', y_places', y_lesser', rfl, hx, hC', hX⟩
    show EV _ _ _ (pn, ls, .int x :: r, _, lg ++ [], sl)
    rw [List.append_nil]
    refine fin x _ _ w' y_many' y_spring' y_leapable' y_found' y_whereOf' y_rows' y_from' y_depth' y_order' y_places' y_lesser' hx hC' hX (LG_put hG (by omega) rfl (hsome y_many' y_spring' y_leapable' y_found' y_whereOf' y_rows' y_from' y_depth' y_order' y_places' y_lesser')) (by omega) ?_
    have : rcN (.ref 64) = 1000000 := rfl
    omega
end LMO
