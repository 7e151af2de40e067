/-! the law: acts -/
section LAC
variable {Z : Nat × (Nat → Int32)} {a b : aS} {rl im gs : Nat → Option Nat} {rc : Value} {nx : Nat} {w t W v : ax_W} {lg : List Nat} {sl n p m : Nat}
theorem LG_put (h : LGn lg t) (hl : p + m ≤ t.length) (hv : v.length = m) (hs : ∀ q, q < m → ∃ e, ax_nth v q = some e) : LGn lg (ax_put t (bl p m) v) := by
  refine ⟨h.1, fun k hk => ?_⟩
  rcases h.2 k hk with h | ⟨q, rfl, e, he⟩
  · exact Or.inl h
  · refine Or.inr ⟨q, rfl, ?_⟩
    by_cases hq : q < p ∨ p + m ≤ q
    · exact ⟨e, by rw [put_out hq]; exact he⟩
    · obtain ⟨e', he'⟩ := hs (q - p) (by omega)
      refine ⟨e', ?_⟩
      rw [show q = p + (q - p) by omega, put_in hl hv (by omega)]
      exact he'
theorem LG_new (h : LGn lg t) (hl : p + m ≤ t.length) (hv : v.length = m) (hs : ∀ q, q < m → ∃ e, ax_nth v q = some e) (hn : tk t p m = nn m) : LGn (lg ++ bl (64 + p) m) (ax_put t (bl p m) v) := by
  have h' := LG_put h hl hv hs
  refine ⟨List.nodup_append.mpr ⟨h.1, bl_nd, fun k hk k' hk' e => ?_⟩, fun k hk => ?_⟩
  · subst e
    have hb := mem_bl.mp hk'
    rcases h.2 k hk with z | ⟨q, rfl, e, he⟩
    · omega
    · have : ax_nth (tk t p m) (q - p) = ax_nth t q := by
        rw [tk_at (by omega)]; exact congrArg _ (by omega)
      rw [hn, nn_at] at this
      rw [← this] at he
      cases he
  · rcases List.mem_append.mp hk with hk | hk
    · exact h'.2 k hk
    · have hb := mem_bl.mp hk
      refine Or.inr ⟨k - 64, by omega, ?_⟩
      obtain ⟨e, he⟩ := hs (k - 64 - p) (by omega)
      refine ⟨e, ?_⟩
      rw [show k - 64 = p + (k - 64 - p) by omega, put_in hl hv (by omega)]
      exact he
theorem RIn_put (h : RIn a t) (hd : p + m ≤ 9 ∨ 21 ≤ p) : RIn a (ax_put t (bl p m) v) := by
  intro i hi
  rw [tk_out (by omega)]
  exact h i hi
theorem EIn_put (h : EIn rc t) (hd : 9 ≤ p) : EIn rc (ax_put t (bl p m) v) := by
  unfold EIn at h ⊢
  rw [tk_out (by omega)]
  exact h
theorem IIn_put (h : IIn a t) (hd : p + m ≤ 21 ∨ 73 ≤ p) : IIn a (ax_put t (bl p m) v) := by
  intro k hk
  rw [tk_out (by omega)]
  exact h k hk
theorem GIn_put (h : GIn gs t) (hd : p + m ≤ 73 ∨ 173 ≤ p) : GIn gs (ax_put t (bl p m) v) := by
  intro j hj
  rw [tk_out (by omega)]
  exact h j hj
theorem plI_lt {x y z : Nat} : plI x y z < 20 := by unfold plI; omega
theorem PIn_put (h : PIn a gs nx t) (hd : p + m ≤ 73 ∨ 173 ≤ p) : PIn a gs nx (ax_put t (bl p m) v) := by
  intro i hi
  have := plI_lt (x := nx) (y := a_m a) (z := i)
  rw [tk_out (by omega)]
  exact h i hi
theorem G5_some {y_turn : Int32} {y_order : Nat → Int32} {y_back : Nat → Int32} {y_breath : Nat → Int32} {y_leapt : Nat → Int32} {c : Nat} : ∀ q, q < 5 → ∃ e, ax_nth (G5 c y_turn y_order y_back y_breath y_leapt) q = some e := by
  intro q hq
  have : q = 0 ∨ q = 1 ∨ q = 2 ∨ q = 3 ∨ q = 4 := by omega
  rcases this with rfl | rfl | rfl | rfl | rfl <;> exact ⟨_, rfl⟩
/-- the ring of games, after an act -/
theorem ring {gs' : Nat → Option Nat} {y_turn : Int32} {y_order : Nat → Int32} {y_back : Nat → Int32} {y_breath : Nat → Int32} {y_leapt : Nat → Int32} {g : gS} (hm : a_m a ≤ 20) (hnx : nx < 20) (hl : t.length = 175) (hG : GIn gs t) (hP : PIn a gs nx t) (hg : ∀ j, j ≠ nx → gs' j = gs j) (hg2 : gs' nx = some (137 + 5 * nx)) (hy : cG (l_k (a_l a)) y_turn y_order y_back y_breath y_leapt (a_g a)) :
    GIn gs' (ax_put t (bl (73 + 5 * nx) 5) (G5 (137 + 5 * nx) y_turn y_order y_back y_breath y_leapt)) ∧ PIn (act a g) gs' ((nx + 1) % 20) (ax_put t (bl (73 + 5 * nx) 5) (G5 (137 + 5 * nx) y_turn y_order y_back y_breath y_leapt)) := by
  have hs : tk (ax_put t (bl (73 + 5 * nx) 5) (G5 (137 + 5 * nx) y_turn y_order y_back y_breath y_leapt)) (73 + 5 * nx) 5 = G5 (137 + 5 * nx) y_turn y_order y_back y_breath y_leapt := tk_put (by omega) rfl
  have ho : ∀ j, j < 20 → j ≠ nx → tk (ax_put t (bl (73 + 5 * nx) 5) (G5 (137 + 5 * nx) y_turn y_order y_back y_breath y_leapt)) (73 + 5 * j) 5 = tk t (73 + 5 * j) 5 := fun j hj hne => tk_out (by omega)
  refine ⟨fun j hj => ?_, fun i hi => ?_⟩
  · by_cases e : j = nx
    · subst e
      exact Or.inr ⟨hg2, _, _, _, _, _, hs⟩
    · rw [hg j e, ho j hj e]; exact hG j hj
  · have hi : i < kpN (a_m a) := hi
    show gs' (plI ((nx + 1) % 20) (kpN (a_m a)) i) = some (137 + 5 * plI ((nx + 1) % 20) (kpN (a_m a)) i) ∧ ∃ (y_turn : Int32) (y_order : Nat → Int32) (y_back : Nat → Int32) (y_breath : Nat → Int32) (y_leapt : Nat → Int32), tk _ (73 + 5 * plI ((nx + 1) % 20) (kpN (a_m a)) i) 5 = G5 (137 + 5 * plI ((nx + 1) % 20) (kpN (a_m a)) i) y_turn y_order y_back y_breath y_leapt ∧ cG (l_k (a_l a)) y_turn y_order y_back y_breath y_leapt (kpP (a_m a) (a_p a) (a_g a) i)
    unfold kpN at hi ⊢
    by_cases e20 : a_m a = 20
    · by_cases e : i = 19
      · rw [show plI ((nx + 1) % 20) (min 20 (a_m a + 1)) i = nx by unfold plI; omega]
        refine ⟨hg2, _, _, _, _, _, hs, ?_⟩
        unfold kpP
        rw [if_pos e20, if_pos e]; exact hy
      · have hlt := plI_lt (x := nx) (y := a_m a) (z := i + 1)
        rw [show plI ((nx + 1) % 20) (min 20 (a_m a + 1)) i = plI nx (a_m a) (i + 1) by unfold plI; omega]
        have hne : plI nx (a_m a) (i + 1) ≠ nx := by unfold plI; omega
        rw [hg _ hne, ho _ hlt hne]
        unfold kpP
        rw [if_pos e20, if_neg e]
        exact hP (i + 1) (by omega)
    · by_cases e : i = a_m a
      · rw [show plI ((nx + 1) % 20) (min 20 (a_m a + 1)) i = nx by unfold plI; omega]
        refine ⟨hg2, _, _, _, _, _, hs, ?_⟩
        unfold kpP
        rw [if_neg e20, if_pos e]; exact hy
      · have hlt := plI_lt (x := nx) (y := a_m a) (z := i)
        rw [show plI ((nx + 1) % 20) (min 20 (a_m a + 1)) i = plI nx (a_m a) i by unfold plI; omega]
        have hne : plI nx (a_m a) i ≠ nx := by unfold plI; omega
        rw [hg _ hne, ho _ hlt hne]
        unfold kpP
        rw [if_neg e20, if_neg e]
        exact hP i (by omega)
/-- an act: two names, and a place of the ring -/
theorem la {M' : ax_M} {As st r : List Value} {pc pn j p0 : Nat} {ls0 ls : ax_L} {P : ax_E → Prop} {x : Int32} {g : gS} (hA : AOk a) (hp0 : p0 + 2 ≤ 73 ∨ p0 = 173)
    (hC : CRel a (RLs a) (IMs a) gs rc nx W (ax_uncut lw_m w ++ t)) (hM : MR b w) (hT : TIn a gs rc nx t) (hG : LGn lg t) (g1 : lg.length ≤ 64 + 13 * n) (g2 : sl ≤ 1000000 + 500 * n + rcN rc)
    (hs : ax_step (ax_GG Z) (ax_tab m_L_law) (pc, ls0, st, W, lg, sl) = some (.inr (.inr (.inr (j, .ref 0 :: As, some (lw_c (bl (64 + p0) 2 ++ bl (137 + 5 * nx) 5)), pn, ls, r))))) (hj : (ax_GG Z).2.2.2[j]? = some M') (hl : (ax_lay (.ref 0 :: As)).length ≤ M'.2.2.1) (hAs : ∀ f, As.map (ax_rv f) = As)
    (hEA : ∀ (im gs : Nat → Option Nat) (rc : Value) (w0 : ax_W), gs nx = none → CRel a (rn (lw_c (bl (64 + p0) 2 ++ bl (137 + 5 * nx) 5)) (RLs a)) im gs rc nx w0 (rnm (ax_tau (lw_c (bl (64 + p0) 2 ++ bl (137 + 5 * nx) 5))) (tk t p0 2) ++ nn 5) → EM (ax_GG Z) M' (.ref 0 :: As) w0 (fun out => ∃ (w' : ax_W) (y_turn : Int32) (y_order : Nat → Int32) (y_back : Nat → Int32) (y_breath : Nat → Int32) (y_leapt : Nat → Int32), out = (some (.int x), w', [41, 42, 43, 44, 45], 33) ∧ CRel (act a g) (rn (lw_c (bl (64 + p0) 2 ++ bl (137 + 5 * nx) 5)) (RLs a)) im (va_up gs nx (some 41)) rc ((nx + 1) % 20) w' (rnm (ax_tau (lw_c (bl (64 + p0) 2 ++ bl (137 + 5 * nx) 5))) (tk t p0 2) ++ G5 41 y_turn y_order y_back y_breath y_leapt) ∧ cG (l_k (a_l a)) y_turn y_order y_back y_breath y_leapt (a_g a)))
    (hEP : ∀ (im gs : Nat → Option Nat) (rc : Value) (w0 : ax_W) (y_turn : Int32) (y_order : Nat → Int32) (y_back : Nat → Int32) (y_breath : Nat → Int32) (y_leapt : Nat → Int32), gs nx = some 41 → CRel a (rn (lw_c (bl (64 + p0) 2 ++ bl (137 + 5 * nx) 5)) (RLs a)) im gs rc nx w0 (rnm (ax_tau (lw_c (bl (64 + p0) 2 ++ bl (137 + 5 * nx) 5))) (tk t p0 2) ++ G5 41 y_turn y_order y_back y_breath y_leapt) → EM (ax_GG Z) M' (.ref 0 :: As) w0 (fun out => ∃ (w' : ax_W) (y_turn : Int32) (y_order : Nat → Int32) (y_back : Nat → Int32) (y_breath : Nat → Int32) (y_leapt : Nat → Int32), out = (some (.int x), w', [], 0) ∧ CRel (act a g) (rn (lw_c (bl (64 + p0) 2 ++ bl (137 + 5 * nx) 5)) (RLs a)) im gs rc ((nx + 1) % 20) w' (rnm (ax_tau (lw_c (bl (64 + p0) 2 ++ bl (137 + 5 * nx) 5))) (tk t p0 2) ++ G5 41 y_turn y_order y_back y_breath y_leapt) ∧ cG (l_k (a_l a)) y_turn y_order y_back y_breath y_leapt (a_g a)))
    (hk : ∀ W' lg' sl', LI (act a g) b W' lg' sl' (n + 1) → EV (ax_GG Z) m_L_law P (pn, ls, .int x :: r, W', lg', sl')) : EV (ax_GG Z) m_L_law P (pc, ls0, st, W, lg, sl) := by
  have hw := MR_len hM
  obtain ⟨t1, t2, t3, t4, t5, t6, t7, t8⟩ := hT
  have hnd : (bl (64 + p0) 2 ++ bl (137 + 5 * nx) 5).Nodup := List.nodup_append.mpr ⟨bl_nd, bl_nd, fun k hk k' hk' e => by
    have := mem_bl.mp hk
    have := mem_bl.mp hk'
    omega⟩
  have hmem : ∀ k ∈ bl (64 + p0) 2 ++ bl (137 + 5 * nx) 5, 64 ≤ k ∧ k < 239 := fun k hk => by
    rcases List.mem_append.mp hk with h | h
    · have := mem_bl.mp h; omega
    · have := mem_bl.mp h; omega
  have hge := fun k hk => (hmem k hk).1
  have hl8 : (bl (64 + p0) 2 ++ bl (137 + 5 * nx) 5).length ≤ 800 := by rw [List.length_append, bl_len, bl_len]; omega
  have hat : ∀ q, q < 5 → (bl (64 + p0) 2 ++ bl (137 + 5 * nx) 5)[2 + q]? = some (137 + 5 * nx + q) := fun q hq => by
    rw [List.getElem?_append_right (by rw [bl_len]; omega), bl_len, show 2 + q - 2 = q by omega]
    exact bl_at hq
  have htau : ∀ q, q < 5 → ax_tau (lw_c (bl (64 + p0) 2 ++ bl (137 + 5 * nx) 5)) (137 + 5 * nx + q) = 41 + q := fun q hq => by
    rw [tau_X hnd hge (hat q hq)]; omega
  have hthe : ∀ q, q < 5 → ax_the (lw_c (bl (64 + p0) 2 ++ bl (137 + 5 * nx) 5)) (41 + q) = 137 + 5 * nx + q := fun q hq => by
    rw [show 41 + q = 39 + (2 + q) by omega]; exact the_X (hat q hq)
  have hcut : lw_t (lw_c (bl (64 + p0) 2 ++ bl (137 + 5 * nx) 5)) (bl (64 + p0) 2 ++ bl (137 + 5 * nx) 5) W = rnm (ax_tau (lw_c (bl (64 + p0) 2 ++ bl (137 + 5 * nx) 5))) (tk t p0 2) ++ rnm (ax_tau (lw_c (bl (64 + p0) 2 ++ bl (137 + 5 * nx) 5))) (tk t (73 + 5 * nx) 5) := by
    rw [see2, see hC hw]
    congr 1
    rw [show 137 + 5 * nx = 64 + (73 + 5 * nx) by omega]
    exact see hC hw
  -- what lies behind the two names and the place, then
  have hput : ∀ (y_turn : Int32) (y_order : Nat → Int32) (y_back : Nat → Int32) (y_breath : Nat → Int32) (y_leapt : Nat → Int32), ax_put t ((bl (64 + p0) 2 ++ bl (137 + 5 * nx) 5).map (fun k => k - 64)) (ax_uncut (lw_c (bl (64 + p0) 2 ++ bl (137 + 5 * nx) 5)) (rnm (ax_tau (lw_c (bl (64 + p0) 2 ++ bl (137 + 5 * nx) 5))) (tk t p0 2) ++ G5 41 y_turn y_order y_back y_breath y_leapt)) = ax_put t (bl (73 + 5 * nx) 5) (G5 (137 + 5 * nx) y_turn y_order y_back y_breath y_leapt) := by
    intro y_turn y_order y_back y_breath y_leapt
    rw [List.map_append, bl_sub, show 137 + 5 * nx = 64 + (73 + 5 * nx) by omega, bl_sub, ← show 137 + 5 * nx = 64 + (73 + 5 * nx) by omega, uncut_rnm, rnm_app, rnm_back hl8, rnm_G5 hthe, put_two (by rw [tk_len, bl_len]), put_self]
  have fin : ∀ (gs' : Nat → Option Nat) (lg' : List Nat) (sl' : Nat) (W' : ax_W) (y_turn : Int32) (y_order : Nat → Int32) (y_back : Nat → Int32) (y_breath : Nat → Int32) (y_leapt : Nat → Int32), (∀ j, j ≠ nx → gs' j = gs j) → gs' nx = some (137 + 5 * nx) → cG (l_k (a_l a)) y_turn y_order y_back y_breath y_leapt (a_g a) → CRel (act a g) (RLs a) (IMs a) gs' rc ((nx + 1) % 20) W' (ax_uncut lw_m w ++ ax_put t (bl (73 + 5 * nx) 5) (G5 (137 + 5 * nx) y_turn y_order y_back y_breath y_leapt)) → LGn lg' (ax_put t (bl (73 + 5 * nx) 5) (G5 (137 + 5 * nx) y_turn y_order y_back y_breath y_leapt)) → lg'.length ≤ 64 + 13 * (n + 1) → sl' ≤ 1000000 + 500 * (n + 1) + rcN rc → EV (ax_GG Z) m_L_law P (pn, ls, .int x :: r, W', lg', sl') := by
    intro gs' lg' sl' W' y_turn y_order y_back y_breath y_leapt e1 e2 hy hC' hL' k1 k2
    obtain ⟨r1, r2⟩ := ring (g := g) hA.2.2.2.2.2.1 t7 t1 t6 t8 e1 e2 hy
    refine hk W' lg' sl' ⟨w, _, gs', rc, (nx + 1) % 20, hC', hM, ⟨by rw [ax_put_len]; exact t1, by rw [tk_out (by omega)]; exact t2, RIn_put (a := act a g) t3 (by omega), EIn_put t4 (by omega), IIn_put (a := act a g) t5 (by omega), r1, by omega, r2⟩, hL', k1, k2⟩
  rcases t6 nx t7 with ⟨e1, e2⟩ | ⟨e1, y_turn, y_order, y_back, y_breath, y_leapt, e2⟩
  · rw [e2, rnm_nn] at hcut
    refine lw_call hs hj hl (hAs _) hnd hmem hl8 hC hw t1 (fun w0 h0 => hEA _ _ _ w0 (rn_no e1) (by rw [← hcut]; exact h0)) ?_
    rintro out ⟨w', y_turn, y_order, y_back, y_breath, y_leapt, rfl, hC', hy⟩
    have h1 := put_C hC hw hC' hge
    rw [rb_rn hl8, rb_rn hl8, show (41 : Nat) = 39 + 2 from rfl, rb_up hl8 (hat 0 (by omega)), rv_back hl8, hput] at h1
    have hlg : ([41, 42, 43, 44, 45] : List Nat).map (ax_the (lw_c (bl (64 + p0) 2 ++ bl (137 + 5 * nx) 5))) = bl (64 + (73 + 5 * nx)) 5 := by
      rw [show 64 + (73 + 5 * nx) = 137 + 5 * nx by omega]
      exact map_f (b := 41) (n := 5) hthe
    show EV _ _ _ (pn, ls, .int x :: r, _, lg ++ ([41, 42, 43, 44, 45] : List Nat).map (ax_the (lw_c (bl (64 + p0) 2 ++ bl (137 + 5 * nx) 5))), sl + 33)
    rw [hlg]
    refine fin _ _ _ _ _ _ _ _ _  (fun j hj => if_neg hj) (if_pos rfl) hy h1 (LG_new hG (by omega) rfl G5_some e2) ?_ (by omega)
    rw [List.length_append, bl_len]; omega
  · rw [e2, rnm_G5 htau] at hcut
    refine lw_call hs hj hl (hAs _) hnd hmem hl8 hC hw t1 (fun w0 h0 => hEP _ _ _ w0 y_turn y_order y_back y_breath y_leapt (rn_in hnd hge (hat 0 (by omega)) e1) (by rw [← hcut]; exact h0)) ?_
    rintro out ⟨w', y_turn', y_order', y_back', y_breath', y_leapt', rfl, hC', hy⟩
    have h1 := put_C hC hw hC' hge
    rw [rb_rn hl8, rb_rn hl8, rb_rn hl8, rv_back hl8, hput] at h1
    show EV _ _ _ (pn, ls, .int x :: r, _, lg ++ [], sl)
    rw [List.append_nil]
    exact fin _ _ _ _ _ _ _ _ _  (fun j _ => rfl) e1 hy h1 (LG_put hG (by omega) rfl G5_some) (by omega) (by omega)
end LAC
