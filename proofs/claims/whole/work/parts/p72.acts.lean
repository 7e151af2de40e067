/-! the law: acts -/
section LOA
variable {Z : Nat × (Nat → Int32)} {a : aS} {W : ax_W} {lg : List Nat} {sl n : Nat} {P : ax_E → Prop}
theorem int_nat {q : Int32} (h : 0 ≤ q.toInt) : ∃ b : Nat, q = jn (b : Int) ∧ q.toInt = (b : Int) := by
  obtain ⟨y, rfl, hy⟩ := jn_of q
  rw [jn_toInt hy] at h ⊢
  exact ⟨y.toNat, congrArg jn (by omega), by omega⟩
set_option maxRecDepth 100000 in
theorem op_turn {v : Int32} (hA : AOk a) (hI : LI a a W lg sl n) (hk : ∀ a' W' lg' sl', AOk a' → LI a' a' W' lg' sl' (n + 1) → EV (ax_GG Z) m_L_law P (1187, [some (.ref 903), some (.ref 0), some (.ref 39), some (.int v)], [], W', lg', sl')) : EV (ax_GG Z) m_L_law P (377, [some (.ref 903), some (.ref 0), some (.ref 39), some (.int v)], [], W, lg, sl) := by
  obtain ⟨⟨f0, hf0⟩, -⟩ := LI_0 hI
  have h9 := LI_9 hI
  refine EV.seg (c' := (378, [some (.ref 903), some (.ref 0), some (.ref 39), some (.int v)], [.ref 0], W, lg, sl)) 1 rfl trivial ?_
  by_cases hgo : l_t (a_l a) = 1 ∧ g_t (a_g a) < 999
  · have e : F_turn a = (jn (tR (a_l a) (rNow a) (a_g a)), act a (tS (a_l a) (rNow a) (a_g a))) := if_pos hgo
    refine la_T (x := jn (tR (a_l a) (rNow a) (a_g a))) (g := (tS (a_l a) (rNow a) (a_g a))) hA hI (st_c rfl rfl rfl hf0 (Nat.le_of_ble_eq_true rfl)) rfl (Nat.le_of_ble_eq_true rfl) (fun hf rl im gs rc nx w h1 h2 h => ec_turn_N_A hA hf hgo h1 h2 h) (fun hf rl im gs rc nx w _ _ _ _ _ h1 h2 h => ec_turn_N_P hA hf hgo h1 h2 h) (fun i len code hf hR rl im gs rc nx w hrl h1 h2 h => ec_turn_R_A hA hf hrl hR hgo h1 h2 h) (fun i len code hf hR rl im gs rc nx w _ _ _ _ _ hrl h1 h2 h => ec_turn_R_P hA hf hrl hR hgo h1 h2 h) (fun W' lg' sl' hI' => ?_)
    obtain ⟨-, f1, hf1⟩ := LI_0 hI'
    have h9' := LI_9 hI'
    refine EV.seg (c' := (382, [some (.ref 903), some (.ref 0), some (.ref 39), some (.int v)], [.ref 39, .int (jn (tR (a_l a) (rNow a) (a_g a)))], W', lg', sl')) 1 rfl trivial ?_
    refine lm (A := fun r => r = (F_turn a ).1) (b' := (F_turn a ).2) hI' (st_c rfl rfl rfl hf1 (Nat.le_of_ble_eq_true rfl)) rfl (Nat.le_of_ble_eq_true rfl) (fun _ => rfl) (fun w h => mc_turn hA h) (fun y W'' hy hI'' => ?_)
    have hok := F_turn_ok hA
    rw [e] at hI'' hok hy
    exact EV.br (c1 := (1187, [some (.ref 903), some (.ref 0), some (.ref 39), some (.int v)], [], W'', lg', sl')) (c2 := (388, [some (.ref 903), some (.ref 0), some (.ref 39), some (.int v)], [], W'', lg', sl')) rfl (fun _ => hk _ _ _ _ hok hI'') (fun h => absurd hy.symm h)
  · have e : F_turn a = (-1, a) := if_neg hgo
    refine l0_T hA hI (st_c rfl rfl rfl hf0 (Nat.le_of_ble_eq_true rfl)) rfl (Nat.le_of_ble_eq_true rfl) (fun rl im gs rc nx w t h => ec_turn_0 hA hgo h) (fun W' hI' => ?_)
    obtain ⟨-, f1, hf1⟩ := LI_0 hI'
    have h9' := LI_9 hI'
    refine EV.seg (c' := (382, [some (.ref 903), some (.ref 0), some (.ref 39), some (.int v)], [.ref 39, .int (-1)], W', lg, sl)) 1 rfl trivial ?_
    refine lm (A := fun r => r = (F_turn a ).1) (b' := (F_turn a ).2) hI' (st_c rfl rfl rfl hf1 (Nat.le_of_ble_eq_true rfl)) rfl (Nat.le_of_ble_eq_true rfl) (fun _ => rfl) (fun w h => mc_turn hA h) (fun y W'' hy hI'' => ?_)
    have hok := F_turn_ok hA
    rw [e] at hI'' hok hy
    exact EV.br (c1 := (1187, [some (.ref 903), some (.ref 0), some (.ref 39), some (.int v)], [], W'', lg, sl)) (c2 := (388, [some (.ref 903), some (.ref 0), some (.ref 39), some (.int v)], [], W'', lg, sl)) rfl (fun _ => hk _ _ _ _ hok (hI''.up (by omega))) (fun h => absurd hy.symm h)
set_option maxRecDepth 100000 in
theorem op_leap {v : Int32} (h1 : vp_in (v + (1 : Int32)) Z.1) (h2 : vp_in (v + (2 : Int32)) Z.1) (hA : AOk a) (hI : LI a a W lg sl n) (hk : ∀ a' W' lg' sl', AOk a' → LI a' a' W' lg' sl' (n + 1) → EV (ax_GG Z) m_L_law P (1187, [some (.ref 903), some (.ref 0), some (.ref 39), some (.int v)], [], W', lg', sl')) : EV (ax_GG Z) m_L_law P (390, [some (.ref 903), some (.ref 0), some (.ref 39), some (.int v)], [], W, lg, sl) := by
  obtain ⟨⟨f0, hf0⟩, -⟩ := LI_0 hI
  have h9 := LI_9 hI
  refine EV.seg (c' := (391, [some (.ref 903), some (.ref 0), some (.ref 39), some (.int v)], [.ref 0], W, lg, sl)) 1 rfl trivial ?_
  refine EV.ld (k := 4) (i := v + (1 : Int32)) (pc' := 395) rfl rfl h9 h1 ?_
  refine EV.ld (k := 4) (i := v + (2 : Int32)) (pc' := 400) rfl rfl h9 h2 ?_
  show EV _ _ _ (401, [some (.ref 903), some (.ref 0), some (.ref 39), some (.int v)], [.int (Z.2 (v + (2 : Int32)).toNatClampNeg), .int (Z.2 (v + (1 : Int32)).toNatClampNeg), .ref 0], W, lg, sl)
  cases hs : asC (l_k (a_l a)) (Z.2 (v + (1 : Int32)).toNatClampNeg) with
  | none =>
    have e : F_leap a (Z.2 (v + (1 : Int32)).toNatClampNeg) (Z.2 (v + (2 : Int32)).toNatClampNeg) = (-1, a) := by unfold F_leap; rw [hs]
    refine l0_A hI (st_c rfl rfl rfl hf0 (Nat.le_of_ble_eq_true rfl)) rfl (Nat.le_of_ble_eq_true rfl) (fun _ => rfl) (fun rl im gs rc nx w t h => ec_leap_0 hA (fun c h' => by rw [hs] at h'; cases h') h) (fun W' hI' => ?_)
    obtain ⟨-, f1, hf1⟩ := LI_0 hI'
    have h9' := LI_9 hI'
    refine EV.seg (c' := (405, [some (.ref 903), some (.ref 0), some (.ref 39), some (.int v)], [.ref 39, .int (-1)], W', lg, sl)) 1 rfl trivial ?_
    refine EV.ld (k := 4) (i := v + (1 : Int32)) (pc' := 409) rfl rfl h9' h1 ?_
    refine EV.ld (k := 4) (i := v + (2 : Int32)) (pc' := 414) rfl rfl h9' h2 ?_
    show EV _ _ _ (415, [some (.ref 903), some (.ref 0), some (.ref 39), some (.int v)], [.int (Z.2 (v + (2 : Int32)).toNatClampNeg), .int (Z.2 (v + (1 : Int32)).toNatClampNeg), .ref 39, .int (-1)], W', lg, sl)
    refine lm (A := fun r => r = (F_leap a (Z.2 (v + (1 : Int32)).toNatClampNeg) (Z.2 (v + (2 : Int32)).toNatClampNeg)).1) (b' := (F_leap a (Z.2 (v + (1 : Int32)).toNatClampNeg) (Z.2 (v + (2 : Int32)).toNatClampNeg)).2) hI' (st_c rfl rfl rfl hf1 (Nat.le_of_ble_eq_true rfl)) rfl (Nat.le_of_ble_eq_true rfl) (fun _ => rfl) (fun w h => mc_leap hA h) (fun y W'' hy hI'' => ?_)
    have hok := F_leap_ok (x := (Z.2 (v + (1 : Int32)).toNatClampNeg)) (y := (Z.2 (v + (2 : Int32)).toNatClampNeg)) hA
    rw [e] at hI'' hok hy
    exact EV.br (c1 := (1187, [some (.ref 903), some (.ref 0), some (.ref 39), some (.int v)], [], W'', lg, sl)) (c2 := (421, [some (.ref 903), some (.ref 0), some (.ref 39), some (.int v)], [], W'', lg, sl)) rfl (fun _ => hk _ _ _ _ hok (hI''.up (by omega))) (fun h => absurd hy.symm h)
  | some c =>
    by_cases hgo : 0 < g_r (a_g a) c ∧ 1 ≤ (Z.2 (v + (2 : Int32)).toNatClampNeg).toInt ∧ (Z.2 (v + (2 : Int32)).toNatClampNeg).toInt ≤ ov (a_l a) (a_g a) c
    · obtain ⟨b, hb, hb2⟩ := int_nat (q := (Z.2 (v + (2 : Int32)).toNatClampNeg)) (by omega)
      have e : F_leap a (Z.2 (v + (1 : Int32)).toNatClampNeg) (Z.2 (v + (2 : Int32)).toNatClampNeg) = (jn ((plc (a_l a) (a_g a) c - b : Nat) : Int), act a (lpG (a_l a) (a_g a) c b)) := by
        unfold F_leap
        rw [hs]
        dsimp only
        rw [if_pos hgo, hb2, Int.toNat_natCast]
      refine la_A (x := jn ((plc (a_l a) (a_g a) c - b : Nat) : Int)) (g := (lpG (a_l a) (a_g a) c b)) hA hI (st_c rfl rfl rfl hf0 (Nat.le_of_ble_eq_true rfl)) rfl (Nat.le_of_ble_eq_true rfl) (fun _ => rfl) (fun rl im gs rc nx w h1 h2 h => by rw [hb]; exact ec_leap_A hA hs ⟨hgo.1, by omega, by omega⟩ h1 h2 h) (fun rl im gs rc nx w _ _ _ _ _ h1 h2 h => by rw [hb]; exact ec_leap_P hA hs ⟨hgo.1, by omega, by omega⟩ h1 h2 h) (fun W' lg' sl' hI' => ?_)
      obtain ⟨-, f1, hf1⟩ := LI_0 hI'
      have h9' := LI_9 hI'
      refine EV.seg (c' := (405, [some (.ref 903), some (.ref 0), some (.ref 39), some (.int v)], [.ref 39, .int (jn ((plc (a_l a) (a_g a) c - b : Nat) : Int))], W', lg', sl')) 1 rfl trivial ?_
      refine EV.ld (k := 4) (i := v + (1 : Int32)) (pc' := 409) rfl rfl h9' h1 ?_
      refine EV.ld (k := 4) (i := v + (2 : Int32)) (pc' := 414) rfl rfl h9' h2 ?_
      show EV _ _ _ (415, [some (.ref 903), some (.ref 0), some (.ref 39), some (.int v)], [.int (Z.2 (v + (2 : Int32)).toNatClampNeg), .int (Z.2 (v + (1 : Int32)).toNatClampNeg), .ref 39, .int (jn ((plc (a_l a) (a_g a) c - b : Nat) : Int))], W', lg', sl')
      refine lm (A := fun r => r = (F_leap a (Z.2 (v + (1 : Int32)).toNatClampNeg) (Z.2 (v + (2 : Int32)).toNatClampNeg)).1) (b' := (F_leap a (Z.2 (v + (1 : Int32)).toNatClampNeg) (Z.2 (v + (2 : Int32)).toNatClampNeg)).2) hI' (st_c rfl rfl rfl hf1 (Nat.le_of_ble_eq_true rfl)) rfl (Nat.le_of_ble_eq_true rfl) (fun _ => rfl) (fun w h => mc_leap hA h) (fun y W'' hy hI'' => ?_)
      have hok := F_leap_ok (x := (Z.2 (v + (1 : Int32)).toNatClampNeg)) (y := (Z.2 (v + (2 : Int32)).toNatClampNeg)) hA
      rw [e] at hI'' hok hy
      exact EV.br (c1 := (1187, [some (.ref 903), some (.ref 0), some (.ref 39), some (.int v)], [], W'', lg', sl')) (c2 := (421, [some (.ref 903), some (.ref 0), some (.ref 39), some (.int v)], [], W'', lg', sl')) rfl (fun _ => hk _ _ _ _ hok hI'') (fun h => absurd hy.symm h)
    · have e : F_leap a (Z.2 (v + (1 : Int32)).toNatClampNeg) (Z.2 (v + (2 : Int32)).toNatClampNeg) = (-1, a) := by unfold F_leap; rw [hs]; exact if_neg hgo
      refine l0_A hI (st_c rfl rfl rfl hf0 (Nat.le_of_ble_eq_true rfl)) rfl (Nat.le_of_ble_eq_true rfl) (fun _ => rfl) (fun rl im gs rc nx w t h => ec_leap_0 hA (fun c' h' => by rw [hs] at h'; cases h'; exact hgo) h) (fun W' hI' => ?_)
      obtain ⟨-, f1, hf1⟩ := LI_0 hI'
      have h9' := LI_9 hI'
      refine EV.seg (c' := (405, [some (.ref 903), some (.ref 0), some (.ref 39), some (.int v)], [.ref 39, .int (-1)], W', lg, sl)) 1 rfl trivial ?_
      refine EV.ld (k := 4) (i := v + (1 : Int32)) (pc' := 409) rfl rfl h9' h1 ?_
      refine EV.ld (k := 4) (i := v + (2 : Int32)) (pc' := 414) rfl rfl h9' h2 ?_
      show EV _ _ _ (415, [some (.ref 903), some (.ref 0), some (.ref 39), some (.int v)], [.int (Z.2 (v + (2 : Int32)).toNatClampNeg), .int (Z.2 (v + (1 : Int32)).toNatClampNeg), .ref 39, .int (-1)], W', lg, sl)
      refine lm (A := fun r => r = (F_leap a (Z.2 (v + (1 : Int32)).toNatClampNeg) (Z.2 (v + (2 : Int32)).toNatClampNeg)).1) (b' := (F_leap a (Z.2 (v + (1 : Int32)).toNatClampNeg) (Z.2 (v + (2 : Int32)).toNatClampNeg)).2) hI' (st_c rfl rfl rfl hf1 (Nat.le_of_ble_eq_true rfl)) rfl (Nat.le_of_ble_eq_true rfl) (fun _ => rfl) (fun w h => mc_leap hA h) (fun y W'' hy hI'' => ?_)
      have hok := F_leap_ok (x := (Z.2 (v + (1 : Int32)).toNatClampNeg)) (y := (Z.2 (v + (2 : Int32)).toNatClampNeg)) hA
      rw [e] at hI'' hok hy
      exact EV.br (c1 := (1187, [some (.ref 903), some (.ref 0), some (.ref 39), some (.int v)], [], W'', lg, sl)) (c2 := (421, [some (.ref 903), some (.ref 0), some (.ref 39), some (.int v)], [], W'', lg, sl)) rfl (fun _ => hk _ _ _ _ hok (hI''.up (by omega))) (fun h => absurd hy.symm h)
set_option maxRecDepth 100000 in
theorem op_stoop {v : Int32} (h1 : vp_in (v + (1 : Int32)) Z.1) (h2 : vp_in (v + (2 : Int32)) Z.1) (hA : AOk a) (hI : LI a a W lg sl n) (hk : ∀ a' W' lg' sl', AOk a' → LI a' a' W' lg' sl' (n + 1) → EV (ax_GG Z) m_L_law P (1187, [some (.ref 903), some (.ref 0), some (.ref 39), some (.int v)], [], W', lg', sl')) : EV (ax_GG Z) m_L_law P (423, [some (.ref 903), some (.ref 0), some (.ref 39), some (.int v)], [], W, lg, sl) := by
  obtain ⟨⟨f0, hf0⟩, -⟩ := LI_0 hI
  have h9 := LI_9 hI
  refine EV.seg (c' := (424, [some (.ref 903), some (.ref 0), some (.ref 39), some (.int v)], [.ref 0], W, lg, sl)) 1 rfl trivial ?_
  refine EV.ld (k := 4) (i := v + (1 : Int32)) (pc' := 428) rfl rfl h9 h1 ?_
  refine EV.ld (k := 4) (i := v + (2 : Int32)) (pc' := 433) rfl rfl h9 h2 ?_
  show EV _ _ _ (434, [some (.ref 903), some (.ref 0), some (.ref 39), some (.int v)], [.int (Z.2 (v + (2 : Int32)).toNatClampNeg), .int (Z.2 (v + (1 : Int32)).toNatClampNeg), .ref 0], W, lg, sl)
  cases hs : asC (l_k (a_l a)) (Z.2 (v + (1 : Int32)).toNatClampNeg) with
  | none =>
    have e : F_stoop a (Z.2 (v + (1 : Int32)).toNatClampNeg) (Z.2 (v + (2 : Int32)).toNatClampNeg) = (-1, a) := by unfold F_stoop; rw [hs]
    refine l0_A hI (st_c rfl rfl rfl hf0 (Nat.le_of_ble_eq_true rfl)) rfl (Nat.le_of_ble_eq_true rfl) (fun _ => rfl) (fun rl im gs rc nx w t h => ec_stoop_0 hA (fun c h' => by rw [hs] at h'; cases h') h) (fun W' hI' => ?_)
    obtain ⟨-, f1, hf1⟩ := LI_0 hI'
    have h9' := LI_9 hI'
    refine EV.seg (c' := (438, [some (.ref 903), some (.ref 0), some (.ref 39), some (.int v)], [.ref 39, .int (-1)], W', lg, sl)) 1 rfl trivial ?_
    refine EV.ld (k := 4) (i := v + (1 : Int32)) (pc' := 442) rfl rfl h9' h1 ?_
    refine EV.ld (k := 4) (i := v + (2 : Int32)) (pc' := 447) rfl rfl h9' h2 ?_
    show EV _ _ _ (448, [some (.ref 903), some (.ref 0), some (.ref 39), some (.int v)], [.int (Z.2 (v + (2 : Int32)).toNatClampNeg), .int (Z.2 (v + (1 : Int32)).toNatClampNeg), .ref 39, .int (-1)], W', lg, sl)
    refine lm (A := fun r => r = (F_stoop a (Z.2 (v + (1 : Int32)).toNatClampNeg) (Z.2 (v + (2 : Int32)).toNatClampNeg)).1) (b' := (F_stoop a (Z.2 (v + (1 : Int32)).toNatClampNeg) (Z.2 (v + (2 : Int32)).toNatClampNeg)).2) hI' (st_c rfl rfl rfl hf1 (Nat.le_of_ble_eq_true rfl)) rfl (Nat.le_of_ble_eq_true rfl) (fun _ => rfl) (fun w h => mc_stoop hA h) (fun y W'' hy hI'' => ?_)
    have hok := F_stoop_ok (x := (Z.2 (v + (1 : Int32)).toNatClampNeg)) (y := (Z.2 (v + (2 : Int32)).toNatClampNeg)) hA
    rw [e] at hI'' hok hy
    exact EV.br (c1 := (1187, [some (.ref 903), some (.ref 0), some (.ref 39), some (.int v)], [], W'', lg, sl)) (c2 := (454, [some (.ref 903), some (.ref 0), some (.ref 39), some (.int v)], [], W'', lg, sl)) rfl (fun _ => hk _ _ _ _ hok (hI''.up (by omega))) (fun h => absurd hy.symm h)
  | some c =>
    by_cases hgo : 1 ≤ (Z.2 (v + (2 : Int32)).toNatClampNeg).toInt ∧ (Z.2 (v + (2 : Int32)).toNatClampNeg).toInt ≤ 20 ∧ (Z.2 (v + (2 : Int32)).toNatClampNeg).toInt ≠ g_b (a_g a) c
    · obtain ⟨b, hb, hb2⟩ := int_nat (q := (Z.2 (v + (2 : Int32)).toNatClampNeg)) (by omega)
      have e : F_stoop a (Z.2 (v + (1 : Int32)).toNatClampNeg) (Z.2 (v + (2 : Int32)).toNatClampNeg) = (jn (g_b (a_g a) c : Int), act a (stG (a_g a) c b)) := by
        unfold F_stoop
        rw [hs]
        dsimp only
        rw [if_pos hgo, hb2, Int.toNat_natCast]
      refine la_A (x := jn (g_b (a_g a) c : Int)) (g := (stG (a_g a) c b)) hA hI (st_c rfl rfl rfl hf0 (Nat.le_of_ble_eq_true rfl)) rfl (Nat.le_of_ble_eq_true rfl) (fun _ => rfl) (fun rl im gs rc nx w h1 h2 h => by rw [hb]; exact ec_stoop_A hA hs ⟨by omega, by omega, by omega⟩ h1 h2 h) (fun rl im gs rc nx w _ _ _ _ _ h1 h2 h => by rw [hb]; exact ec_stoop_P hA hs ⟨by omega, by omega, by omega⟩ h1 h2 h) (fun W' lg' sl' hI' => ?_)
      obtain ⟨-, f1, hf1⟩ := LI_0 hI'
      have h9' := LI_9 hI'
      refine EV.seg (c' := (438, [some (.ref 903), some (.ref 0), some (.ref 39), some (.int v)], [.ref 39, .int (jn (g_b (a_g a) c : Int))], W', lg', sl')) 1 rfl trivial ?_
      refine EV.ld (k := 4) (i := v + (1 : Int32)) (pc' := 442) rfl rfl h9' h1 ?_
      refine EV.ld (k := 4) (i := v + (2 : Int32)) (pc' := 447) rfl rfl h9' h2 ?_
      show EV _ _ _ (448, [some (.ref 903), some (.ref 0), some (.ref 39), some (.int v)], [.int (Z.2 (v + (2 : Int32)).toNatClampNeg), .int (Z.2 (v + (1 : Int32)).toNatClampNeg), .ref 39, .int (jn (g_b (a_g a) c : Int))], W', lg', sl')
      refine lm (A := fun r => r = (F_stoop a (Z.2 (v + (1 : Int32)).toNatClampNeg) (Z.2 (v + (2 : Int32)).toNatClampNeg)).1) (b' := (F_stoop a (Z.2 (v + (1 : Int32)).toNatClampNeg) (Z.2 (v + (2 : Int32)).toNatClampNeg)).2) hI' (st_c rfl rfl rfl hf1 (Nat.le_of_ble_eq_true rfl)) rfl (Nat.le_of_ble_eq_true rfl) (fun _ => rfl) (fun w h => mc_stoop hA h) (fun y W'' hy hI'' => ?_)
      have hok := F_stoop_ok (x := (Z.2 (v + (1 : Int32)).toNatClampNeg)) (y := (Z.2 (v + (2 : Int32)).toNatClampNeg)) hA
      rw [e] at hI'' hok hy
      exact EV.br (c1 := (1187, [some (.ref 903), some (.ref 0), some (.ref 39), some (.int v)], [], W'', lg', sl')) (c2 := (454, [some (.ref 903), some (.ref 0), some (.ref 39), some (.int v)], [], W'', lg', sl')) rfl (fun _ => hk _ _ _ _ hok hI'') (fun h => absurd hy.symm h)
    · have e : F_stoop a (Z.2 (v + (1 : Int32)).toNatClampNeg) (Z.2 (v + (2 : Int32)).toNatClampNeg) = (-1, a) := by unfold F_stoop; rw [hs]; exact if_neg hgo
      refine l0_A hI (st_c rfl rfl rfl hf0 (Nat.le_of_ble_eq_true rfl)) rfl (Nat.le_of_ble_eq_true rfl) (fun _ => rfl) (fun rl im gs rc nx w t h => ec_stoop_0 hA (fun c' h' => by rw [hs] at h'; cases h'; exact hgo) h) (fun W' hI' => ?_)
      obtain ⟨-, f1, hf1⟩ := LI_0 hI'
      have h9' := LI_9 hI'
      refine EV.seg (c' := (438, [some (.ref 903), some (.ref 0), some (.ref 39), some (.int v)], [.ref 39, .int (-1)], W', lg, sl)) 1 rfl trivial ?_
      refine EV.ld (k := 4) (i := v + (1 : Int32)) (pc' := 442) rfl rfl h9' h1 ?_
      refine EV.ld (k := 4) (i := v + (2 : Int32)) (pc' := 447) rfl rfl h9' h2 ?_
      show EV _ _ _ (448, [some (.ref 903), some (.ref 0), some (.ref 39), some (.int v)], [.int (Z.2 (v + (2 : Int32)).toNatClampNeg), .int (Z.2 (v + (1 : Int32)).toNatClampNeg), .ref 39, .int (-1)], W', lg, sl)
      refine lm (A := fun r => r = (F_stoop a (Z.2 (v + (1 : Int32)).toNatClampNeg) (Z.2 (v + (2 : Int32)).toNatClampNeg)).1) (b' := (F_stoop a (Z.2 (v + (1 : Int32)).toNatClampNeg) (Z.2 (v + (2 : Int32)).toNatClampNeg)).2) hI' (st_c rfl rfl rfl hf1 (Nat.le_of_ble_eq_true rfl)) rfl (Nat.le_of_ble_eq_true rfl) (fun _ => rfl) (fun w h => mc_stoop hA h) (fun y W'' hy hI'' => ?_)
      have hok := F_stoop_ok (x := (Z.2 (v + (1 : Int32)).toNatClampNeg)) (y := (Z.2 (v + (2 : Int32)).toNatClampNeg)) hA
      rw [e] at hI'' hok hy
      exact EV.br (c1 := (1187, [some (.ref 903), some (.ref 0), some (.ref 39), some (.int v)], [], W'', lg, sl)) (c2 := (454, [some (.ref 903), some (.ref 0), some (.ref 39), some (.int v)], [], W'', lg, sl)) rfl (fun _ => hk _ _ _ _ hok (hI''.up (by omega))) (fun h => absurd hy.symm h)
set_option maxRecDepth 100000 in
theorem op_breath {v : Int32} (h1 : vp_in (v + (1 : Int32)) Z.1) (h2 : vp_in (v + (2 : Int32)) Z.1) (hA : AOk a) (hI : LI a a W lg sl n) (hk : ∀ a' W' lg' sl', AOk a' → LI a' a' W' lg' sl' (n + 1) → EV (ax_GG Z) m_L_law P (1187, [some (.ref 903), some (.ref 0), some (.ref 39), some (.int v)], [], W', lg', sl')) : EV (ax_GG Z) m_L_law P (456, [some (.ref 903), some (.ref 0), some (.ref 39), some (.int v)], [], W, lg, sl) := by
  obtain ⟨⟨f0, hf0⟩, -⟩ := LI_0 hI
  have h9 := LI_9 hI
  refine EV.seg (c' := (457, [some (.ref 903), some (.ref 0), some (.ref 39), some (.int v)], [.ref 0], W, lg, sl)) 1 rfl trivial ?_
  refine EV.ld (k := 4) (i := v + (1 : Int32)) (pc' := 461) rfl rfl h9 h1 ?_
  refine EV.ld (k := 4) (i := v + (2 : Int32)) (pc' := 466) rfl rfl h9 h2 ?_
  show EV _ _ _ (467, [some (.ref 903), some (.ref 0), some (.ref 39), some (.int v)], [.int (Z.2 (v + (2 : Int32)).toNatClampNeg), .int (Z.2 (v + (1 : Int32)).toNatClampNeg), .ref 0], W, lg, sl)
  cases hs : asC (l_k (a_l a)) (Z.2 (v + (1 : Int32)).toNatClampNeg) with
  | none =>
    have e : F_breath a (Z.2 (v + (1 : Int32)).toNatClampNeg) (Z.2 (v + (2 : Int32)).toNatClampNeg) = (-1, a) := by unfold F_breath; rw [hs]
    refine l0_A hI (st_c rfl rfl rfl hf0 (Nat.le_of_ble_eq_true rfl)) rfl (Nat.le_of_ble_eq_true rfl) (fun _ => rfl) (fun rl im gs rc nx w t h => ec_breath_0 hA (fun c h' => by rw [hs] at h'; cases h') h) (fun W' hI' => ?_)
    obtain ⟨-, f1, hf1⟩ := LI_0 hI'
    have h9' := LI_9 hI'
    refine EV.seg (c' := (471, [some (.ref 903), some (.ref 0), some (.ref 39), some (.int v)], [.ref 39, .int (-1)], W', lg, sl)) 1 rfl trivial ?_
    refine EV.ld (k := 4) (i := v + (1 : Int32)) (pc' := 475) rfl rfl h9' h1 ?_
    refine EV.ld (k := 4) (i := v + (2 : Int32)) (pc' := 480) rfl rfl h9' h2 ?_
    show EV _ _ _ (481, [some (.ref 903), some (.ref 0), some (.ref 39), some (.int v)], [.int (Z.2 (v + (2 : Int32)).toNatClampNeg), .int (Z.2 (v + (1 : Int32)).toNatClampNeg), .ref 39, .int (-1)], W', lg, sl)
    refine lm (A := fun r => r = (F_breath a (Z.2 (v + (1 : Int32)).toNatClampNeg) (Z.2 (v + (2 : Int32)).toNatClampNeg)).1) (b' := (F_breath a (Z.2 (v + (1 : Int32)).toNatClampNeg) (Z.2 (v + (2 : Int32)).toNatClampNeg)).2) hI' (st_c rfl rfl rfl hf1 (Nat.le_of_ble_eq_true rfl)) rfl (Nat.le_of_ble_eq_true rfl) (fun _ => rfl) (fun w h => mc_breath hA h) (fun y W'' hy hI'' => ?_)
    have hok := F_breath_ok (x := (Z.2 (v + (1 : Int32)).toNatClampNeg)) (y := (Z.2 (v + (2 : Int32)).toNatClampNeg)) hA
    rw [e] at hI'' hok hy
    exact EV.br (c1 := (1187, [some (.ref 903), some (.ref 0), some (.ref 39), some (.int v)], [], W'', lg, sl)) (c2 := (487, [some (.ref 903), some (.ref 0), some (.ref 39), some (.int v)], [], W'', lg, sl)) rfl (fun _ => hk _ _ _ _ hok (hI''.up (by omega))) (fun h => absurd hy.symm h)
  | some c =>
    by_cases hgo : 1 ≤ (Z.2 (v + (2 : Int32)).toNatClampNeg).toInt ∧ (Z.2 (v + (2 : Int32)).toNatClampNeg).toInt ≤ 9
    · obtain ⟨b, hb, hb2⟩ := int_nat (q := (Z.2 (v + (2 : Int32)).toNatClampNeg)) (by omega)
      have e : F_breath a (Z.2 (v + (1 : Int32)).toNatClampNeg) (Z.2 (v + (2 : Int32)).toNatClampNeg) = (jn ((min 60 (g_r (a_g a) c + b) : Nat) : Int), act a (gvB (a_g a) c b)) := by
        unfold F_breath
        rw [hs]
        dsimp only
        rw [if_pos hgo, hb2, Int.toNat_natCast]
      refine la_A (x := jn ((min 60 (g_r (a_g a) c + b) : Nat) : Int)) (g := (gvB (a_g a) c b)) hA hI (st_c rfl rfl rfl hf0 (Nat.le_of_ble_eq_true rfl)) rfl (Nat.le_of_ble_eq_true rfl) (fun _ => rfl) (fun rl im gs rc nx w h1 h2 h => by rw [hb]; exact ec_breath_A hA hs ⟨by omega, by omega⟩ h1 h2 h) (fun rl im gs rc nx w _ _ _ _ _ h1 h2 h => by rw [hb]; exact ec_breath_P hA hs ⟨by omega, by omega⟩ h1 h2 h) (fun W' lg' sl' hI' => ?_)
      obtain ⟨-, f1, hf1⟩ := LI_0 hI'
      have h9' := LI_9 hI'
      refine EV.seg (c' := (471, [some (.ref 903), some (.ref 0), some (.ref 39), some (.int v)], [.ref 39, .int (jn ((min 60 (g_r (a_g a) c + b) : Nat) : Int))], W', lg', sl')) 1 rfl trivial ?_
      refine EV.ld (k := 4) (i := v + (1 : Int32)) (pc' := 475) rfl rfl h9' h1 ?_
      refine EV.ld (k := 4) (i := v + (2 : Int32)) (pc' := 480) rfl rfl h9' h2 ?_
      show EV _ _ _ (481, [some (.ref 903), some (.ref 0), some (.ref 39), some (.int v)], [.int (Z.2 (v + (2 : Int32)).toNatClampNeg), .int (Z.2 (v + (1 : Int32)).toNatClampNeg), .ref 39, .int (jn ((min 60 (g_r (a_g a) c + b) : Nat) : Int))], W', lg', sl')
      refine lm (A := fun r => r = (F_breath a (Z.2 (v + (1 : Int32)).toNatClampNeg) (Z.2 (v + (2 : Int32)).toNatClampNeg)).1) (b' := (F_breath a (Z.2 (v + (1 : Int32)).toNatClampNeg) (Z.2 (v + (2 : Int32)).toNatClampNeg)).2) hI' (st_c rfl rfl rfl hf1 (Nat.le_of_ble_eq_true rfl)) rfl (Nat.le_of_ble_eq_true rfl) (fun _ => rfl) (fun w h => mc_breath hA h) (fun y W'' hy hI'' => ?_)
      have hok := F_breath_ok (x := (Z.2 (v + (1 : Int32)).toNatClampNeg)) (y := (Z.2 (v + (2 : Int32)).toNatClampNeg)) hA
      rw [e] at hI'' hok hy
      exact EV.br (c1 := (1187, [some (.ref 903), some (.ref 0), some (.ref 39), some (.int v)], [], W'', lg', sl')) (c2 := (487, [some (.ref 903), some (.ref 0), some (.ref 39), some (.int v)], [], W'', lg', sl')) rfl (fun _ => hk _ _ _ _ hok hI'') (fun h => absurd hy.symm h)
    · have e : F_breath a (Z.2 (v + (1 : Int32)).toNatClampNeg) (Z.2 (v + (2 : Int32)).toNatClampNeg) = (-1, a) := by unfold F_breath; rw [hs]; exact if_neg hgo
      refine l0_A hI (st_c rfl rfl rfl hf0 (Nat.le_of_ble_eq_true rfl)) rfl (Nat.le_of_ble_eq_true rfl) (fun _ => rfl) (fun rl im gs rc nx w t h => ec_breath_0 hA (fun c' h' => by rw [hs] at h'; cases h'; exact hgo) h) (fun W' hI' => ?_)
      obtain ⟨-, f1, hf1⟩ := LI_0 hI'
      have h9' := LI_9 hI'
      refine EV.seg (c' := (471, [some (.ref 903), some (.ref 0), some (.ref 39), some (.int v)], [.ref 39, .int (-1)], W', lg, sl)) 1 rfl trivial ?_
      refine EV.ld (k := 4) (i := v + (1 : Int32)) (pc' := 475) rfl rfl h9' h1 ?_
      refine EV.ld (k := 4) (i := v + (2 : Int32)) (pc' := 480) rfl rfl h9' h2 ?_
      show EV _ _ _ (481, [some (.ref 903), some (.ref 0), some (.ref 39), some (.int v)], [.int (Z.2 (v + (2 : Int32)).toNatClampNeg), .int (Z.2 (v + (1 : Int32)).toNatClampNeg), .ref 39, .int (-1)], W', lg, sl)
      refine lm (A := fun r => r = (F_breath a (Z.2 (v + (1 : Int32)).toNatClampNeg) (Z.2 (v + (2 : Int32)).toNatClampNeg)).1) (b' := (F_breath a (Z.2 (v + (1 : Int32)).toNatClampNeg) (Z.2 (v + (2 : Int32)).toNatClampNeg)).2) hI' (st_c rfl rfl rfl hf1 (Nat.le_of_ble_eq_true rfl)) rfl (Nat.le_of_ble_eq_true rfl) (fun _ => rfl) (fun w h => mc_breath hA h) (fun y W'' hy hI'' => ?_)
      have hok := F_breath_ok (x := (Z.2 (v + (1 : Int32)).toNatClampNeg)) (y := (Z.2 (v + (2 : Int32)).toNatClampNeg)) hA
      rw [e] at hI'' hok hy
      exact EV.br (c1 := (1187, [some (.ref 903), some (.ref 0), some (.ref 39), some (.int v)], [], W'', lg, sl)) (c2 := (487, [some (.ref 903), some (.ref 0), some (.ref 39), some (.int v)], [], W'', lg, sl)) rfl (fun _ => hk _ _ _ _ hok (hI''.up (by omega))) (fun h => absurd hy.symm h)
set_option maxRecDepth 100000 in
theorem op_front {v : Int32} (h1 : vp_in (v + (1 : Int32)) Z.1) (hA : AOk a) (hI : LI a a W lg sl n) (hk : ∀ a' W' lg' sl', AOk a' → LI a' a' W' lg' sl' (n + 1) → EV (ax_GG Z) m_L_law P (1187, [some (.ref 903), some (.ref 0), some (.ref 39), some (.int v)], [], W', lg', sl')) : EV (ax_GG Z) m_L_law P (489, [some (.ref 903), some (.ref 0), some (.ref 39), some (.int v)], [], W, lg, sl) := by
  obtain ⟨⟨f0, hf0⟩, -⟩ := LI_0 hI
  have h9 := LI_9 hI
  refine EV.seg (c' := (490, [some (.ref 903), some (.ref 0), some (.ref 39), some (.int v)], [.ref 0], W, lg, sl)) 1 rfl trivial ?_
  refine EV.ld (k := 4) (i := v + (1 : Int32)) (pc' := 494) rfl rfl h9 h1 ?_
  show EV _ _ _ (495, [some (.ref 903), some (.ref 0), some (.ref 39), some (.int v)], [.int (Z.2 (v + (1 : Int32)).toNatClampNeg), .ref 0], W, lg, sl)
  cases hs : asC (l_k (a_l a)) (Z.2 (v + (1 : Int32)).toNatClampNeg) with
  | none =>
    have e : F_front a (Z.2 (v + (1 : Int32)).toNatClampNeg) = (-1, a) := by unfold F_front; rw [hs]
    refine l0_A hI (st_c rfl rfl rfl hf0 (Nat.le_of_ble_eq_true rfl)) rfl (Nat.le_of_ble_eq_true rfl) (fun _ => rfl) (fun rl im gs rc nx w t h => ec_front_0 hA (fun c h' => by rw [hs] at h'; cases h') h) (fun W' hI' => ?_)
    obtain ⟨-, f1, hf1⟩ := LI_0 hI'
    have h9' := LI_9 hI'
    refine EV.seg (c' := (499, [some (.ref 903), some (.ref 0), some (.ref 39), some (.int v)], [.ref 39, .int (-1)], W', lg, sl)) 1 rfl trivial ?_
    refine EV.ld (k := 4) (i := v + (1 : Int32)) (pc' := 503) rfl rfl h9' h1 ?_
    show EV _ _ _ (504, [some (.ref 903), some (.ref 0), some (.ref 39), some (.int v)], [.int (Z.2 (v + (1 : Int32)).toNatClampNeg), .ref 39, .int (-1)], W', lg, sl)
    refine lm (A := fun r => r = (F_front a (Z.2 (v + (1 : Int32)).toNatClampNeg)).1) (b' := (F_front a (Z.2 (v + (1 : Int32)).toNatClampNeg)).2) hI' (st_c rfl rfl rfl hf1 (Nat.le_of_ble_eq_true rfl)) rfl (Nat.le_of_ble_eq_true rfl) (fun _ => rfl) (fun w h => mc_front hA h) (fun y W'' hy hI'' => ?_)
    have hok := F_front_ok (x := (Z.2 (v + (1 : Int32)).toNatClampNeg)) hA
    rw [e] at hI'' hok hy
    exact EV.br (c1 := (1187, [some (.ref 903), some (.ref 0), some (.ref 39), some (.int v)], [], W'', lg, sl)) (c2 := (510, [some (.ref 903), some (.ref 0), some (.ref 39), some (.int v)], [], W'', lg, sl)) rfl (fun _ => hk _ _ _ _ hok (hI''.up (by omega))) (fun h => absurd hy.symm h)
  | some c =>
    by_cases hgo : plc (a_l a) (a_g a) c ≠ 0
    · have e : F_front a (Z.2 (v + (1 : Int32)).toNatClampNeg) = (jn (plc (a_l a) (a_g a) c : Int), act a (frG (a_l a) (a_g a) c)) := by unfold F_front; rw [hs]; exact if_neg hgo
      refine la_A (x := jn (plc (a_l a) (a_g a) c : Int)) (g := (frG (a_l a) (a_g a) c)) hA hI (st_c rfl rfl rfl hf0 (Nat.le_of_ble_eq_true rfl)) rfl (Nat.le_of_ble_eq_true rfl) (fun _ => rfl) (fun rl im gs rc nx w h1 h2 h => ec_front_A hA hs hgo h1 h2 h) (fun rl im gs rc nx w _ _ _ _ _ h1 h2 h => ec_front_P hA hs hgo h1 h2 h) (fun W' lg' sl' hI' => ?_)
      obtain ⟨-, f1, hf1⟩ := LI_0 hI'
      have h9' := LI_9 hI'
      refine EV.seg (c' := (499, [some (.ref 903), some (.ref 0), some (.ref 39), some (.int v)], [.ref 39, .int (jn (plc (a_l a) (a_g a) c : Int))], W', lg', sl')) 1 rfl trivial ?_
      refine EV.ld (k := 4) (i := v + (1 : Int32)) (pc' := 503) rfl rfl h9' h1 ?_
      show EV _ _ _ (504, [some (.ref 903), some (.ref 0), some (.ref 39), some (.int v)], [.int (Z.2 (v + (1 : Int32)).toNatClampNeg), .ref 39, .int (jn (plc (a_l a) (a_g a) c : Int))], W', lg', sl')
      refine lm (A := fun r => r = (F_front a (Z.2 (v + (1 : Int32)).toNatClampNeg)).1) (b' := (F_front a (Z.2 (v + (1 : Int32)).toNatClampNeg)).2) hI' (st_c rfl rfl rfl hf1 (Nat.le_of_ble_eq_true rfl)) rfl (Nat.le_of_ble_eq_true rfl) (fun _ => rfl) (fun w h => mc_front hA h) (fun y W'' hy hI'' => ?_)
      have hok := F_front_ok (x := (Z.2 (v + (1 : Int32)).toNatClampNeg)) hA
      rw [e] at hI'' hok hy
      exact EV.br (c1 := (1187, [some (.ref 903), some (.ref 0), some (.ref 39), some (.int v)], [], W'', lg', sl')) (c2 := (510, [some (.ref 903), some (.ref 0), some (.ref 39), some (.int v)], [], W'', lg', sl')) rfl (fun _ => hk _ _ _ _ hok hI'') (fun h => absurd hy.symm h)
    · have e : F_front a (Z.2 (v + (1 : Int32)).toNatClampNeg) = (-1, a) := by unfold F_front; rw [hs]; exact if_pos (by omega)
      refine l0_A hI (st_c rfl rfl rfl hf0 (Nat.le_of_ble_eq_true rfl)) rfl (Nat.le_of_ble_eq_true rfl) (fun _ => rfl) (fun rl im gs rc nx w t h => ec_front_0 hA (fun c' h' => by rw [hs] at h'; cases h'; omega) h) (fun W' hI' => ?_)
      obtain ⟨-, f1, hf1⟩ := LI_0 hI'
      have h9' := LI_9 hI'
      refine EV.seg (c' := (499, [some (.ref 903), some (.ref 0), some (.ref 39), some (.int v)], [.ref 39, .int (-1)], W', lg, sl)) 1 rfl trivial ?_
      refine EV.ld (k := 4) (i := v + (1 : Int32)) (pc' := 503) rfl rfl h9' h1 ?_
      show EV _ _ _ (504, [some (.ref 903), some (.ref 0), some (.ref 39), some (.int v)], [.int (Z.2 (v + (1 : Int32)).toNatClampNeg), .ref 39, .int (-1)], W', lg, sl)
      refine lm (A := fun r => r = (F_front a (Z.2 (v + (1 : Int32)).toNatClampNeg)).1) (b' := (F_front a (Z.2 (v + (1 : Int32)).toNatClampNeg)).2) hI' (st_c rfl rfl rfl hf1 (Nat.le_of_ble_eq_true rfl)) rfl (Nat.le_of_ble_eq_true rfl) (fun _ => rfl) (fun w h => mc_front hA h) (fun y W'' hy hI'' => ?_)
      have hok := F_front_ok (x := (Z.2 (v + (1 : Int32)).toNatClampNeg)) hA
      rw [e] at hI'' hok hy
      exact EV.br (c1 := (1187, [some (.ref 903), some (.ref 0), some (.ref 39), some (.int v)], [], W'', lg, sl)) (c2 := (510, [some (.ref 903), some (.ref 0), some (.ref 39), some (.int v)], [], W'', lg, sl)) rfl (fun _ => hk _ _ _ _ hok (hI''.up (by omega))) (fun h => absurd hy.symm h)
set_option maxRecDepth 100000 in
theorem op_undo {v : Int32} (hA : AOk a) (hI : LI a a W lg sl n) (hk : ∀ a' W' lg' sl', AOk a' → LI a' a' W' lg' sl' (n + 1) → EV (ax_GG Z) m_L_law P (1187, [some (.ref 903), some (.ref 0), some (.ref 39), some (.int v)], [], W', lg', sl')) : EV (ax_GG Z) m_L_law P (512, [some (.ref 903), some (.ref 0), some (.ref 39), some (.int v)], [], W, lg, sl) := by
  obtain ⟨⟨f0, hf0⟩, -⟩ := LI_0 hI
  have h9 := LI_9 hI
  refine EV.seg (c' := (513, [some (.ref 903), some (.ref 0), some (.ref 39), some (.int v)], [.ref 0], W, lg, sl)) 1 rfl trivial ?_
  by_cases h0 : a_m a = 0
  · have e : F_undo a = (-1, a) := if_pos h0
    refine l0_U hI (st_c rfl rfl rfl hf0 (Nat.le_of_ble_eq_true rfl)) rfl (Nat.le_of_ble_eq_true rfl) (fun rl im gs rc nx w t h => ec_undo_0 hA h0 h) (fun W' hI' => ?_)
    obtain ⟨-, f1, hf1⟩ := LI_0 hI'
    have h9' := LI_9 hI'
    refine EV.seg (c' := (517, [some (.ref 903), some (.ref 0), some (.ref 39), some (.int v)], [.ref 39, .int (-1)], W', lg, sl)) 1 rfl trivial ?_
    refine lm (A := fun r => r = (F_undo a ).1) (b' := (F_undo a ).2) hI' (st_c rfl rfl rfl hf1 (Nat.le_of_ble_eq_true rfl)) rfl (Nat.le_of_ble_eq_true rfl) (fun _ => rfl) (fun w h => mc_undo hA h) (fun y W'' hy hI'' => ?_)
    have hok := F_undo_ok hA
    rw [e] at hI'' hok hy
    exact EV.br (c1 := (1187, [some (.ref 903), some (.ref 0), some (.ref 39), some (.int v)], [], W'', lg, sl)) (c2 := (523, [some (.ref 903), some (.ref 0), some (.ref 39), some (.int v)], [], W'', lg, sl)) rfl (fun _ => hk _ _ _ _ hok (hI''.up (by omega))) (fun h => absurd hy.symm h)
  · obtain ⟨p, hp⟩ : ∃ p, a_m a = p + 1 := ⟨a_m a - 1, by omega⟩
    have e : F_undo a = (jn (p : Int), setS (setP a (a_p a) p) (setG (a_s a) (a_p a p))) := by
      unfold F_undo
      rw [if_neg h0, show a_m a - 1 = p by omega]
    refine lu hp hI (st_c rfl rfl rfl hf0 (Nat.le_of_ble_eq_true rfl)) rfl (Nat.le_of_ble_eq_true rfl) hA (fun rl im gs rc nx w _ _ _ _ _ g h1 h2 h3 h => ec_undo_P hA h1 hp h2 h3 h) (fun W' hI' => ?_)
    obtain ⟨-, f1, hf1⟩ := LI_0 hI'
    have h9' := LI_9 hI'
    refine EV.seg (c' := (517, [some (.ref 903), some (.ref 0), some (.ref 39), some (.int v)], [.ref 39, .int (jn (p : Int))], W', lg, sl)) 1 rfl trivial ?_
    refine lm (A := fun r => r = (F_undo a ).1) (b' := (F_undo a ).2) hI' (st_c rfl rfl rfl hf1 (Nat.le_of_ble_eq_true rfl)) rfl (Nat.le_of_ble_eq_true rfl) (fun _ => rfl) (fun w h => mc_undo hA h) (fun y W'' hy hI'' => ?_)
    have hok := F_undo_ok hA
    rw [e] at hI'' hok hy
    exact EV.br (c1 := (1187, [some (.ref 903), some (.ref 0), some (.ref 39), some (.int v)], [], W'', lg, sl)) (c2 := (523, [some (.ref 903), some (.ref 0), some (.ref 39), some (.int v)], [], W'', lg, sl)) rfl (fun _ => hk _ _ _ _ hok (hI''.up (by omega))) (fun h => absurd hy.symm h)
end LOA
