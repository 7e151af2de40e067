/-! the law: its start -/
def gz00 : gS := (0, fun _ => 0, fun _ => 0, fun _ => 0, fun _ => 0)
def a00 : aS := ((fun _ => 0, 0), (fun _ => [], 0), ((0, 0, 0, fun _ => 0, fun _ => 0, fun _ => 0), gz00, (0, fun _ => 0, fun _ => 0), -1, 0), (fun _ => gz00, 0), fun _ => none)
theorem a00_ok : AOk a00 := by
  refine ⟨Nat.zero_le _, fun _ => ⟨by show (-128 : Int) ≤ 0; omega, by show (0 : Int) ≤ 127; omega⟩, Nat.zero_le _, fun i hi => absurd hi (Nat.not_lt_zero i), ⟨?_, ?_, ?_, ?_, ?_, ?_⟩, Nat.zero_le _, fun i hi => absurd hi (Nat.not_lt_zero i), fun k _ s h => by cases h⟩
  · exact ⟨Nat.zero_le _, Nat.zero_le _, Nat.zero_le _, fun h => absurd h (Nat.lt_irrefl 0), fun _ => Nat.zero_le _, fun _ => Nat.zero_le _, fun _ => Nat.zero_le _, fun _ => rfl⟩
  · exact ⟨⟨fun p h => absurd h (Nat.not_lt_zero p), fun p q h => absurd h (Nat.not_lt_zero p), fun c h => absurd h (Nat.not_lt_zero c)⟩, fun _ => Nat.zero_le _, fun _ => Nat.zero_le _, fun _ => Nat.zero_le _⟩
  · exact ⟨Nat.zero_le _, fun _ => Nat.zero_le _, fun _ => by show 0 < 8; omega⟩
  · show (-1 : Int) ≤ -1 ∧ (-1 : Int) < 0
    omega
  · show 0 < 2147483648
    omega
  · exact Nat.zero_le _
theorem nth_nn : ∀ {n k : Nat}, ax_nth (nn n) k = none
  | 0, _ => rfl
  | n + 1, 0 => rfl
  | n + 1, k + 1 => nth_nn (n := n) (k := k)
theorem tk_nn {n : Nat} : ∀ {m p : Nat}, tk (nn n) p m = nn m
  | 0, _ => rfl
  | m + 1, p => by
    show ax_nth (nn n) p :: tk (nn n) (p + 1) m = none :: nn m
    rw [nth_nn, tk_nn]
theorem RL_00 : RLs a00 = fun _ => none := funext fun i => if_neg (Nat.not_lt_zero i)
theorem IM_00 : IMs a00 = fun _ => none := funext fun k => if_neg (fun h => by cases h.2)
def lw_M0 : ax_W := w_M (fun _ => 0) 0 0 (fun _ => 0) (fun _ => 0) (fun _ => 0) (fun _ => 0) (fun _ => 0) 0 0 0 0 0 0 0 (fun _ => 0) 0 (fun _ => 0) 0 (fun _ => 0) (fun _ => 0) (-1) 0 (fun _ => 0) 0 (fun _ => 0) (fun _ => 0) (fun _ => 0) (fun _ => 0) 0 0 0 (fun _ => 0) (fun _ => 0) (fun _ => 0) (fun _ => 0) (fun _ => 0) 0 (fun _ => 0) (fun _ => 0) (fun _ => 0) (fun _ => 0)
def lw_W0 (t : ax_W) : ax_W := wL0 0 .null (fun _ => 0) 0 0 0 0 0 0 .null .null .null 0 0 0 0 0 (fun _ => 0) 0 (fun _ => 0) 0 0 0 (fun _ => none) 0 0 0 (fun _ => 0) (fun _ => 0) (fun _ => 0) 0 (fun _ => 0) (fun _ => 0) (fun _ => 0) (fun _ => 0) 0 (fun _ => 0) (fun _ => 0) (-1) 0 (fun _ => none) (fun _ => none) 0 0 (fun _ => 0) (fun _ => 0) 0 (fun _ => 0) (fun _ => 0) (fun _ => 0) (fun _ => 0) 0 0 0 (fun _ => 0) (fun _ => 0) (fun _ => 0) (fun _ => 0) (fun _ => 0) (fun _ => 0) t
theorem MR_00 : MR a00 lw_M0 := by
  refine ⟨(fun _ => 0), 0, 0, (fun _ => 0), (fun _ => 0), (fun _ => 0), (fun _ => 0), (fun _ => 0), 0, 0, 0, 0, 0, 0, 0, (fun _ => 0), 0, (fun _ => 0), 0, (fun _ => 0), (fun _ => 0), (-1), 0, (fun _ => 0), 0, (fun _ => 0), (fun _ => 0), (fun _ => 0), (fun _ => 0), 0, 0, 0, (fun _ => 0), (fun _ => 0), (fun _ => 0), (fun _ => 0), (fun _ => 0), 0, (fun _ => 0), (fun _ => 0), (fun _ => 0), (fun _ => 0), rfl, ⟨rfl, fun i hi => absurd hi (Nat.not_lt_zero i)⟩, rfl, fun i hi => absurd hi (Nat.not_lt_zero i), ⟨⟨rfl, rfl, rfl, fun i hi => absurd hi (Nat.not_lt_zero i), fun i hi => absurd hi (Nat.not_lt_zero i), fun i hi => absurd hi (Nat.not_lt_zero i)⟩, ⟨rfl, fun i hi => absurd hi (Nat.not_lt_zero i), fun i hi => absurd hi (Nat.not_lt_zero i), fun i hi => absurd hi (Nat.not_lt_zero i), fun i hi => absurd hi (Nat.not_lt_zero i)⟩, ⟨rfl, fun i hi => absurd hi (Nat.not_lt_zero i), fun i hi => absurd hi (Nat.not_lt_zero i)⟩⟩, rfl, rfl, ⟨rfl, fun i hi => absurd hi (Nat.not_lt_zero i)⟩, fun k _ => rfl⟩
theorem CR_00 {t : ax_W} : CRel a00 (RLs a00) (IMs a00) (fun _ => none) .null 0 (lw_W0 t) t := by
  rw [RL_00, IM_00]
  exact ⟨0, (fun _ => 0), 0, 0, 0, 0, 0, 0, .null, .null, .null, 0, 0, 0, 0, 0, (fun _ => 0), 0, (fun _ => 0), 0, 0, 0, 0, 0, 0, (fun _ => 0), (fun _ => 0), (fun _ => 0), 0, (fun _ => 0), (fun _ => 0), (fun _ => 0), (fun _ => 0), 0, (fun _ => 0), (fun _ => 0), (-1), 0, 0, (fun _ => 0), (fun _ => 0), 0, (fun _ => 0), (fun _ => 0), (fun _ => 0), (fun _ => 0), 0, 0, 0, (fun _ => 0), (fun _ => 0), (fun _ => 0), (fun _ => 0), (fun _ => 0), (fun _ => 0), rfl, ⟨rfl, fun i hi => absurd hi (Nat.not_lt_zero i)⟩, rfl, ⟨⟨rfl, rfl, rfl, fun i hi => absurd hi (Nat.not_lt_zero i), fun i hi => absurd hi (Nat.not_lt_zero i), fun i hi => absurd hi (Nat.not_lt_zero i)⟩, ⟨rfl, fun i hi => absurd hi (Nat.not_lt_zero i), fun i hi => absurd hi (Nat.not_lt_zero i), fun i hi => absurd hi (Nat.not_lt_zero i), fun i hi => absurd hi (Nat.not_lt_zero i)⟩, ⟨rfl, fun i hi => absurd hi (Nat.not_lt_zero i), fun i hi => absurd hi (Nat.not_lt_zero i)⟩, rfl, rfl⟩, rfl⟩
theorem TI_00 : TIn a00 (fun _ => none) .null 0 (nn 175) := by
  refine ⟨nn_len, tk_nn, fun i _ => ⟨fun h => absurd h (Nat.not_lt_zero i), fun _ => tk_nn⟩, Or.inl ⟨rfl, tk_nn⟩, fun k _ => ⟨fun _ => tk_nn, fun σ h => by cases h⟩, fun j _ => Or.inl ⟨rfl, tk_nn⟩, by omega, fun i hi => absurd hi (Nat.not_lt_zero i)⟩
theorem LI_00 : LI a00 a00 (lw_W0 (ax_uncut lw_m lw_M0 ++ nn 175)) (bl 0 64) 17388 0 := by
  refine ⟨lw_M0, nn 175, fun _ => none, .null, 0, CR_00, MR_00, TI_00, ⟨bl_nd, fun k hk => Or.inl ?_⟩, ?_, ?_⟩
  · have := mem_bl.mp hk
    omega
  · rw [bl_len]
    omega
  · show 17388 ≤ 1000000 + 500 * 0 + 0
    omega
set_option maxRecDepth 100000 in
set_option maxHeartbeats 4000000 in
theorem law_runs {Z : Nat × (Nat → Int32)} (hZ : Z.1 ≤ 3072) : EM (ax_GG Z) m_L_law [.ref 903] (nn 239) PL := by
  refine EV.seg (c' := (4, [some (.ref 903), none, none, none], [.ref 0, .ref 0], some (.inr (11, ax_df 11)) :: nn 238, [0], 15)) 2 rfl trivial ?_
  refine EV.callL (L := [0, 1, 2, 3, 4, 5, 6, 7, 8, 9, 10, 11, 12, 13, 14, 15, 16, 17, 18, 19, 20, 21, 22, 23, 24, 25, 26, 27, 28, 29, 30, 31, 32, 33, 34, 35, 36, 37, 38]) (vs := [.ref 0]) (w0 := some (.inr (11, ax_df 11)) :: nn 38) (j := 87) (pn := 7) (As := [.ref 0]) (r := [.ref 0]) (ls := [some (.ref 903), none, none, none]) (M' := m_X11_init) rfl rfl ⟨by decide +kernel, by decide +kernel⟩ rfl rfl em_X11_init (fun out ho => ?_)
  subst ho
  have e1 : EV (ax_GG Z) m_L_law PL (7, [some (.ref 903), none, none, none], [.ref 0], lw_W0 (nn 200), bl 0 39, 1637) := by
    refine EV.seg (c' := (12, [some (.ref 903), some (.ref 0), none, none], [.ref 39, .ref 39], lw_W0 (some (.inr (12, ax_df 12)) :: nn 199), bl 0 40, 1679)) 3 rfl trivial ?_
    refine EV.callL (L := [39, 40, 41, 42, 43, 44, 45, 46, 47, 48, 49, 50, 51, 52, 53, 54, 55, 56, 57, 58, 59, 60, 61, 62, 63]) (vs := [.ref 0]) (w0 := some (.inr (12, ax_df 12)) :: nn 24) (j := 142) (pn := 15) (As := [.ref 39]) (r := [.ref 39]) (ls := [some (.ref 903), some (.ref 0), none, none]) (M' := m_X12_init) rfl rfl ⟨by decide +kernel, by decide +kernel⟩ rfl rfl em_X12_init (fun out ho => ?_)
    subst ho
    have e2 : EV (ax_GG Z) m_L_law PL (15, [some (.ref 903), some (.ref 0), none, none], [.ref 39], lw_W0 (ax_uncut lw_m lw_M0 ++ nn 175), bl 0 64, 17388) := by
      refine EV.seg (c' := (18, [some (.ref 903), some (.ref 0), some (.ref 39), some (.int 0)], [], lw_W0 (ax_uncut lw_m lw_M0 ++ nn 175), bl 0 64, 17388)) 3 rfl trivial ?_
      exact law_loop hZ (Z.1 + 7) 0 a00 _ _ _ (by omega) (by omega) a00_ok LI_00
    exact e2
  exact e1
