/-! the reference reckons a rule -/
def mo (o : Nat) : Nat := ([0, 1, 4, 5, 14, 2, 3, 6, 7, 8, 9, 10, 11, 12, 13] : List Nat).getD o 0
def mt (t : Nat) : Nat := if t % 32 ≤ 1 then t % 32 + 16 * (t / 32) else mo t
theorem mt_mod {t : Nat} (h : t % 32 ≤ 1 ∨ t ≤ 14) : mt t % 16 = mo (t % 32) ∧ (t % 32 ≤ 1 → mt t / 16 = t / 32) ∧ (t < 3300000 → mt t < 2147483648) := by
  unfold mt
  by_cases e : t % 32 ≤ 1
  · rw [if_pos e]
    refine ⟨?_, fun _ => by omega, fun _ => by omega⟩
    have : t % 32 = 0 ∨ t % 32 = 1 := by omega
    rcases this with z | z <;> rw [z] <;> show _ = _ <;> simp [mo] <;> omega
  · rw [if_neg e]
    have : ∀ t : Fin 15, mo t.val % 16 = mo (t.val % 32) ∧ mo t.val < 16 := by decide +kernel
    have := this ⟨t, by omega⟩
    dsimp only at this
    exact ⟨this.1, fun z => absurd z e, fun _ => by omega⟩
section MW
variable {N : Nat} {w : Nat → Int64} {sg : Nat → Int32}
theorem wm_one {Q : Int64 → Prop} {o : Nat} {p0 : Int32} {x y : Int64} (ho : (2 ≤ o ∧ o ≤ 11) ∨ o = 13 ∨ o = 14) (hp : p0 = jn (mo o)) (h : Q (opv o x y)) : wp_X12_one N Q p0 x y := by
  subst hp
  have hm : mo o < 100 := by
    have : ∀ o : Fin 15, mo o.val < 100 := by decide +kernel
    exact this ⟨o, by omega⟩
  have e : ∀ m : Nat, m < 1000 → (jn (mo o : Int) = jn (m : Int)) = (mo o = m) := by
    intro m hm
    rw [jn_eq (by omega) (by omega)]
    exact propext ⟨fun z => by omega, fun z => by omega⟩
  unfold wp_X12_one wp_X12_one_167 wp_X12_one_155 wp_X12_one_143 wp_X12_one_131 wp_X12_one_119 wp_X12_one_107 wp_X12_one_93
  rw [show (jn (mo o : Int) = 2) = (mo o = 2) from e 2 (by omega), show (jn (mo o : Int) = 3) = (mo o = 3) from e 3 (by omega), show (jn (mo o : Int) = 4) = (mo o = 4) from e 4 (by omega), show (jn (mo o : Int) = 5) = (mo o = 5) from e 5 (by omega), show (jn (mo o : Int) = 6) = (mo o = 6) from e 6 (by omega), show (jn (mo o : Int) = 7) = (mo o = 7) from e 7 (by omega), show (jn (mo o : Int) = 8) = (mo o = 8) from e 8 (by omega), show (jn (mo o : Int) = 9) = (mo o = 9) from e 9 (by omega), show (jn (mo o : Int) = 10) = (mo o = 10) from e 10 (by omega), show (jn (mo o : Int) = 11) = (mo o = 11) from e 11 (by omega), show (jn (mo o : Int) = 12) = (mo o = 12) from e 12 (by omega), show (jn (mo o : Int) = 13) = (mo o = 13) from e 13 (by omega), show (jn (mo o : Int) = 14) = (mo o = 14) from e 14 (by omega)]
  have cases2 : ∀ (c : Prop) [Decidable c] (a b : Int64), Q (if c then a else b) → (c → Q a) ∧ (¬ c → Q b) := by
    intro c _ a b hq
    exact ⟨fun z => by rwa [if_pos z] at hq, fun z => by rwa [if_neg z] at hq⟩
  have ho : o = 2 ∨ o = 3 ∨ o = 4 ∨ o = 5 ∨ o = 6 ∨ o = 7 ∨ o = 8 ∨ o = 9 ∨ o = 10 ∨ o = 11 ∨ o = 13 ∨ o = 14 := by omega
  have dz : ∀ a : Int64, (lg_cmp y 0 = 0 → Q 0) ∧ (¬ lg_cmp y 0 = 0 → Q a) → (lg_cmp y 0 = 0 → Q 0) ∧ (¬ lg_cmp y 0 = 0 → ¬ y = 0 ∧ Q a) := by
    intro a t
    exact ⟨t.1, fun z => ⟨fun q => z (by rw [q]; rfl), t.2 z⟩⟩
  refine ⟨fun z => ?_, fun n2 => ⟨fun z => ?_, fun n3 => ⟨fun z => ?_, fun n4 => ⟨fun z => ?_, fun n5 => ⟨fun z => ?_, fun n6 => ⟨fun z => ?_, fun n7 => ⟨fun z => ?_, fun n8 => ⟨fun z => ?_, fun n9 => ⟨fun z => ?_, fun n10 => ⟨fun z => ?_, fun n11 => ⟨fun z => ?_, fun n12 => ⟨fun z => ?_, fun n13 => ⟨fun z => ?_, fun n14 => ?_⟩⟩⟩⟩⟩⟩⟩⟩⟩⟩⟩⟩⟩
  all_goals rcases ho with q | q | q | q | q | q | q | q | q | q | q | q <;> subst q
  all_goals first
    | exact absurd z (by decide)
    | exact h
    | exact dz _ (cases2 _ _ _ h)
    | exact cases2 _ _ _ h
    | exact absurd rfl n2
    | exact absurd rfl n3
    | exact absurd rfl n4
    | exact absurd rfl n5
    | exact absurd rfl n6
    | exact absurd rfl n7
    | exact absurd rfl n8
    | exact absurd rfl n9
    | exact absurd rfl n10
    | exact absurd rfl n12
    | exact absurd rfl n13
    | exact absurd rfl n14
theorem wm_push {Q : (Nat → Int64) → Int32 → Prop} {st : List Int64} {sk : Nat → Int64} {tp : Int32} {v : Int64} (hs : sR sk st) (ht : tp = jn st.length) (hl : st.length < 64) (h : ∀ sk', sR sk' (v :: st) → Q sk' (jn (v :: st).length)) : wp_X12_push N Q v sk tp := by
  subst ht
  unfold wp_X12_push
  refine ⟨by simp (disch := omega) only [jn_le, jn_lt, jn_eq, jn_in, jn_add, jn_sub, jn_mul, jn_neg, li_0, li_1, li_2, li_3, li_4, li_5, li_6, li_7, li_8, li_9, li_10, li_11, li_12, li_13, li_14, li_15, li_16, li_17, li_18, li_20, li_24, li_29, li_30, li_31, li_32, li_37, li_39, li_40, li_42, li_43, li_45, li_46, li_47, li_48, li_53, li_57, li_59, li_60, li_61, li_62, li_63, li_80, li_81, li_91, li_93, li_97, li_100, li_122, li_200, li_255, li_256, li_257, li_258, li_259, li_260, li_300, li_314, li_400, li_580, li_999, li_5040, li_9999, li_65536, li_99999, li_7654321] <;> omega, fun a ha => ?_⟩
  rw [show jn (st.length : Int) + (1 : Int32) = jn ((v :: st).length : Int) by rw [List.length_cons, li_1, jn_add]; rfl]
  exact h a (by rw [ha, jn_cln (by omega)]; exact sR_push hs)
theorem wm_pop {Q : Int64 → Int32 → Prop} {st : List Int64} {sk : Nat → Int64} {tp : Int32} {v : Int64} (hs : sR sk (v :: st)) (ht : tp = jn (v :: st).length) (hl : st.length < 64) (h : Q v (jn st.length)) : wp_X12_pop N sk Q tp := by
  subst ht
  unfold wp_X12_pop
  rw [show jn ((v :: st).length : Int) - (1 : Int32) = jn (st.length : Int) by rw [List.length_cons, li_1, jn_sub]; exact congrArg jn (by omega), jn_cln (by omega), (sR_top hs).1]
  exact ⟨by simp (disch := omega) only [jn_le, jn_lt, jn_eq, jn_in, jn_add, jn_sub, jn_mul, jn_neg, li_0, li_1, li_2, li_3, li_4, li_5, li_6, li_7, li_8, li_9, li_10, li_11, li_12, li_13, li_14, li_15, li_16, li_17, li_18, li_20, li_24, li_29, li_30, li_31, li_32, li_37, li_39, li_40, li_42, li_43, li_45, li_46, li_47, li_48, li_53, li_57, li_59, li_60, li_61, li_62, li_63, li_80, li_81, li_91, li_93, li_97, li_100, li_122, li_200, li_255, li_256, li_257, li_258, li_259, li_260, li_300, li_314, li_400, li_580, li_999, li_5040, li_9999, li_65536, li_99999, li_7654321] <;> omega, h⟩
theorem wm_evl {Q : Int64 → (Nat → Int64) → Int32 → Prop} {r e : Nat} (hr : r < 6) (he : e ≤ 400) : ∀ {l : List Nat} {ts ts' : List Bool} {st : List Int64} {i m : Nat} {sk : Nat → Int64}, (∀ (j v : Nat), l[j]? = some v → sg (400 * r + (i + j)) = jn (mt v)) → i + l.length ≤ e → tyr l ts = some ts' → ts.length ≤ 39 → vT ts st → sR sk st → (∀ sk', sR sk' (evl w l st) → wp_X12_reckons_8 N sg w Q m (jn r) (jn e) (jn ((i + l.length : Nat) : Int)) sk' (jn (evl w l st).length)) → wp_X12_reckons_8 N sg w Q (m + l.length) (jn r) (jn e) (jn i) sk (jn st.length)
  | [], ts, ts', st, i, m, sk, _, _, _, _, _, hs, h => h sk hs
  | t :: l, ts, ts', st, i, m, sk, hc, hi, hty, h39, hv, hs, h => by
    rw [tyr_cons] at hty
    cases q : tyt t ts with
    | none => rw [q] at hty; cases hty
    | some ts1 =>
      rw [q] at hty
      have hvl := vT_len hv
      have h0 := hc 0 t rfl
      rw [Nat.add_zero] at h0
      simp only [List.length_cons] at hi
      have ih := fun sk' hs' => wm_evl hr he (l := l) (ts := ts1) (ts' := ts') (st := ev1 w t st) (i := i + 1) (m := m) (sk := sk') (fun j v hj => by
        have := hc (j + 1) v hj
        rwa [show i + (j + 1) = i + 1 + j by omega] at this) (by omega) hty (tyt_len q h39) (ev1_ty q hv) hs' (fun pl2 hs2 => by
          have := h pl2 hs2
          rw [List.length_cons, show i + (l.length + 1) = i + 1 + l.length by omega] at this
          exact this)
      have hsm := tyt_small q
      have ht14 : t % 32 ≤ 1 ∨ t ≤ 14 := by
        by_cases z : t % 32 ≤ 1 ∨ t ≤ 14
        · exact z
        · unfold tyt at q
          rw [if_neg (by omega), if_neg (by omega), if_neg (by omega), if_neg (by omega), if_neg (by omega), if_neg (by omega)] at q; cases q
      obtain ⟨m1, m2, m3⟩ := mt_mod ht14
      have m3 := m3 hsm
      have hm15 : ∀ o : Fin 15, mo o.val < 16 ∧ (mo o.val = 0 ↔ o.val = 0) ∧ (mo o.val = 1 ↔ o.val = 1) ∧ (mo o.val = 11 ↔ o.val = 12) := by decide +kernel
      have hm15 := hm15 ⟨t % 32, by omega⟩
      dsimp only at hm15
      rw [List.length_cons, show m + (l.length + 1) = (m + l.length) + 1 by omega]
      unfold wp_X12_reckons_8 wp_X12_reckons_129
      rw [show (400 : Int32) * jn r + jn i = jn ((400 * r + i : Nat) : Int) from by (first | rfl | (simp (disch := omega) only [jn_add, jn_sub, jn_mul, jn_neg, li_0, li_1, li_2, li_3, li_4, li_5, li_6, li_7, li_8, li_9, li_10, li_11, li_12, li_13, li_14, li_15, li_16, li_17, li_18, li_20, li_24, li_29, li_30, li_31, li_32, li_37, li_39, li_40, li_42, li_43, li_45, li_46, li_47, li_48, li_53, li_57, li_59, li_60, li_61, li_62, li_63, li_80, li_81, li_91, li_93, li_97, li_100, li_122, li_200, li_255, li_256, li_257, li_258, li_259, li_260, li_300, li_314, li_400, li_580, li_999, li_5040, li_9999, li_65536, li_99999, li_7654321] <;> first | rfl | exact congrArg jn (by omega)) | exact congrArg jn (by omega)), jn_cln (by omega), h0, jn_le (by omega) (by omega)]
      have e1 : jn (i : Int) + 1 = jn ((i + 1 : Nat) : Int) := by (first | rfl | (simp (disch := omega) only [jn_add, jn_sub, jn_mul, jn_neg, li_0, li_1, li_2, li_3, li_4, li_5, li_6, li_7, li_8, li_9, li_10, li_11, li_12, li_13, li_14, li_15, li_16, li_17, li_18, li_20, li_24, li_29, li_30, li_31, li_32, li_37, li_39, li_40, li_42, li_43, li_45, li_46, li_47, li_48, li_53, li_57, li_59, li_60, li_61, li_62, li_63, li_80, li_81, li_91, li_93, li_97, li_100, li_122, li_200, li_255, li_256, li_257, li_258, li_259, li_260, li_300, li_314, li_400, li_580, li_999, li_5040, li_9999, li_65536, li_99999, li_7654321] <;> first | rfl | exact congrArg jn (by omega)) | exact congrArg jn (by omega))
      rw [e1]
      refine ⟨fun z => by omega, fun _ => ⟨by simp (disch := omega) only [jn_le, jn_lt, jn_eq, jn_in, jn_add, jn_sub, jn_mul, jn_neg, li_0, li_1, li_2, li_3, li_4, li_5, li_6, li_7, li_8, li_9, li_10, li_11, li_12, li_13, li_14, li_15, li_16, li_17, li_18, li_20, li_24, li_29, li_30, li_31, li_32, li_37, li_39, li_40, li_42, li_43, li_45, li_46, li_47, li_48, li_53, li_57, li_59, li_60, li_61, li_62, li_63, li_80, li_81, li_91, li_93, li_97, li_100, li_122, li_200, li_255, li_256, li_257, li_258, li_259, li_260, li_300, li_314, li_400, li_580, li_999, li_5040, li_9999, li_65536, li_99999, li_7654321] <;> omega, fun x3 hx3 => ⟨by simp (disch := omega) only [jn_le, jn_lt, jn_eq, jn_in, jn_add, jn_sub, jn_mul, jn_neg, li_0, li_1, li_2, li_3, li_4, li_5, li_6, li_7, li_8, li_9, li_10, li_11, li_12, li_13, li_14, li_15, li_16, li_17, li_18, li_20, li_24, li_29, li_30, li_31, li_32, li_37, li_39, li_40, li_42, li_43, li_45, li_46, li_47, li_48, li_53, li_57, li_59, li_60, li_61, li_62, li_63, li_80, li_81, li_91, li_93, li_97, li_100, li_122, li_200, li_255, li_256, li_257, li_258, li_259, li_260, li_300, li_314, li_400, li_580, li_999, li_5040, li_9999, li_65536, li_99999, li_7654321] <;> omega, fun x4 hx4 => ?_⟩⟩⟩
      rw [jn_m15, m1] at hx3
      rw [show (4 : Int32) = jn ((4 : Nat) : Int) from rfl, jn_shr m3 (by omega), show (2 ^ 4 : Nat) = 16 from rfl] at hx4
      subst hx3
      rw [li_0, li_1, show (11 : Int32) = jn ((11 : Nat) : Int) from rfl, jn_eq (by omega) (by omega), jn_eq (by omega) (by omega), jn_eq (by omega) (by omega)]
      have qq := q
      unfold tyt at q
      refine ⟨fun z => ?_, fun z0 => ⟨fun z => ?_, fun z1 => ⟨fun z => ?_, fun z11 => ?_⟩⟩⟩
      · have t0 : t % 32 = 0 := hm15.2.1.mp (by omega)
        rw [if_pos t0] at q
        split at q
        · rename_i y
          refine wm_push hs rfl (by omega) (fun sk' hs' => ?_)
          have ee : ev1 w t st = x4.toInt64 :: st := by
            unfold ev1
            rw [if_pos t0, hx4, m2 (by omega), jn_l (by omega)]
          have := ih sk' (by rw [ee]; exact hs')
          rw [ee] at this; exact this
        · cases q
      · have t1 : t % 32 = 1 := hm15.2.2.1.mp (by omega)
        rw [if_neg (by omega), if_pos t1] at q
        split at q
        · rename_i y
          rw [m2 (by omega)] at hx4
          refine ⟨by rw [hx4]; exact by simp (disch := omega) only [jn_le, jn_lt, jn_eq, jn_in, jn_add, jn_sub, jn_mul, jn_neg, li_0, li_1, li_2, li_3, li_4, li_5, li_6, li_7, li_8, li_9, li_10, li_11, li_12, li_13, li_14, li_15, li_16, li_17, li_18, li_20, li_24, li_29, li_30, li_31, li_32, li_37, li_39, li_40, li_42, li_43, li_45, li_46, li_47, li_48, li_53, li_57, li_59, li_60, li_61, li_62, li_63, li_80, li_81, li_91, li_93, li_97, li_100, li_122, li_200, li_255, li_256, li_257, li_258, li_259, li_260, li_300, li_314, li_400, li_580, li_999, li_5040, li_9999, li_65536, li_99999, li_7654321] <;> omega, wm_push hs rfl (by omega) (fun sk' hs' => ?_)⟩
          have ee : ev1 w t st = w x4.toNatClampNeg :: st := by
            unfold ev1
            rw [if_neg (by omega), if_pos t1, hx4, jn_cln (by omega)]
          have := ih sk' (by rw [ee]; exact hs')
          rw [ee] at this; exact this
        · cases q
      · have t12 : t % 32 = 12 := hm15.2.2.2.mp (by omega)
        have t12' : t = 12 := by omega
        rw [if_neg (by omega), if_neg (by omega), if_neg (by omega), if_neg (by omega), if_pos t12'] at q
        split at q
        · match st, hvl, hv, hs, ih with
          | x :: s, hvl, hv, hs, ih =>
            simp only [List.length_cons] at hvl h39
            refine wm_pop hs rfl (by omega) ?_
            refine wm_push (sR_top hs).2 rfl (by omega) (fun sk' hs' => ?_)
            have ee : ev1 w t (x :: s) = (1 - x) :: s := by
              unfold ev1
              rw [if_neg (by omega), if_neg (by omega), if_pos t12]
            have := ih sk' (by rw [ee]; exact hs')
            rw [ee] at this; exact this
        · cases q
      · have n0 : t % 32 ≠ 0 := fun y => z0 (by have := hm15.2.1.mpr y; omega)
        have n1 : t % 32 ≠ 1 := fun y => z1 (by have := hm15.2.2.1.mpr y; omega)
        have n12 : t % 32 ≠ 12 := fun y => z11 (by have := hm15.2.2.2.mpr y; omega)
        have h2 : 2 ≤ ts.length := by
          rw [if_neg n0, if_neg n1] at q
          by_cases e6 : t ≤ 6
          · rw [if_pos e6] at q
            split at q
            · simp only [List.length_cons]; omega
            · cases q
          · rw [if_neg e6] at q
            by_cases e11 : t ≤ 11
            · rw [if_pos e11] at q
              split at q
              · simp only [List.length_cons]; omega
              · cases q
            · by_cases e14 : t ≤ 14
              · rw [if_neg e11, if_neg (by omega), if_pos e14] at q
                split at q
                · simp only [List.length_cons]; omega
                · cases q
              · rw [if_neg e11, if_neg (by omega), if_neg e14] at q; cases q
        match st, hvl, hv, hs, ih with
        | [], hvl, _, _, _ => simp only [List.length_nil] at hvl; omega
        | [_], hvl, _, _, _ => simp only [List.length_cons, List.length_nil] at hvl; omega
        | y :: x :: s, hvl, hv, hs, ih =>
          simp only [List.length_cons] at hvl
          obtain ⟨-, hs1⟩ := sR_top hs
          obtain ⟨-, hs2⟩ := sR_top hs1
          refine wm_pop hs rfl (by simp only [List.length_cons]; omega) ?_
          refine wm_pop hs1 rfl (by omega) ?_
          refine wm_one (o := t % 32) (by omega) rfl ?_
          refine wm_push hs2 rfl (by omega) (fun sk' hs' => ?_)
          have ee : ev1 w t (y :: x :: s) = opv (t % 32) x y :: s := by
            unfold ev1
            rw [if_neg n0, if_neg n1, if_neg n12]
          have := ih sk' (by rw [ee]; exact hs')
          rw [ee] at this; exact this
end MW
