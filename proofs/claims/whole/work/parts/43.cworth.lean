/-! the class reckons a rule -/
def sR (pl : Nat → Int64) (st : List Int64) : Prop := ∀ (i : Nat) (v : Int64), st.reverse[i]? = some v → pl i = v
theorem sR_push {pl : Nat → Int64} {st : List Int64} {v : Int64} (h : sR pl st) : sR (vp_updL pl st.length v) (v :: st) := by
  intro i w hi
  rw [List.reverse_cons] at hi
  by_cases e : i = st.length
  · subst e
    rw [List.getElem?_append_right (by rw [List.length_reverse]; exact Nat.le_refl _), List.length_reverse, Nat.sub_self] at hi
    cases hi
    exact updL_at
  · rw [updL_ne e]
    by_cases e2 : i < st.length
    · rw [List.getElem?_append_left (by rw [List.length_reverse]; exact e2)] at hi; exact h i w hi
    · rw [List.getElem?_eq_none (by rw [List.length_append, List.length_reverse, List.length_singleton]; omega)] at hi; cases hi
theorem sR_top {pl : Nat → Int64} {st : List Int64} {v : Int64} (h : sR pl (v :: st)) : pl st.length = v ∧ sR pl st := by
  unfold sR at h
  rw [List.reverse_cons] at h
  refine ⟨h _ _ ?_, fun i w hi => ?_⟩
  · rw [List.getElem?_append_right (by rw [List.length_reverse]; exact Nat.le_refl _), List.length_reverse, Nat.sub_self]; rfl
  · have hl : i < st.reverse.length := by
      by_cases e : i < st.reverse.length
      · exact e
      · rw [List.getElem?_eq_none (by omega)] at hi; cases hi
    exact h i w (by rw [List.getElem?_append_left hl]; exact hi)
/-- what lies below stays -/
theorem ev1_base {w : Nat → Int64} {t : Nat} {ts ts' : List Bool} {st bs : List Int64} (h : tyt t ts = some ts') (hv : vT ts st) : ev1 w t (st ++ bs) = ev1 w t st ++ bs := by
  have hl := vT_len hv
  unfold tyt at h
  unfold ev1
  by_cases e0 : t % 32 = 0
  · rw [if_pos e0, if_pos e0]; rfl
  · rw [if_neg e0] at h
    rw [if_neg e0, if_neg e0]
    by_cases e1 : t % 32 = 1
    · rw [if_pos e1, if_pos e1]; rfl
    · rw [if_neg e1] at h
      rw [if_neg e1, if_neg e1]
      have two : ∀ s : List Int64, 2 ≤ s.length → (match s ++ bs with
          | y :: x :: r => opv (t % 32) x y :: r
          | _ => []) = (match s with
          | y :: x :: r => opv (t % 32) x y :: r
          | _ => []) ++ bs := by
        intro s h2
        match s, h2 with
        | y :: x :: r, _ => rfl
      by_cases e12 : t = 12
      · rw [if_pos (show t % 32 = 12 by omega), if_pos (show t % 32 = 12 by omega)]
        rw [if_neg (by omega), if_neg (by omega), if_pos e12] at h
        split at h
        · match st, hl with
          | x :: r, _ => rfl
        · cases h
      · by_cases e14 : t ≤ 14
        · rw [if_neg (show ¬ t % 32 = 12 by omega), if_neg (show ¬ t % 32 = 12 by omega)]
          refine two st ?_
          by_cases e6 : t ≤ 6
          · rw [if_pos e6] at h
            split at h
            · simp only [List.length_cons] at hl; omega
            · cases h
          · rw [if_neg e6] at h
            by_cases e11 : t ≤ 11
            · rw [if_pos e11] at h
              split at h
              · simp only [List.length_cons] at hl; omega
              · cases h
            · rw [if_neg e11, if_neg e12, if_pos e14] at h
              split at h
              · simp only [List.length_cons] at hl; omega
              · cases h
        · rw [if_neg (by omega), if_neg (by omega), if_neg e12, if_neg e14] at h; cases h
theorem tyt_len {t : Nat} {ts ts' : List Bool} (h : tyt t ts = some ts') (hl : ts.length ≤ 39) : ts'.length ≤ 39 := by
  unfold tyt at h
  split at h
  · split at h
    · cases h; simp only [List.length_cons]; omega
    · cases h
  · split at h
    · split at h
      · cases h; simp only [List.length_cons]; omega
      · cases h
    · split at h
      · split at h
        · cases h; simp only [List.length_cons] at hl ⊢; omega
        · cases h
      · split at h
        · split at h
          · cases h; simp only [List.length_cons] at hl ⊢; omega
          · cases h
        · split at h
          · split at h
            · cases h; simp only [List.length_cons] at hl ⊢; omega
            · cases h
          · split at h
            · split at h
              · cases h; simp only [List.length_cons] at hl ⊢; omega
              · cases h
            · cases h
section CW
variable {N len : Nat} {w : Nat → Int64} {code : Nat → Int32} {Q : Int64 → (Nat → Int64) → Prop}
theorem wl_worked {Q : Int64 → Prop} {o : Nat} {p0 : Int32} {x y : Int64} (ho : (2 ≤ o ∧ o ≤ 11) ∨ o = 13 ∨ o = 14) (hp : p0 = jn o) (h : Q (opv o x y)) : wp_X6_worked N Q p0 x y := by
  subst hp
  have e : ∀ m : Nat, m < 1000 → (jn (o : Int) = jn (m : Int)) = (o = m) := by
    intro m hm
    rw [jn_eq (by omega) (by omega)]
    exact propext ⟨fun z => by omega, fun z => by omega⟩
  unfold wp_X6_worked wp_X6_worked_175 wp_X6_worked_163 wp_X6_worked_151 wp_X6_worked_139 wp_X6_worked_127 wp_X6_worked_99 wp_X6_worked_85
  rw [show (jn (o : Int) = 2) = (o = 2) from e 2 (by omega), show (jn (o : Int) = 3) = (o = 3) from e 3 (by omega), show (jn (o : Int) = 4) = (o = 4) from e 4 (by omega), show (jn (o : Int) = 5) = (o = 5) from e 5 (by omega), show (jn (o : Int) = 6) = (o = 6) from e 6 (by omega), show (jn (o : Int) = 7) = (o = 7) from e 7 (by omega), show (jn (o : Int) = 8) = (o = 8) from e 8 (by omega), show (jn (o : Int) = 9) = (o = 9) from e 9 (by omega), show (jn (o : Int) = 10) = (o = 10) from e 10 (by omega), show (jn (o : Int) = 11) = (o = 11) from e 11 (by omega), show (jn (o : Int) = 12) = (o = 12) from e 12 (by omega), show (jn (o : Int) = 13) = (o = 13) from e 13 (by omega), show (jn (o : Int) = 14) = (o = 14) from e 14 (by omega)]
  have cases2 : ∀ (c : Prop) [Decidable c] (a b : Int64), Q (if c then a else b) → (c → Q a) ∧ (¬ c → Q b) := by
    intro c _ a b hq
    exact ⟨fun z => by rwa [if_pos z] at hq, fun z => by rwa [if_neg z] at hq⟩
  refine ⟨fun z => ?_, fun n2 => ⟨fun z => ?_, fun n3 => ⟨fun z => ?_, fun n4 => ⟨fun z => ?_, fun n5 => ⟨fun z => ?_, fun n6 => ⟨fun z => ?_, fun n7 => ⟨fun z => ?_, fun n8 => ⟨fun z => ?_, fun n9 => ⟨fun z => ?_, fun n10 => ⟨fun z => ?_, fun n11 => ⟨fun z => ?_, fun n12 => ⟨fun z => ?_, fun n13 => ⟨fun z => ?_, fun n14 => ?_⟩⟩⟩⟩⟩⟩⟩⟩⟩⟩⟩⟩⟩
  · subst z; exact h
  · subst z
    have := cases2 _ _ _ (show Q (if lg_cmp y 0 = 0 then 0 else x / y) from h)
    exact ⟨this.1, fun z => ⟨fun q => z (by rw [q]; rfl), this.2 z⟩⟩
  · subst z
    have := cases2 _ _ _ (show Q (if lg_cmp y 0 = 0 then 0 else x - x / y * y) from h)
    exact ⟨this.1, fun z => ⟨fun q => z (by rw [q]; rfl), this.2 z⟩⟩
  · subst z; exact h
  · subst z; exact h
  · subst z; exact cases2 _ _ _ h
  · subst z; exact cases2 _ _ _ h
  · subst z; exact cases2 _ _ _ h
  · subst z; exact cases2 _ _ _ h
  · subst z; exact cases2 _ _ _ h
  · omega
  · subst z; exact h
  · subst z; exact h
  · omega
theorem xor1 {x : Int64} (h : x = 0 ∨ x = 1) : x ^^^ (1 : Int64) = 1 - x := by
  rcases h with e | e <;> subst e <;> rfl
theorem wl_valueOf {Q : Int64 → Prop} {t : Nat} {p0 : Int32} (hp : p0 = jn t) (ht : t < 2147483648) (hb : t % 32 = 0 ∨ (t % 32 = 1 ∧ t / 32 < 10)) (h : Q (if t % 32 = 0 then jl (t / 32 : Nat) else w (t / 32))) : wp_X6_valueOf N w Q p0 := by
  subst hp
  unfold wp_X6_valueOf wp_X6_valueOf_30 wp_X6_valueOf_31
  intro x hx
  rw [show (5 : Int32) = jn ((5 : Nat) : Int) from rfl, jn_shr ht (by omega), show (2 ^ 5 : Nat) = 32 from rfl] at hx
  have hq : t / 32 ≤ t := Nat.div_le_self _ _
  rw [jn_m31, li_0, jn_eq (by omega) (by omega)]
  refine ⟨fun z => ?_, fun z => ?_⟩
  · rw [if_pos (by omega)] at h
    rw [hx, jn_l (by omega)]; exact h
  · rw [if_neg (by omega)] at h
    have hb : t / 32 < 10 := by omega
    rw [hx, jn_lt (by omega) (by omega), show (Int32.ofNat 10) = jn (10 : Nat) from rfl, jn_le (by omega) (by omega), jn_cln (by omega)]
    refine ⟨fun y => by omega, fun y => ⟨fun x => by omega, fun x => ⟨by simp (disch := omega) only [jn_le, jn_lt, jn_eq, jn_in, jn_add, jn_sub, jn_mul, jn_neg, li_0, li_1, li_2, li_3, li_4, li_5, li_6, li_7, li_8, li_9, li_10, li_11, li_12, li_13, li_14, li_15, li_16, li_17, li_18, li_20, li_24, li_29, li_30, li_31, li_32, li_37, li_39, li_40, li_42, li_43, li_45, li_46, li_47, li_48, li_53, li_57, li_59, li_60, li_61, li_62, li_63, li_80, li_81, li_91, li_93, li_97, li_100, li_122, li_200, li_255, li_256, li_257, li_258, li_259, li_260, li_300, li_314, li_400, li_580, li_999, li_5040, li_9999, li_65536, li_99999, li_7654321] <;> omega, h⟩⟩⟩
/-- a row of signs is reckoned -/
theorem wl_evl {bs : List Int64} (hbs : bs.length ≤ 1) (hlen : len ≤ 400) : ∀ {l : List Nat} {ts ts' : List Bool} {st : List Int64} {i m : Nat} {pl : Nat → Int64}, (∀ (j v : Nat), l[j]? = some v → code (i + j) = jn v ∧ v < 2147483648) → i + l.length ≤ len → tyr l ts = some ts' → ts.length ≤ 39 → vT ts st → sR pl (st ++ bs) → (∀ pl', sR pl' (evl w l st ++ bs) → wp_X6_worth_5 N code w len Q m (jn (evl w l st ++ bs).length) (jn ((i + l.length : Nat) : Int)) pl') → wp_X6_worth_5 N code w len Q (m + l.length) (jn (st ++ bs).length) (jn i) pl
  | [], ts, ts', st, i, m, pl, _, _, _, _, _, hs, h => h pl hs
  | t :: l, ts, ts', st, i, m, pl, hc, hi, hty, h39, hv, hs, h => by
    rw [tyr_cons] at hty
    cases q : tyt t ts with
    | none => rw [q] at hty; cases hty
    | some ts1 =>
      rw [q] at hty
      have hvl := vT_len hv
      have h0 := hc 0 t rfl
      rw [Nat.add_zero] at h0
      simp only [List.length_cons] at hi
      have ih := fun pl' hs' => wl_evl hbs hlen (l := l) (ts := ts1) (ts' := ts') (st := ev1 w t st) (i := i + 1) (m := m) (pl := pl') (fun j v hj => by
        have := hc (j + 1) v hj
        rwa [show i + (j + 1) = i + 1 + j by omega] at this) (by omega) hty (tyt_len q h39) (ev1_ty q hv) hs' (fun pl2 hs2 => by
          have := h pl2 hs2
          rw [List.length_cons, show i + (l.length + 1) = i + 1 + l.length by omega] at this
          exact this)
      rw [List.length_cons, show m + (l.length + 1) = (m + l.length) + 1 by omega]
      unfold wp_X6_worth_5
      rw [show (Int32.ofNat len) = jn (len : Nat) by rw [← Int32.ofInt_eq_ofNat]; rfl, jn_le (by omega) (by omega), jn_cln (by omega), h0.1]
      refine ⟨fun z => by omega, fun _ => ⟨by simp (disch := omega) only [jn_le, jn_lt, jn_eq, jn_in, jn_add, jn_sub, jn_mul, jn_neg, li_0, li_1, li_2, li_3, li_4, li_5, li_6, li_7, li_8, li_9, li_10, li_11, li_12, li_13, li_14, li_15, li_16, li_17, li_18, li_20, li_24, li_29, li_30, li_31, li_32, li_37, li_39, li_40, li_42, li_43, li_45, li_46, li_47, li_48, li_53, li_57, li_59, li_60, li_61, li_62, li_63, li_80, li_81, li_91, li_93, li_97, li_100, li_122, li_200, li_255, li_256, li_257, li_258, li_259, li_260, li_300, li_314, li_400, li_580, li_999, li_5040, li_9999, li_65536, li_99999, li_7654321] <;> omega, fun x hx => ?_⟩⟩
      rw [jn_m31] at hx
      subst hx
      have hmod : t % 32 < 32 := Nat.mod_lt _ (by omega)
      rw [li_0, li_1, show (16 : Int32) = jn ((16 : Nat) : Int) from rfl, show (17 : Int32) = jn ((17 : Nat) : Int) from rfl, jn_eq (by omega) (by omega), jn_eq (by omega) (by omega), jn_eq (by omega) (by omega), jn_eq (by omega) (by omega)]
      have qq := q
      unfold tyt at q
      have push : (t % 32 = 0 ∨ (t % 32 = 1 ∧ t / 32 < 10)) → ts.length < 39 → wp_X6_worth_38 N code w len (wp_X6_worth_151 N code w len (wp_X6_worth_5 N code w len Q (m + l.length)) Q) Q (jn (st ++ bs).length) (jn i) pl := by
        intro hb hl39
        unfold wp_X6_worth_38 wp_X6_worth_151
        have hsl : (st ++ bs).length < 40 := by rw [List.length_append]; omega
        rw [show (Int32.ofNat 40) = jn (40 : Nat) from rfl, jn_le (by omega) (by omega), show code (jn (i : Int)).toNatClampNeg = jn t by rw [jn_cln (by omega)]; exact h0.1]
        refine ⟨fun z => by omega, fun _ => ⟨by simp (disch := omega) only [jn_le, jn_lt, jn_eq, jn_in, jn_add, jn_sub, jn_mul, jn_neg, li_0, li_1, li_2, li_3, li_4, li_5, li_6, li_7, li_8, li_9, li_10, li_11, li_12, li_13, li_14, li_15, li_16, li_17, li_18, li_20, li_24, li_29, li_30, li_31, li_32, li_37, li_39, li_40, li_42, li_43, li_45, li_46, li_47, li_48, li_53, li_57, li_59, li_60, li_61, li_62, li_63, li_80, li_81, li_91, li_93, li_97, li_100, li_122, li_200, li_255, li_256, li_257, li_258, li_259, li_260, li_300, li_314, li_400, li_580, li_999, li_5040, li_9999, li_65536, li_99999, li_7654321] <;> omega, wl_valueOf rfl h0.2 hb ⟨by simp (disch := omega) only [jn_le, jn_lt, jn_eq, jn_in, jn_add, jn_sub, jn_mul, jn_neg, li_0, li_1, li_2, li_3, li_4, li_5, li_6, li_7, li_8, li_9, li_10, li_11, li_12, li_13, li_14, li_15, li_16, li_17, li_18, li_20, li_24, li_29, li_30, li_31, li_32, li_37, li_39, li_40, li_42, li_43, li_45, li_46, li_47, li_48, li_53, li_57, li_59, li_60, li_61, li_62, li_63, li_80, li_81, li_91, li_93, li_97, li_100, li_122, li_200, li_255, li_256, li_257, li_258, li_259, li_260, li_300, li_314, li_400, li_580, li_999, li_5040, li_9999, li_65536, li_99999, li_7654321] <;> omega, fun a ha => ?_⟩⟩⟩
        have e : ev1 w t st ++ bs = (if t % 32 = 0 then jl (t / 32 : Nat) else w (t / 32)) :: (st ++ bs) := by
          unfold ev1
          by_cases e0 : t % 32 = 0
          · rw [if_pos e0, if_pos e0]; rfl
          · rw [if_neg e0, if_neg e0, if_pos (by omega)]; rfl
        have := ih a (by rw [e, ha, jn_cln (by omega)]; exact sR_push hs)
        rw [e, List.length_cons] at this
        rw [show jn ((st ++ bs).length : Int) + 1 = jn (((st ++ bs).length + 1 : Nat) : Int) from by (first | rfl | (simp (disch := omega) only [jn_add, jn_sub, jn_mul, jn_neg, li_0, li_1, li_2, li_3, li_4, li_5, li_6, li_7, li_8, li_9, li_10, li_11, li_12, li_13, li_14, li_15, li_16, li_17, li_18, li_20, li_24, li_29, li_30, li_31, li_32, li_37, li_39, li_40, li_42, li_43, li_45, li_46, li_47, li_48, li_53, li_57, li_59, li_60, li_61, li_62, li_63, li_80, li_81, li_91, li_93, li_97, li_100, li_122, li_200, li_255, li_256, li_257, li_258, li_259, li_260, li_300, li_314, li_400, li_580, li_999, li_5040, li_9999, li_65536, li_99999, li_7654321] <;> first | rfl | exact congrArg jn (by omega)) | exact congrArg jn (by omega)), show jn (i : Int) + 1 = jn ((i + 1 : Nat) : Int) from by (first | rfl | (simp (disch := omega) only [jn_add, jn_sub, jn_mul, jn_neg, li_0, li_1, li_2, li_3, li_4, li_5, li_6, li_7, li_8, li_9, li_10, li_11, li_12, li_13, li_14, li_15, li_16, li_17, li_18, li_20, li_24, li_29, li_30, li_31, li_32, li_37, li_39, li_40, li_42, li_43, li_45, li_46, li_47, li_48, li_53, li_57, li_59, li_60, li_61, li_62, li_63, li_80, li_81, li_91, li_93, li_97, li_100, li_122, li_200, li_255, li_256, li_257, li_258, li_259, li_260, li_300, li_314, li_400, li_580, li_999, li_5040, li_9999, li_65536, li_99999, li_7654321] <;> first | rfl | exact congrArg jn (by omega)) | exact congrArg jn (by omega))]
        exact this
      have two : ∀ (x y : Int64) (r : List Int64), st = y :: x :: r → ((2 ≤ t % 32 ∧ t % 32 ≤ 11) ∨ t % 32 = 13 ∨ t % 32 = 14) → ts.length ≤ 39 → wp_X6_worth_125 N code w len (wp_X6_worth_151 N code w len (wp_X6_worth_5 N code w len Q (m + l.length)) Q) Q (jn (st ++ bs).length) (jn i) (jn ((t % 32 : Nat) : Int)) pl := by
        intro x y r e ho h39
        unfold wp_X6_worth_125 wp_X6_worth_151
        subst e
        simp only [List.length_cons] at hvl
        have hsl : (r ++ bs).length < 39 := by rw [List.length_append]; omega
        obtain ⟨t1, hs1⟩ := sR_top hs
        obtain ⟨t2, hs2⟩ := sR_top hs1
        have el : (y :: x :: r ++ bs).length = (r ++ bs).length + 2 := rfl
        have e1 : (jn ((y :: x :: r ++ bs).length : Int) + (-1)) = jn (((r ++ bs).length + 1 : Nat) : Int) := by rw [el, li_1, jn_neg, jn_add]; exact congrArg jn (by omega)
        have e2 : (jn (((r ++ bs).length + 1 : Nat) : Int) - (1 : Int32)) = jn ((r ++ bs).length : Int) := by rw [li_1, jn_sub]; exact congrArg jn (by omega)
        rw [e1, e2, jn_cln (by omega), jn_cln (by omega)]
        refine ⟨fun z => ?_, fun _ => ⟨by simp (disch := omega) only [jn_le, jn_lt, jn_eq, jn_in, jn_add, jn_sub, jn_mul, jn_neg, li_0, li_1, li_2, li_3, li_4, li_5, li_6, li_7, li_8, li_9, li_10, li_11, li_12, li_13, li_14, li_15, li_16, li_17, li_18, li_20, li_24, li_29, li_30, li_31, li_32, li_37, li_39, li_40, li_42, li_43, li_45, li_46, li_47, li_48, li_53, li_57, li_59, li_60, li_61, li_62, li_63, li_80, li_81, li_91, li_93, li_97, li_100, li_122, li_200, li_255, li_256, li_257, li_258, li_259, li_260, li_300, li_314, li_400, li_580, li_999, li_5040, li_9999, li_65536, li_99999, li_7654321] <;> omega, by simp (disch := omega) only [jn_le, jn_lt, jn_eq, jn_in, jn_add, jn_sub, jn_mul, jn_neg, li_0, li_1, li_2, li_3, li_4, li_5, li_6, li_7, li_8, li_9, li_10, li_11, li_12, li_13, li_14, li_15, li_16, li_17, li_18, li_20, li_24, li_29, li_30, li_31, li_32, li_37, li_39, li_40, li_42, li_43, li_45, li_46, li_47, li_48, li_53, li_57, li_59, li_60, li_61, li_62, li_63, li_80, li_81, li_91, li_93, li_97, li_100, li_122, li_200, li_255, li_256, li_257, li_258, li_259, li_260, li_300, li_314, li_400, li_580, li_999, li_5040, li_9999, li_65536, li_99999, li_7654321] <;> omega, ?_⟩⟩
        · rw [el, li_1, jn_le (by omega) (by omega)] at z; omega
        · rw [show pl (r ++ bs).length = x from t2, show pl ((r ++ bs).length + 1) = y from t1]
          refine wl_worked ho rfl ⟨by simp (disch := omega) only [jn_le, jn_lt, jn_eq, jn_in, jn_add, jn_sub, jn_mul, jn_neg, li_0, li_1, li_2, li_3, li_4, li_5, li_6, li_7, li_8, li_9, li_10, li_11, li_12, li_13, li_14, li_15, li_16, li_17, li_18, li_20, li_24, li_29, li_30, li_31, li_32, li_37, li_39, li_40, li_42, li_43, li_45, li_46, li_47, li_48, li_53, li_57, li_59, li_60, li_61, li_62, li_63, li_80, li_81, li_91, li_93, li_97, li_100, li_122, li_200, li_255, li_256, li_257, li_258, li_259, li_260, li_300, li_314, li_400, li_580, li_999, li_5040, li_9999, li_65536, li_99999, li_7654321] <;> omega, fun a ha => ?_⟩
          have e : ev1 w t (y :: x :: r) ++ bs = opv (t % 32) x y :: (r ++ bs) := by
            unfold ev1
            rw [if_neg (by omega), if_neg (by omega), if_neg (by omega)]; rfl
          have := ih a (by rw [e, ha]; exact sR_push hs2)
          rw [e, List.length_cons] at this
          rw [show jn (i : Int) + 1 = jn ((i + 1 : Nat) : Int) from by (first | rfl | (simp (disch := omega) only [jn_add, jn_sub, jn_mul, jn_neg, li_0, li_1, li_2, li_3, li_4, li_5, li_6, li_7, li_8, li_9, li_10, li_11, li_12, li_13, li_14, li_15, li_16, li_17, li_18, li_20, li_24, li_29, li_30, li_31, li_32, li_37, li_39, li_40, li_42, li_43, li_45, li_46, li_47, li_48, li_53, li_57, li_59, li_60, li_61, li_62, li_63, li_80, li_81, li_91, li_93, li_97, li_100, li_122, li_200, li_255, li_256, li_257, li_258, li_259, li_260, li_300, li_314, li_400, li_580, li_999, li_5040, li_9999, li_65536, li_99999, li_7654321] <;> first | rfl | exact congrArg jn (by omega)) | exact congrArg jn (by omega))]
          exact this
      refine ⟨fun z => ?_, fun z0 => ⟨fun z => ?_, fun z1 => ⟨fun z => ?_, fun z16 => ⟨fun z => ?_, fun z17 => ?_⟩⟩⟩⟩
      · rw [if_pos (by omega)] at q
        split at q
        · rename_i y; exact push (Or.inl (by omega)) y.1
        · cases q
      · rw [if_neg (by omega), if_pos (by omega)] at q
        split at q
        · rename_i y; exact push (Or.inr ⟨by omega, y.2⟩) y.1
        · cases q
      · rw [if_neg (by omega), if_neg (by omega), if_neg (by omega), if_neg (by omega), if_neg (by omega), if_neg (by omega)] at q; cases q
      · rw [if_neg (by omega), if_neg (by omega), if_neg (by omega), if_neg (by omega), if_neg (by omega), if_neg (by omega)] at q; cases q
      · rw [if_neg (by omega), if_neg (by omega)] at q
        have tlen : ∀ (a b : Bool) (r : List Bool), ts = a :: b :: r → (∃ x y s, st = y :: x :: s) := by
          intro a b r e
          match st, hvl with
          | y :: x :: s, _ => exact ⟨x, y, s, rfl⟩
          | [y], hvl => rw [e] at hvl; simp at hvl
          | [], hvl => rw [e] at hvl; simp at hvl
        unfold wp_X6_worth_90
        rw [show (17 : Int32) = jn ((17 : Nat) : Int) from rfl, show (12 : Int32) = jn ((12 : Nat) : Int) from rfl, jn_eq (by omega) (by omega), jn_eq (by omega) (by omega)]
        refine ⟨fun z => absurd z z17, fun _ => ⟨fun z => ?_, fun z => ?_⟩⟩
        · by_cases e14 : t ≤ 14
          case neg => rw [if_neg (by omega), if_neg (by omega), if_neg (by omega), if_neg e14] at q; cases q
          rw [if_neg (by omega), if_neg (by omega), if_pos (by omega)] at q
          split at q
          · rename_i r
            cases q
            match st, hvl, hv, hs, ih with
            | x :: s, hvl, hv, hs, ih =>
              obtain ⟨t1, hs1⟩ := sR_top hs
              simp only [List.length_cons] at hvl h39
              have hsl : (s ++ bs).length < 40 := by rw [List.length_append]; omega
              have el : (x :: s ++ bs).length = (s ++ bs).length + 1 := rfl
              have e2 : (jn ((x :: s ++ bs).length : Int) - (1 : Int32)) = jn ((s ++ bs).length : Int) := by rw [el, li_1, jn_sub]; exact congrArg jn (by omega)
              refine ⟨fun y => ?_, fun y => ?_⟩
              · rw [el, li_0, jn_le (by omega) (by omega)] at y; omega
              · rw [e2, jn_cln (by omega), show pl (s ++ bs).length = x from t1]
                refine ⟨by simp (disch := omega) only [jn_le, jn_lt, jn_eq, jn_in, jn_add, jn_sub, jn_mul, jn_neg, li_0, li_1, li_2, li_3, li_4, li_5, li_6, li_7, li_8, li_9, li_10, li_11, li_12, li_13, li_14, li_15, li_16, li_17, li_18, li_20, li_24, li_29, li_30, li_31, li_32, li_37, li_39, li_40, li_42, li_43, li_45, li_46, li_47, li_48, li_53, li_57, li_59, li_60, li_61, li_62, li_63, li_80, li_81, li_91, li_93, li_97, li_100, li_122, li_200, li_255, li_256, li_257, li_258, li_259, li_260, li_300, li_314, li_400, li_580, li_999, li_5040, li_9999, li_65536, li_99999, li_7654321] <;> omega, by simp (disch := omega) only [jn_le, jn_lt, jn_eq, jn_in, jn_add, jn_sub, jn_mul, jn_neg, li_0, li_1, li_2, li_3, li_4, li_5, li_6, li_7, li_8, li_9, li_10, li_11, li_12, li_13, li_14, li_15, li_16, li_17, li_18, li_20, li_24, li_29, li_30, li_31, li_32, li_37, li_39, li_40, li_42, li_43, li_45, li_46, li_47, li_48, li_53, li_57, li_59, li_60, li_61, li_62, li_63, li_80, li_81, li_91, li_93, li_97, li_100, li_122, li_200, li_255, li_256, li_257, li_258, li_259, li_260, li_300, li_314, li_400, li_580, li_999, li_5040, li_9999, li_65536, li_99999, li_7654321] <;> omega, fun a ha => ?_⟩
                have e : ev1 w t (x :: s) ++ bs = (1 - x) :: (s ++ bs) := by
                  unfold ev1
                  rw [if_neg (by omega), if_neg (by omega), if_pos (by omega)]; rfl
                unfold wp_X6_worth_151
                have := ih a (by rw [e, ha, xor1 (hv.1 rfl)]; exact sR_push hs1)
                rw [e] at this
                rw [show jn (i : Int) + 1 = jn ((i + 1 : Nat) : Int) from by (first | rfl | (simp (disch := omega) only [jn_add, jn_sub, jn_mul, jn_neg, li_0, li_1, li_2, li_3, li_4, li_5, li_6, li_7, li_8, li_9, li_10, li_11, li_12, li_13, li_14, li_15, li_16, li_17, li_18, li_20, li_24, li_29, li_30, li_31, li_32, li_37, li_39, li_40, li_42, li_43, li_45, li_46, li_47, li_48, li_53, li_57, li_59, li_60, li_61, li_62, li_63, li_80, li_81, li_91, li_93, li_97, li_100, li_122, li_200, li_255, li_256, li_257, li_258, li_259, li_260, li_300, li_314, li_400, li_580, li_999, li_5040, li_9999, li_65536, li_99999, li_7654321] <;> first | rfl | exact congrArg jn (by omega)) | exact congrArg jn (by omega))]
                exact this
          · cases q
        · by_cases e6 : t ≤ 6
          · rw [if_pos e6] at q
            split at q
            · obtain ⟨x, y, s, e⟩ := tlen _ _ _ rfl
              exact two x y s e (by omega) h39
            · cases q
          · rw [if_neg e6] at q
            by_cases e11 : t ≤ 11
            · rw [if_pos e11] at q
              split at q
              · obtain ⟨x, y, s, e⟩ := tlen _ _ _ rfl
                exact two x y s e (by omega) h39
              · cases q
            · by_cases e14 : t ≤ 14
              · rw [if_neg e11, if_neg (by omega), if_pos e14] at q
                split at q
                · obtain ⟨x, y, s, e⟩ := tlen _ _ _ rfl
                  exact two x y s e (by omega) h39
                · cases q
              · rw [if_neg e11, if_neg (by omega), if_neg e14] at q; cases q
end CW
