/-! copies, begin, marks, notes -/
theorem cpy_at {f g : Nat → Int32} {n c : Nat} (h : c < n) : va_cpy f g 0 0 n c = f c := by
  unfold va_cpy
  rw [if_pos (by omega)]
  congr 1; omega
theorem wl_takeG {N : Nat} {ht : Int32} {ho hb hr hl : Nat → Int32} {Q : Int32 → (Nat → Int32) → (Nat → Int32) → (Nat → Int32) → (Nat → Int32) → Prop} {gt : Int32} {go gb gr gl : Nat → Int32} (h : ∀ o b r l, (∀ c, c < 7 → o c = ho c) → (∀ c, c < 7 → b c = hb c) → (∀ c, c < 7 → r c = hr c) → (∀ c, c < 7 → l c = hl c) → Q ht o b r l) : wp_X0_takeFrom N ht ho hb hr hl Q gt go gb gr gl := by
  unfold wp_X0_takeFrom
  refine ⟨by decide, fun o e1 => ⟨by decide, fun b e2 => ⟨by decide, fun r e3 => ⟨by decide, fun l e4 => ?_⟩⟩⟩⟩
  refine h o b r l ?_ ?_ ?_ ?_
  · intro c hc; rw [e1]; exact cpy_at hc
  · intro c hc; rw [e2]; exact cpy_at hc
  · intro c hc; rw [e3]; exact cpy_at hc
  · intro c hc; rw [e4]; exact cpy_at hc
theorem wl_takeL {N : Nat} {kt ks km : Int32} {kb kl kr : Nat → Int32} {Q : Int32 → Int32 → Int32 → (Nat → Int32) → (Nat → Int32) → (Nat → Int32) → Prop} {lt ls lm : Int32} {lb ll lr : Nat → Int32} (h0 : kt = 0 ∨ kt = 1) (h : ∀ b l r, (∀ c, c < 7 → b c = kb c) → (∀ c, c < 7 → l c = kl c) → (∀ c, c < 7 → r c = kr c) → Q kt ks km b l r) : wp_X1_takeFrom N kt ks km kb kl kr Q lt ls lm lb ll lr := by
  unfold wp_X1_takeFrom
  refine ⟨h0, by decide, fun b e1 => ⟨by decide, fun l e2 => ⟨by decide, fun r e3 => ?_⟩⟩⟩
  refine h b l r ?_ ?_ ?_
  · intro c hc; rw [e1]; exact cpy_at hc
  · intro c hc; rw [e2]; exact cpy_at hc
  · intro c hc; rw [e3]; exact cpy_at hc
theorem wl_takeN {N : Nat} {mm : Int32} {mt mc : Nat → Int32} {Q : Int32 → (Nat → Int32) → (Nat → Int32) → Prop} {nm : Int32} {nt nc : Nat → Int32} (h : ∀ t c, (∀ i, i < 10 → t i = mt i) → (∀ i, i < 10 → c i = mc i) → Q mm t c) : wp_X3_takeFrom N mm mt mc Q nm nt nc := by
  unfold wp_X3_takeFrom
  refine ⟨by decide, fun t e1 => ⟨by decide, fun c e2 => ?_⟩⟩
  refine h t c ?_ ?_
  · intro i hi; rw [e1]; exact cpy_at hi
  · intro i hi; rw [e2]; exact cpy_at hi
theorem wl_begin {N : Nat} {lb lr : Nat → Int32} {Q : Int32 → (Nat → Int32) → (Nat → Int32) → (Nat → Int32) → (Nat → Int32) → Prop} {gt : Int32} {go gb gr gl : Nat → Int32} (hN : 10 ≤ N) (h : ∀ o b r l, (∀ c : Nat, c < 7 → o c = jn c) → (∀ c, c < 7 → b c = lb c) → (∀ c, c < 7 → r c = lr c) → (∀ c, c < 7 → l c = 0) → Q 0 o b r l) : wp_X0_begin N lb lr Q gt go gb gr gl := by
  have key : ∀ (n i : Nat) (v : Int32) (o b r l : Nat → Int32), v = jn i → i ≤ 7 → (∀ c : Nat, c < i → o c = jn c) → (∀ c, c < i → b c = lb c) → (∀ c, c < i → r c = lr c) → (∀ c, c < i → l c = 0) → 7 < n + i → wp_X0_begin_7 N lb lr Q n v 0 o b r l := by
    intro n
    induction n with
    | zero => intro i v o b r l _ h1 _ _ _ _ h2; omega
    | succ n ih =>
      intro i v o b r l hv h1 ho hb hr hl h2
      unfold wp_X0_begin_7
      subst hv
      refine ⟨fun hc => ?_, fun hc => ?_⟩
      · simp (disch := omega) only [jn_le, jn_lt, jn_eq, jn_in, jn_add, jn_sub, jn_mul, jn_neg, li_0, li_1, li_2, li_3, li_4, li_5, li_6, li_7, li_8, li_9, li_10, li_11, li_12, li_13, li_14, li_15, li_16, li_17, li_18, li_20, li_24, li_29, li_30, li_31, li_32, li_37, li_39, li_40, li_42, li_43, li_45, li_46, li_47, li_48, li_53, li_57, li_59, li_60, li_61, li_62, li_63, li_80, li_81, li_91, li_93, li_97, li_100, li_122, li_200, li_255, li_256, li_257, li_258, li_259, li_260, li_300, li_314, li_400, li_580, li_999, li_5040, li_9999, li_65536, li_99999, li_7654321] at hc
        exact h o b r l (fun c q => ho c (by omega)) (fun c q => hb c (by omega)) (fun c q => hr c (by omega)) (fun c q => hl c (by omega))
      · simp (disch := omega) only [jn_le, jn_lt, jn_eq, jn_in, jn_add, jn_sub, jn_mul, jn_neg, li_0, li_1, li_2, li_3, li_4, li_5, li_6, li_7, li_8, li_9, li_10, li_11, li_12, li_13, li_14, li_15, li_16, li_17, li_18, li_20, li_24, li_29, li_30, li_31, li_32, li_37, li_39, li_40, li_42, li_43, li_45, li_46, li_47, li_48, li_53, li_57, li_59, li_60, li_61, li_62, li_63, li_80, li_81, li_91, li_93, li_97, li_100, li_122, li_200, li_255, li_256, li_257, li_258, li_259, li_260, li_300, li_314, li_400, li_580, li_999, li_5040, li_9999, li_65536, li_99999, li_7654321] at hc
        rw [jn_cln (by omega)]
        refine ⟨by simp (disch := omega) only [jn_le, jn_lt, jn_eq, jn_in, jn_add, jn_sub, jn_mul, jn_neg, li_0, li_1, li_2, li_3, li_4, li_5, li_6, li_7, li_8, li_9, li_10, li_11, li_12, li_13, li_14, li_15, li_16, li_17, li_18, li_20, li_24, li_29, li_30, li_31, li_32, li_37, li_39, li_40, li_42, li_43, li_45, li_46, li_47, li_48, li_53, li_57, li_59, li_60, li_61, li_62, li_63, li_80, li_81, li_91, li_93, li_97, li_100, li_122, li_200, li_255, li_256, li_257, li_258, li_259, li_260, li_300, li_314, li_400, li_580, li_999, li_5040, li_9999, li_65536, li_99999, li_7654321] <;> omega, fun a1 e1 => ⟨by simp (disch := omega) only [jn_le, jn_lt, jn_eq, jn_in, jn_add, jn_sub, jn_mul, jn_neg, li_0, li_1, li_2, li_3, li_4, li_5, li_6, li_7, li_8, li_9, li_10, li_11, li_12, li_13, li_14, li_15, li_16, li_17, li_18, li_20, li_24, li_29, li_30, li_31, li_32, li_37, li_39, li_40, li_42, li_43, li_45, li_46, li_47, li_48, li_53, li_57, li_59, li_60, li_61, li_62, li_63, li_80, li_81, li_91, li_93, li_97, li_100, li_122, li_200, li_255, li_256, li_257, li_258, li_259, li_260, li_300, li_314, li_400, li_580, li_999, li_5040, li_9999, li_65536, li_99999, li_7654321] <;> omega, by simp (disch := omega) only [jn_le, jn_lt, jn_eq, jn_in, jn_add, jn_sub, jn_mul, jn_neg, li_0, li_1, li_2, li_3, li_4, li_5, li_6, li_7, li_8, li_9, li_10, li_11, li_12, li_13, li_14, li_15, li_16, li_17, li_18, li_20, li_24, li_29, li_30, li_31, li_32, li_37, li_39, li_40, li_42, li_43, li_45, li_46, li_47, li_48, li_53, li_57, li_59, li_60, li_61, li_62, li_63, li_80, li_81, li_91, li_93, li_97, li_100, li_122, li_200, li_255, li_256, li_257, li_258, li_259, li_260, li_300, li_314, li_400, li_580, li_999, li_5040, li_9999, li_65536, li_99999, li_7654321] <;> omega, fun a2 e2 => ⟨by simp (disch := omega) only [jn_le, jn_lt, jn_eq, jn_in, jn_add, jn_sub, jn_mul, jn_neg, li_0, li_1, li_2, li_3, li_4, li_5, li_6, li_7, li_8, li_9, li_10, li_11, li_12, li_13, li_14, li_15, li_16, li_17, li_18, li_20, li_24, li_29, li_30, li_31, li_32, li_37, li_39, li_40, li_42, li_43, li_45, li_46, li_47, li_48, li_53, li_57, li_59, li_60, li_61, li_62, li_63, li_80, li_81, li_91, li_93, li_97, li_100, li_122, li_200, li_255, li_256, li_257, li_258, li_259, li_260, li_300, li_314, li_400, li_580, li_999, li_5040, li_9999, li_65536, li_99999, li_7654321] <;> omega, by simp (disch := omega) only [jn_le, jn_lt, jn_eq, jn_in, jn_add, jn_sub, jn_mul, jn_neg, li_0, li_1, li_2, li_3, li_4, li_5, li_6, li_7, li_8, li_9, li_10, li_11, li_12, li_13, li_14, li_15, li_16, li_17, li_18, li_20, li_24, li_29, li_30, li_31, li_32, li_37, li_39, li_40, li_42, li_43, li_45, li_46, li_47, li_48, li_53, li_57, li_59, li_60, li_61, li_62, li_63, li_80, li_81, li_91, li_93, li_97, li_100, li_122, li_200, li_255, li_256, li_257, li_258, li_259, li_260, li_300, li_314, li_400, li_580, li_999, li_5040, li_9999, li_65536, li_99999, li_7654321] <;> omega, fun a3 e3 => ⟨by simp (disch := omega) only [jn_le, jn_lt, jn_eq, jn_in, jn_add, jn_sub, jn_mul, jn_neg, li_0, li_1, li_2, li_3, li_4, li_5, li_6, li_7, li_8, li_9, li_10, li_11, li_12, li_13, li_14, li_15, li_16, li_17, li_18, li_20, li_24, li_29, li_30, li_31, li_32, li_37, li_39, li_40, li_42, li_43, li_45, li_46, li_47, li_48, li_53, li_57, li_59, li_60, li_61, li_62, li_63, li_80, li_81, li_91, li_93, li_97, li_100, li_122, li_200, li_255, li_256, li_257, li_258, li_259, li_260, li_300, li_314, li_400, li_580, li_999, li_5040, li_9999, li_65536, li_99999, li_7654321] <;> omega, fun a4 e4 => ?_⟩⟩⟩⟩
        refine ih (i + 1) _ a1 a2 a3 a4 (by (first | rfl | (simp (disch := omega) only [jn_add, jn_sub, jn_mul, jn_neg, li_0, li_1, li_2, li_3, li_4, li_5, li_6, li_7, li_8, li_9, li_10, li_11, li_12, li_13, li_14, li_15, li_16, li_17, li_18, li_20, li_24, li_29, li_30, li_31, li_32, li_37, li_39, li_40, li_42, li_43, li_45, li_46, li_47, li_48, li_53, li_57, li_59, li_60, li_61, li_62, li_63, li_80, li_81, li_91, li_93, li_97, li_100, li_122, li_200, li_255, li_256, li_257, li_258, li_259, li_260, li_300, li_314, li_400, li_580, li_999, li_5040, li_9999, li_65536, li_99999, li_7654321] <;> first | rfl | exact congrArg jn (by omega)) | exact congrArg jn (by omega))) (by omega) ?_ ?_ ?_ ?_ (by omega)
        · intro c q
          by_cases e : c = i
          · rw [e1, e, upd_at]
          · rw [e1, upd_ne e]; exact ho c (by omega)
        · intro c q
          by_cases e : c = i
          · rw [e2, e, upd_at]
          · rw [e2, upd_ne e]; exact hb c (by omega)
        · intro c q
          by_cases e : c = i
          · rw [e3, e, upd_at]
          · rw [e3, upd_ne e]; exact hr c (by omega)
        · intro c q
          by_cases e : c = i
          · rw [e4, e, upd_at]
          · rw [e4, upd_ne e]; exact hl c (by omega)
  unfold wp_X0_begin
  exact key N 0 _ _ _ _ _ rfl (by omega) (fun c q => absurd q (by omega)) (fun c q => absurd q (by omega)) (fun c q => absurd q (by omega)) (fun c q => absurd q (by omega)) (by omega)
/-- the mark of an order and of who has how much breath -/
def mrk (O BR : Nat → Nat) : Nat → Nat
  | 0 => 0
  | n + 1 => mrk O BR n * 512 + O n * 64 + BR n
theorem mrk_lt {O BR : Nat → Nat} {k : Nat} (hO : ∀ p, p < k → O p < 8) (hR : ∀ c, BR c ≤ 60) : ∀ {n : Nat}, n ≤ k → mrk O BR n < 512 ^ n
  | 0, _ => by simp [mrk]
  | n + 1, h => by
    have h1 := mrk_lt hO hR (n := n) (by omega)
    have h2 := hO n (by omega)
    have h3 := hR n
    rw [Nat.pow_succ]; unfold mrk; omega
theorem jl_nat (a : Nat) : jl (a : Int) = ⟨⟨BitVec.ofNat 64 a⟩⟩ := by
  show Int64.ofInt a = _
  rw [Int64.ofInt_eq_ofNat]; rfl
theorem jl_or (a b : Nat) : jl (a : Int) ||| jl (b : Int) = jl ((a ||| b : Nat) : Int) := by
  rw [jl_nat, jl_nat, jl_nat, BitVec.ofNat_or]; rfl
theorem jl_shl9 (a : Nat) : jl (a : Int) <<< ((9 : Int32).toInt64 &&& 63) = jl ((a * 512 : Nat) : Int) := by
  rw [jl_nat, jl_nat, show ((9 : Int32).toInt64 &&& 63) = 9 from rfl]
  show (⟨⟨BitVec.ofNat 64 a <<< ((9#64).smod 64)⟩⟩ : Int64) = _
  rw [show ((9#64).smod 64) = 9#64 by decide]
  congr 2
  refine BitVec.eq_of_toNat_eq ?_
  rw [BitVec.shiftLeft_eq', BitVec.toNat_shiftLeft, BitVec.toNat_ofNat, BitVec.toNat_ofNat, BitVec.toNat_ofNat, show 9 % 2 ^ 64 = 9 from rfl, Nat.shiftLeft_eq]
  omega
theorem jl_shl6 (a : Nat) : jl (a : Int) <<< ((6 : Int32).toInt64 &&& 63) = jl ((a * 64 : Nat) : Int) := by
  rw [jl_nat, jl_nat, show ((6 : Int32).toInt64 &&& 63) = 6 from rfl]
  show (⟨⟨BitVec.ofNat 64 a <<< ((6#64).smod 64)⟩⟩ : Int64) = _
  rw [show ((6#64).smod 64) = 6#64 by decide]
  congr 2
  refine BitVec.eq_of_toNat_eq ?_
  rw [BitVec.shiftLeft_eq', BitVec.toNat_shiftLeft, BitVec.toNat_ofNat, BitVec.toNat_ofNat, BitVec.toNat_ofNat, show 6 % 2 ^ 64 = 6 from rfl, Nat.shiftLeft_eq]
  omega
theorem or_add {a b i : Nat} (h : b < 2 ^ i) : (a * 2 ^ i ||| b) = a * 2 ^ i + b := by
  have := Nat.shiftLeft_add_eq_or_of_lt h a
  rw [Nat.shiftLeft_eq] at this
  exact this.symm
theorem wl_mark {N k : Nat} {od br : Nat → Int32} {O BR : Nat → Nat} {Q : Int64 → Prop} (hk : k ≤ 7) (hN : 10 ≤ N) (hO : ar k od O) (hR : ar k br BR) (hP : Pm k O) (bR : ∀ c, BR c ≤ 60) (h : Q (jl (mrk O BR k))) : wp_X0_mark N od br (jn k) Q := by
  have key : ∀ (n i : Nat) (s : Int64) (v : Int32), v = jn i → s = jl (mrk O BR i) → i ≤ k → k < n + i → wp_X0_mark_5 N od br (jn k) Q n s v := by
    intro n
    induction n with
    | zero => intro i s v _ _ h1 h2; omega
    | succ n ih =>
      intro i s v hv hs h1 h2
      unfold wp_X0_mark_5
      subst hv hs
      refine ⟨fun hc => ?_, fun hc => ?_⟩
      · simp (disch := omega) only [jn_le, jn_lt, jn_eq, jn_in, jn_add, jn_sub, jn_mul, jn_neg, li_0, li_1, li_2, li_3, li_4, li_5, li_6, li_7, li_8, li_9, li_10, li_11, li_12, li_13, li_14, li_15, li_16, li_17, li_18, li_20, li_24, li_29, li_30, li_31, li_32, li_37, li_39, li_40, li_42, li_43, li_45, li_46, li_47, li_48, li_53, li_57, li_59, li_60, li_61, li_62, li_63, li_80, li_81, li_91, li_93, li_97, li_100, li_122, li_200, li_255, li_256, li_257, li_258, li_259, li_260, li_300, li_314, li_400, li_580, li_999, li_5040, li_9999, li_65536, li_99999, li_7654321] at hc
        have e : i = k := by omega
        subst e; exact h
      · simp (disch := omega) only [jn_le, jn_lt, jn_eq, jn_in, jn_add, jn_sub, jn_mul, jn_neg, li_0, li_1, li_2, li_3, li_4, li_5, li_6, li_7, li_8, li_9, li_10, li_11, li_12, li_13, li_14, li_15, li_16, li_17, li_18, li_20, li_24, li_29, li_30, li_31, li_32, li_37, li_39, li_40, li_42, li_43, li_45, li_46, li_47, li_48, li_53, li_57, li_59, li_60, li_61, li_62, li_63, li_80, li_81, li_91, li_93, li_97, li_100, li_122, li_200, li_255, li_256, li_257, li_258, li_259, li_260, li_300, li_314, li_400, li_580, li_999, li_5040, li_9999, li_65536, li_99999, li_7654321] at hc
        refine ⟨by simp (disch := omega) only [jn_le, jn_lt, jn_eq, jn_in, jn_add, jn_sub, jn_mul, jn_neg, li_0, li_1, li_2, li_3, li_4, li_5, li_6, li_7, li_8, li_9, li_10, li_11, li_12, li_13, li_14, li_15, li_16, li_17, li_18, li_20, li_24, li_29, li_30, li_31, li_32, li_37, li_39, li_40, li_42, li_43, li_45, li_46, li_47, li_48, li_53, li_57, li_59, li_60, li_61, li_62, li_63, li_80, li_81, li_91, li_93, li_97, li_100, li_122, li_200, li_255, li_256, li_257, li_258, li_259, li_260, li_300, li_314, li_400, li_580, li_999, li_5040, li_9999, li_65536, li_99999, li_7654321] <;> omega, by simp (disch := omega) only [jn_le, jn_lt, jn_eq, jn_in, jn_add, jn_sub, jn_mul, jn_neg, li_0, li_1, li_2, li_3, li_4, li_5, li_6, li_7, li_8, li_9, li_10, li_11, li_12, li_13, li_14, li_15, li_16, li_17, li_18, li_20, li_24, li_29, li_30, li_31, li_32, li_37, li_39, li_40, li_42, li_43, li_45, li_46, li_47, li_48, li_53, li_57, li_59, li_60, li_61, li_62, li_63, li_80, li_81, li_91, li_93, li_97, li_100, li_122, li_200, li_255, li_256, li_257, li_258, li_259, li_260, li_300, li_314, li_400, li_580, li_999, li_5040, li_9999, li_65536, li_99999, li_7654321] <;> omega, fun x hx => ?_⟩
        refine ih (i + 1) _ _ (by (first | rfl | (simp (disch := omega) only [jn_add, jn_sub, jn_mul, jn_neg, li_0, li_1, li_2, li_3, li_4, li_5, li_6, li_7, li_8, li_9, li_10, li_11, li_12, li_13, li_14, li_15, li_16, li_17, li_18, li_20, li_24, li_29, li_30, li_31, li_32, li_37, li_39, li_40, li_42, li_43, li_45, li_46, li_47, li_48, li_53, li_57, li_59, li_60, li_61, li_62, li_63, li_80, li_81, li_91, li_93, li_97, li_100, li_122, li_200, li_255, li_256, li_257, li_258, li_259, li_260, li_300, li_314, li_400, li_580, li_999, li_5040, li_9999, li_65536, li_99999, li_7654321] <;> first | rfl | exact congrArg jn (by omega)) | exact congrArg jn (by omega))) ?_ (by omega) (by omega)
        have h1 := hP.1 i (by omega)
        have h2 := bR i
        rw [hx, jn_cln (by omega), hO i (by omega), hR i (by omega), jn_l (by omega), jn_l (by omega), jl_shl9, jl_shl6, jl_or, jl_or]
        rw [show (512 : Nat) = 2 ^ 9 from rfl, show (64 : Nat) = 2 ^ 6 from rfl, or_add (by omega)]
        rw [show mrk O BR i * 2 ^ 9 + O i * 2 ^ 6 = (mrk O BR i * 8 + O i) * 2 ^ 6 by omega, or_add (by omega)]
        rw [show mrk O BR (i + 1) = mrk O BR i * 512 + O i * 64 + BR i from rfl]
        exact congrArg jl (by omega)
  exact key N 0 _ _ rfl rfl (by omega) (by omega)
theorem mrk_inj {O O' BR BR' : Nat → Nat} {k : Nat} (hO : ∀ p, p < k → O p < 8) (hO' : ∀ p, p < k → O' p < 8) (hR : ∀ c, BR c ≤ 60) (hR' : ∀ c, BR' c ≤ 60) : ∀ {n : Nat}, n ≤ k → (mrk O BR n = mrk O' BR' n ↔ ∀ c, c < n → O c = O' c ∧ BR c = BR' c)
  | 0, _ => ⟨fun _ c hc => absurd hc (by omega), fun _ => rfl⟩
  | n + 1, h => by
    have ih := mrk_inj hO hO' hR hR' (n := n) (by omega)
    have h1 := hO n (by omega)
    have h2 := hO' n (by omega)
    have h3 := hR n
    have h4 := hR' n
    unfold mrk
    constructor
    · intro q c hc
      have e : mrk O BR n = mrk O' BR' n ∧ O n = O' n ∧ BR n = BR' n := by omega
      by_cases e2 : c = n
      · subst e2; exact e.2
      · exact ih.mp e.1 c (by omega)
    · intro q
      have := ih.mpr (fun c hc => q c (by omega))
      have := q n (by omega)
      omega
/-- the last turn that is noted, and 1 -/
def lastT (NT : Nat → Nat) : Nat → Nat
  | 0 => 0
  | n + 1 => max (lastT NT n) (NT n + 1)
theorem lastT_ge {NT : Nat → Nat} : ∀ {n i : Nat}, i < n → NT i < lastT NT n
  | n + 1, i, h => by
    unfold lastT
    by_cases e : i = n
    · subst e; omega
    · have := lastT_ge (NT := NT) (n := n) (i := i) (by omega); omega
theorem lastT_le {NT : Nat → Nat} {b : Nat} (hb : ∀ i, NT i < b) : ∀ {n : Nat}, lastT NT n ≤ b
  | 0 => Nat.zero_le _
  | n + 1 => by
    unfold lastT
    have := lastT_le hb (n := n)
    have := hb n
    omega
theorem wl_max {N : Nat} {Q : Int32 → Prop} {a b : Int} {x y : Int32} (hx : x = jn a) (hy : y = jn b) (ha : -2147483648 ≤ a ∧ a < 2147483648) (hb : -2147483648 ≤ b ∧ b < 2147483648) (h : Q (jn (max a b))) : wp_J9_max_7cf53 N Q x y := by
  unfold wp_J9_max_7cf53 wp_J9_max_7cf53_10
  subst hx hy
  refine ⟨fun hc => ?_, fun hc => ?_⟩
  · rw [jn_lt ha hb] at hc
    rwa [show max a b = b by omega] at h
  · rw [jn_lt ha hb] at hc
    rwa [show max a b = a by omega] at h
theorem wl_lastTurn {N m : Nat} {nt : Nat → Int32} {NT : Nat → Nat} {Q : Int32 → Prop} (hm : m ≤ 10) (hN : 15 ≤ N) (hT : ar m nt NT) (bT : ∀ i, NT i ≤ 60) (h : Q (jn ((lastT NT m : Int) - 1))) : wp_X3_lastTurn N (jn m) nt Q := by
  have key : ∀ (n i : Nat) (s v : Int32), v = jn i → s = jn ((lastT NT i : Int) - 1) → i ≤ m → m < n + i → wp_X3_lastTurn_4 N (jn m) nt Q n s v := by
    intro n
    induction n with
    | zero => intro i s v _ _ h1 h2; omega
    | succ n ih =>
      intro i s v hv hs h1 h2
      unfold wp_X3_lastTurn_4
      subst hv
      refine ⟨fun hc => ?_, fun hc => ?_⟩
      · simp (disch := omega) only [jn_le, jn_lt, jn_eq, jn_in, jn_add, jn_sub, jn_mul, jn_neg, li_0, li_1, li_2, li_3, li_4, li_5, li_6, li_7, li_8, li_9, li_10, li_11, li_12, li_13, li_14, li_15, li_16, li_17, li_18, li_20, li_24, li_29, li_30, li_31, li_32, li_37, li_39, li_40, li_42, li_43, li_45, li_46, li_47, li_48, li_53, li_57, li_59, li_60, li_61, li_62, li_63, li_80, li_81, li_91, li_93, li_97, li_100, li_122, li_200, li_255, li_256, li_257, li_258, li_259, li_260, li_300, li_314, li_400, li_580, li_999, li_5040, li_9999, li_65536, li_99999, li_7654321] at hc
        have e : i = m := by omega
        subst e; rw [hs]; exact h
      · simp (disch := omega) only [jn_le, jn_lt, jn_eq, jn_in, jn_add, jn_sub, jn_mul, jn_neg, li_0, li_1, li_2, li_3, li_4, li_5, li_6, li_7, li_8, li_9, li_10, li_11, li_12, li_13, li_14, li_15, li_16, li_17, li_18, li_20, li_24, li_29, li_30, li_31, li_32, li_37, li_39, li_40, li_42, li_43, li_45, li_46, li_47, li_48, li_53, li_57, li_59, li_60, li_61, li_62, li_63, li_80, li_81, li_91, li_93, li_97, li_100, li_122, li_200, li_255, li_256, li_257, li_258, li_259, li_260, li_300, li_314, li_400, li_580, li_999, li_5040, li_9999, li_65536, li_99999, li_7654321] at hc
        refine ⟨by simp (disch := omega) only [jn_le, jn_lt, jn_eq, jn_in, jn_add, jn_sub, jn_mul, jn_neg, li_0, li_1, li_2, li_3, li_4, li_5, li_6, li_7, li_8, li_9, li_10, li_11, li_12, li_13, li_14, li_15, li_16, li_17, li_18, li_20, li_24, li_29, li_30, li_31, li_32, li_37, li_39, li_40, li_42, li_43, li_45, li_46, li_47, li_48, li_53, li_57, li_59, li_60, li_61, li_62, li_63, li_80, li_81, li_91, li_93, li_97, li_100, li_122, li_200, li_255, li_256, li_257, li_258, li_259, li_260, li_300, li_314, li_400, li_580, li_999, li_5040, li_9999, li_65536, li_99999, li_7654321] <;> omega, ?_⟩
        have b1 := bT i
        have b2 := lastT_le (fun i => Nat.lt_succ_of_le (bT i)) (n := i)
        rw [jn_cln (by omega), hT i (by omega)]
        refine wl_max hs rfl (by omega) (by omega) ?_
        refine ih (i + 1) _ _ (by (first | rfl | (simp (disch := omega) only [jn_add, jn_sub, jn_mul, jn_neg, li_0, li_1, li_2, li_3, li_4, li_5, li_6, li_7, li_8, li_9, li_10, li_11, li_12, li_13, li_14, li_15, li_16, li_17, li_18, li_20, li_24, li_29, li_30, li_31, li_32, li_37, li_39, li_40, li_42, li_43, li_45, li_46, li_47, li_48, li_53, li_57, li_59, li_60, li_61, li_62, li_63, li_80, li_81, li_91, li_93, li_97, li_100, li_122, li_200, li_255, li_256, li_257, li_258, li_259, li_260, li_300, li_314, li_400, li_580, li_999, li_5040, li_9999, li_65536, li_99999, li_7654321] <;> first | rfl | exact congrArg jn (by omega)) | exact congrArg jn (by omega))) ?_ (by omega) (by omega)
        rw [show lastT NT (i + 1) = max (lastT NT i) (NT i + 1) from rfl]
        exact congrArg jn (by omega)
  exact key N 0 _ _ rfl rfl (by omega) (by omega)
/-- whether what is noted of a turn is so -/
def alw (NT NC : Nat → Nat) (t : Nat) (w : Int) : Nat → Bool
  | 0 => true
  | n + 1 => alw NT NC t w n && (!decide (NT n = t) || decide ((NC n : Int) = w))
theorem alw_iff {NT NC : Nat → Nat} {t : Nat} {w : Int} : ∀ {n : Nat}, alw NT NC t w n = true ↔ ∀ i, i < n → NT i = t → (NC i : Int) = w
  | 0 => ⟨fun _ i h => absurd h (by omega), fun _ => rfl⟩
  | n + 1 => by
    unfold alw
    rw [Bool.and_eq_true, alw_iff (n := n), Bool.or_eq_true, Bool.not_eq_true', decide_eq_true_iff, decide_eq_false_iff_not]
    constructor
    · rintro ⟨h1, h2⟩ i hi e
      by_cases q : i = n
      · subst q
        rcases h2 with h2 | h2
        · exact absurd e h2
        · exact h2
      · exact h1 i (by omega) e
    · intro h
      refine ⟨fun i hi => h i (by omega), ?_⟩
      by_cases e : NT n = t
      · exact Or.inr (h n (by omega) e)
      · exact Or.inl e
theorem wl_allow {N m t : Nat} {nt nc : Nat → Int32} {NT NC : Nat → Nat} {Q : Int32 → Prop} {x y : Int32} {w : Int} (hm : m ≤ 10) (hN : 15 ≤ N) (hT : ar m nt NT) (hC : ar m nc NC) (bT : ∀ i, NT i ≤ 60) (bC : ∀ i, NC i < 8) (ht : t ≤ 60) (hw : -1 ≤ w ∧ w < 8) (hx : x = jn t) (hy : y = jn w) (h : Q (if alw NT NC t w m = true then 1 else 0)) : wp_X3_allow N (jn m) nt nc Q x y := by
  subst hx hy
  have key : ∀ (n i : Nat) (v : Int32), v = jn i → i ≤ m → (∀ j, j < i → NT j = t → (NC j : Int) = w) → m < n + i → wp_X3_allow_2 N (jn m) nt nc Q n (jn t) (jn w) v := by
    intro n
    induction n with
    | zero => intro i v _ h1 _ h2; omega
    | succ n ih =>
      intro i v hv h1 ha h2
      unfold wp_X3_allow_2 wp_X3_allow_32
      subst hv
      refine ⟨fun hc => ?_, fun hc => ?_⟩
      · simp (disch := omega) only [jn_le, jn_lt, jn_eq, jn_in, jn_add, jn_sub, jn_mul, jn_neg, li_0, li_1, li_2, li_3, li_4, li_5, li_6, li_7, li_8, li_9, li_10, li_11, li_12, li_13, li_14, li_15, li_16, li_17, li_18, li_20, li_24, li_29, li_30, li_31, li_32, li_37, li_39, li_40, li_42, li_43, li_45, li_46, li_47, li_48, li_53, li_57, li_59, li_60, li_61, li_62, li_63, li_80, li_81, li_91, li_93, li_97, li_100, li_122, li_200, li_255, li_256, li_257, li_258, li_259, li_260, li_300, li_314, li_400, li_580, li_999, li_5040, li_9999, li_65536, li_99999, li_7654321] at hc
        have e : i = m := by omega
        subst e
        rwa [if_pos (alw_iff.mpr ha)] at h
      · simp (disch := omega) only [jn_le, jn_lt, jn_eq, jn_in, jn_add, jn_sub, jn_mul, jn_neg, li_0, li_1, li_2, li_3, li_4, li_5, li_6, li_7, li_8, li_9, li_10, li_11, li_12, li_13, li_14, li_15, li_16, li_17, li_18, li_20, li_24, li_29, li_30, li_31, li_32, li_37, li_39, li_40, li_42, li_43, li_45, li_46, li_47, li_48, li_53, li_57, li_59, li_60, li_61, li_62, li_63, li_80, li_81, li_91, li_93, li_97, li_100, li_122, li_200, li_255, li_256, li_257, li_258, li_259, li_260, li_300, li_314, li_400, li_580, li_999, li_5040, li_9999, li_65536, li_99999, li_7654321] at hc
        have b1 := bT i
        have b2 := bC i
        rw [jn_cln (by omega), hT i (by omega), hC i (by omega)]
        have go : (NT i = t → (NC i : Int) = w) → wp_X3_allow_2 N (jn m) nt nc Q n (jn t) (jn w) (jn i + 1) := by
          intro q
          refine ih (i + 1) _ (by (first | rfl | (simp (disch := omega) only [jn_add, jn_sub, jn_mul, jn_neg, li_0, li_1, li_2, li_3, li_4, li_5, li_6, li_7, li_8, li_9, li_10, li_11, li_12, li_13, li_14, li_15, li_16, li_17, li_18, li_20, li_24, li_29, li_30, li_31, li_32, li_37, li_39, li_40, li_42, li_43, li_45, li_46, li_47, li_48, li_53, li_57, li_59, li_60, li_61, li_62, li_63, li_80, li_81, li_91, li_93, li_97, li_100, li_122, li_200, li_255, li_256, li_257, li_258, li_259, li_260, li_300, li_314, li_400, li_580, li_999, li_5040, li_9999, li_65536, li_99999, li_7654321] <;> first | rfl | exact congrArg jn (by omega)) | exact congrArg jn (by omega))) (by omega) (fun j hj => ?_) (by omega)
          by_cases e : j = i
          · subst e; exact q
          · exact ha j (by omega)
        refine ⟨by simp (disch := omega) only [jn_le, jn_lt, jn_eq, jn_in, jn_add, jn_sub, jn_mul, jn_neg, li_0, li_1, li_2, li_3, li_4, li_5, li_6, li_7, li_8, li_9, li_10, li_11, li_12, li_13, li_14, li_15, li_16, li_17, li_18, li_20, li_24, li_29, li_30, li_31, li_32, li_37, li_39, li_40, li_42, li_43, li_45, li_46, li_47, li_48, li_53, li_57, li_59, li_60, li_61, li_62, li_63, li_80, li_81, li_91, li_93, li_97, li_100, li_122, li_200, li_255, li_256, li_257, li_258, li_259, li_260, li_300, li_314, li_400, li_580, li_999, li_5040, li_9999, li_65536, li_99999, li_7654321] <;> omega, fun hd => ⟨by simp (disch := omega) only [jn_le, jn_lt, jn_eq, jn_in, jn_add, jn_sub, jn_mul, jn_neg, li_0, li_1, li_2, li_3, li_4, li_5, li_6, li_7, li_8, li_9, li_10, li_11, li_12, li_13, li_14, li_15, li_16, li_17, li_18, li_20, li_24, li_29, li_30, li_31, li_32, li_37, li_39, li_40, li_42, li_43, li_45, li_46, li_47, li_48, li_53, li_57, li_59, li_60, li_61, li_62, li_63, li_80, li_81, li_91, li_93, li_97, li_100, li_122, li_200, li_255, li_256, li_257, li_258, li_259, li_260, li_300, li_314, li_400, li_580, li_999, li_5040, li_9999, li_65536, li_99999, li_7654321] <;> omega, fun he => ?_, fun he => ?_⟩, fun hd => ?_⟩
        · rw [jn_eq (by omega) (by omega)] at he
          exact go (fun _ => he)
        · rw [jn_eq (by omega) (by omega)] at he hd
          have : ¬ alw NT NC t w m = true := fun q => he (alw_iff.mp q i (by omega) (by omega))
          rwa [if_neg this] at h
        · rw [jn_eq (by omega) (by omega)] at hd
          exact go (fun q => absurd (by omega) hd)
  exact key N 0 _ rfl (by omega) (fun j hj => by omega) (by omega)
