/-! the reference's turn -/
def mF (k : Nat) (sd sd' : Nat → Int32) : Prop := ∀ j, ¬ (10 ≤ j ∧ j < 11 + 4 * k) → sd' j = sd j
theorem mF_refl {k : Nat} {sd : Nat → Int32} : mF k sd sd := fun _ _ => rfl
theorem mF_trans {k : Nat} {a b c : Nat → Int32} (h : mF k a b) (h' : mF k b c) : mF k a c := fun j hj => (h' j hj).trans (h j hj)
theorem mF_upd {k j : Nat} {sd sd' : Nat → Int32} {x : Int32} (h : mF k sd sd') (hj : 10 ≤ j ∧ j < 11 + 4 * k) : mF k sd (upd sd' j x) := by
  intro i hi
  rw [upd_ne (by omega)]; exact h i hi
theorem mF_L {l : lS} {sd sd' : Nat → Int32} (hl : LOk l) (h : mF (l_k l) sd sd') (hL : mL sd l) : mL sd' l := by
  have hk := hl.2.2.1
  obtain ⟨h1, h2, h3, h4, h5, h6⟩ := hL
  refine ⟨?_, ?_, ?_, fun c hc => ?_, fun c hc => ?_, fun c hc => ?_⟩
  · rw [h 0 (by omega)]; exact h1
  · rw [h 1 (by omega)]; exact h2
  · rw [h 2 (by omega)]; exact h3
  · rw [h _ (by omega)]; exact h4 c hc
  · rw [h _ (by omega)]; exact h5 c hc
  · rw [h _ (by omega)]; exact h6 c hc
def mR (N : Nat) (sg cl cs : Nat → Int32) (fc : Int32) (r : rS) : Prop := match r with
  | none => fc = -1
  | some f => ∃ i : Nat, i < 6 ∧ fc = jn i ∧ ∀ (w : Nat → Int64) (Q : Int64 → (Nat → Int64) → Int32 → Prop) (st : Nat → Int64) (tp : Int32), (∀ s t, Q (f w) s t) → wp_X12_summedBy N sg cl cs w Q fc st tp
theorem wm_sumOf {N c i : Nat} {l : lS} {g : gS} {f : (Nat → Int64) → Int64} {sg cl cs sd : Nat → Int32} {fc x : Int32} {Q : Int64 → (Nat → Int64) → Int32 → (Nat → Int64) → Prop} {st wd : Nat → Int64} {tp : Int32} (hN : 10 ≤ N) (hl : LOk l) (hg : GOk (l_k l) g) (hL : mL sd l) (hG : mG (l_k l) sd g) (ht : g_t g < 1000000) (hf : ROk (some f)) (hR : mR N sg cl cs fc (some f)) (hx : x = jn c) (hc : c < l_k l) (h : ∀ s t w, Q (f (wds l g c)) s t w) : wp_X12_sumOf N sg cl cs sd fc Q x st tp wd := by
  subst hx
  have hk := hl.2.2.1
  have hs := hl.2.1
  have hP := hg.1
  have hp : plc l g c < l_k l := iv_lt hP hc
  have b1 := hg.2.1 c
  have b2 := hg.2.2.1 c
  have b3 := hg.2.2.2 c
  have b4 := hl.2.2.2.2.2.1 c
  have b5 : ov l g c ≤ min (l_s l) (plc l g c) := ovr_le
  have b6 := cnt_le (f := cn l g) (n := l_k l)
  obtain ⟨j, -, -, hR⟩ := hR
  unfold wp_X12_sumOf
  refine ⟨by unfold vp_in; decide, fun a1 e1 => ?_⟩
  refine wm_placeOf rfl (by omega) ⟨by unfold vp_in; decide, fun a3 e3 => ?_⟩
  refine wm_backOf rfl (by omega) ⟨by unfold vp_in; decide, fun a5 e5 => ⟨by simp (disch := omega) only [jn_le, jn_lt, jn_eq, jn_in, jn_add, jn_sub, jn_mul, jn_neg, li_0, li_1, li_2, li_3, li_4, li_5, li_6, li_7, li_8, li_9, li_10, li_11, li_12, li_13, li_14, li_15, li_16, li_17, li_18, li_20, li_24, li_29, li_30, li_31, li_32, li_37, li_39, li_40, li_42, li_43, li_45, li_46, li_47, li_48, li_53, li_57, li_59, li_60, li_61, li_62, li_63, li_80, li_81, li_91, li_93, li_97, li_100, li_122, li_200, li_255, li_256, li_257, li_258, li_259, li_260, li_300, li_314, li_400, li_580, li_999, li_5040, li_9999, li_65536, li_99999, li_7654321] <;> omega, by unfold vp_in; decide, fun a6 e6 => ?_⟩⟩
  refine wm_breathOf rfl (by omega) ⟨by unfold vp_in; decide, fun a8 e8 => ?_⟩
  refine wm_overOf hN hl hg hL hG rfl hc ⟨by unfold vp_in; decide, fun a10 e10 => ?_⟩
  refine wm_leaptOf rfl (by omega) ⟨by unfold vp_in; decide, fun a12 e12 => ⟨by unfold vp_in; decide, by unfold vp_in; decide, fun a13 e13 => ?_⟩⟩
  refine wm_canOnes hN hl hg hL hG ?_
  refine wm_bits hN (bs_lt7 hk) rfl ?_
  rw [cnt_bs hk]
  refine ⟨by unfold vp_in; decide, fun a16 e16 => ⟨by unfold vp_in; decide, by unfold vp_in; decide, fun a17 e17 => ?_⟩⟩
  refine hR a17 _ st tp (fun s t => ?_)
  have e : f a17 = f (wds l g c) := by
    refine hf f rfl _ _ (fun i hi => ?_)
    have e : i = 0 ∨ i = 1 ∨ i = 2 ∨ i = 3 ∨ i = 4 ∨ i = 5 ∨ i = 6 ∨ i = 7 ∨ i = 8 ∨ i = 9 := by omega
    rcases e with e | e | e | e | e | e | e | e | e | e <;> subst e
    · rw [e17, updL_ne (by decide), e16, updL_ne (by decide), e13, updL_ne (by decide), e12, updL_ne (by decide), e10, updL_ne (by decide), e8, updL_ne (by decide), e6, updL_ne (by decide), e5, updL_ne (by decide), e3, updL_ne (by decide), e1]
      exact (updL_at).trans (jn_l (by omega))
    · rw [e17, updL_ne (by decide), e16, updL_ne (by decide), e13, updL_ne (by decide), e12, updL_ne (by decide), e10, updL_ne (by decide), e8, updL_ne (by decide), e6, updL_ne (by decide), e5, updL_ne (by decide), e3, mG_plc hg hG hc]
      exact (updL_at).trans (jn_l (by omega))
    · rw [e17, updL_ne (by decide), e16, updL_ne (by decide), e13, updL_ne (by decide), e12, updL_ne (by decide), e10, updL_ne (by decide), e8, updL_ne (by decide), e6, updL_ne (by decide), e5, hG.2.1 c hc]
      exact (updL_at).trans (jn_l (by omega))
    · rw [e17, updL_ne (by decide), e16, updL_ne (by decide), e13, updL_ne (by decide), e12, updL_ne (by decide), e10, updL_ne (by decide), e8, updL_ne (by decide), e6]
      refine (updL_at).trans ?_
      rw [show (39 : Int32) + jn c = jn ((39 + c : Nat) : Int) from by (first | rfl | (simp (disch := omega) only [jn_add, jn_sub, jn_mul, jn_neg, li_0, li_1, li_2, li_3, li_4, li_5, li_6, li_7, li_8, li_9, li_10, li_11, li_12, li_13, li_14, li_15, li_16, li_17, li_18, li_20, li_24, li_29, li_30, li_31, li_32, li_37, li_39, li_40, li_42, li_43, li_45, li_46, li_47, li_48, li_53, li_57, li_59, li_60, li_61, li_62, li_63, li_80, li_81, li_91, li_93, li_97, li_100, li_122, li_200, li_255, li_256, li_257, li_258, li_259, li_260, li_300, li_314, li_400, li_580, li_999, li_5040, li_9999, li_65536, li_99999, li_7654321] <;> first | rfl | exact congrArg jn (by omega)) | exact congrArg jn (by omega)), jn_cln (by omega), hL.2.2.2.1 c hc]
      exact jn_l (by omega)
    · rw [e17, updL_ne (by decide), e16, updL_ne (by decide), e13, updL_ne (by decide), e12, updL_ne (by decide), e10, updL_ne (by decide), e8, hG.2.2.1 c hc]
      exact (updL_at).trans (jn_l (by omega))
    · rw [e17, updL_ne (by decide), e16, updL_ne (by decide), e13, updL_ne (by decide), e12, updL_ne (by decide), e10]
      exact (updL_at).trans (jn_l (by omega))
    · rw [e17, updL_ne (by decide), e16, updL_ne (by decide), e13, updL_ne (by decide), e12, hG.2.2.2.2 c hc]
      exact (updL_at).trans (jn_l (by omega))
    · rw [e17, updL_ne (by decide), e16, updL_ne (by decide), e13]
      refine (updL_at).trans ?_
      rw [show (2 : Int32).toNatClampNeg = 2 from rfl, hL.2.2.1]
      exact jn_l (by omega)
    · rw [e17, updL_ne (by decide), e16]
      exact (updL_at).trans (jn_l (by omega))
    · rw [e17]
      refine (updL_at).trans ?_
      rw [show (10 : Int32).toNatClampNeg = 10 from rfl, hG.1]
      exact jn_l (by omega)
  rw [e]; exact h s t a17
/-- who leaps, told as the reference tells it -/
def tC (l : lS) (r : rS) (g : gS) : Int := match tW l r g with
  | none => -1
  | some c => (c : Nat)
def oC : Option Nat → Int
  | none => -1
  | some c => (c : Nat)
theorem wm_choice {N : Nat} {l : lS} {g : gS} {r : rS} {sg cl cs sd : Nat → Int32} {fc : Int32} {Q : Int32 → (Nat → Int64) → Int32 → (Nat → Int64) → Prop} {st wd : Nat → Int64} {tp : Int32} (hN : 10 ≤ N) (hl : LOk l) (hg : GOk (l_k l) g) (hL : mL sd l) (hG : mG (l_k l) sd g) (ht : g_t g < 1000000) (hf : ROk r) (hR : mR N sg cl cs fc r) (h : ∀ s t w, Q (jn (oC (tW l r g))) s t w) : wp_X12_choice N sg cl cs sd fc Q st tp wd := by
  have hk := hl.2.2.1
  have hP := hg.1
  have key : ∀ (n i : Nat) (v1 : Int32) (v2 : Int64) (v4 : Int32) (s : Nat → Int64) (t : Int32) (w : Nat → Int64), v4 = jn i → v1 = jn (oC (chS (cn l g) (vlu l r g) i).1) → v2 = (chS (cn l g) (vlu l r g) i).2 → i ≤ l_k l → l_k l < n + i → wp_X12_choice_7 N sg cl cs sd fc Q n v1 v2 v4 s t w := by
    intro n
    induction n with
    | zero => intro i v1 v2 v4 s t w _ _ _ h1 h2; omega
    | succ n ih =>
      intro i v1 v2 v4 s t w hv hv1 hv2 h1 h2
      unfold wp_X12_choice_7
      subst hv
      rw [show (2 : Int32).toNatClampNeg = 2 from rfl, hL.2.2.1]
      refine ⟨by unfold vp_in; decide, fun hd => ?_, fun hd => ?_⟩
      · simp (disch := omega) only [jn_le, jn_lt, jn_eq, jn_in, jn_add, jn_sub, jn_mul, jn_neg, li_0, li_1, li_2, li_3, li_4, li_5, li_6, li_7, li_8, li_9, li_10, li_11, li_12, li_13, li_14, li_15, li_16, li_17, li_18, li_20, li_24, li_29, li_30, li_31, li_32, li_37, li_39, li_40, li_42, li_43, li_45, li_46, li_47, li_48, li_53, li_57, li_59, li_60, li_61, li_62, li_63, li_80, li_81, li_91, li_93, li_97, li_100, li_122, li_200, li_255, li_256, li_257, li_258, li_259, li_260, li_300, li_314, li_400, li_580, li_999, li_5040, li_9999, li_65536, li_99999, li_7654321] at hd
        have e : i = l_k l := by omega
        subst e
        rw [hv1]; exact h s t w
      · simp (disch := omega) only [jn_le, jn_lt, jn_eq, jn_in, jn_add, jn_sub, jn_mul, jn_neg, li_0, li_1, li_2, li_3, li_4, li_5, li_6, li_7, li_8, li_9, li_10, li_11, li_12, li_13, li_14, li_15, li_16, li_17, li_18, li_20, li_24, li_29, li_30, li_31, li_32, li_37, li_39, li_40, li_42, li_43, li_45, li_46, li_47, li_48, li_53, li_57, li_59, li_60, li_61, li_62, li_63, li_80, li_81, li_91, li_93, li_97, li_100, li_122, li_200, li_255, li_256, li_257, li_258, li_259, li_260, li_300, li_314, li_400, li_580, li_999, li_5040, li_9999, li_65536, li_99999, li_7654321] at hd
        have hi : i < l_k l := by omega
        have hp : plc l g i < l_k l := iv_lt hP hi
        have stay : ¬ (cn l g i = true ∧ (chS (cn l g) (vlu l r g) i).2 < vlu l r g i) → ∀ s t w, wp_X12_choice_7 N sg cl cs sd fc Q n v1 v2 (jn i + 1) s t w := by
          intro q s t w
          have e : chS (cn l g) (vlu l r g) (i + 1) = chS (cn l g) (vlu l r g) i := by
            rw [chS, if_neg q]
          exact ih (i + 1) _ _ _ _ _ _ (by (first | rfl | (simp (disch := omega) only [jn_add, jn_sub, jn_mul, jn_neg, li_0, li_1, li_2, li_3, li_4, li_5, li_6, li_7, li_8, li_9, li_10, li_11, li_12, li_13, li_14, li_15, li_16, li_17, li_18, li_20, li_24, li_29, li_30, li_31, li_32, li_37, li_39, li_40, li_42, li_43, li_45, li_46, li_47, li_48, li_53, li_57, li_59, li_60, li_61, li_62, li_63, li_80, li_81, li_91, li_93, li_97, li_100, li_122, li_200, li_255, li_256, li_257, li_258, li_259, li_260, li_300, li_314, li_400, li_580, li_999, li_5040, li_9999, li_65536, li_99999, li_7654321] <;> first | rfl | exact congrArg jn (by omega)) | exact congrArg jn (by omega))) (by rw [e]; exact hv1) (by rw [e]; exact hv2) (by omega) (by omega)
        have take : (cn l g i = true ∧ (chS (cn l g) (vlu l r g) i).2 < vlu l r g i) → ∀ s t w, wp_X12_choice_7 N sg cl cs sd fc Q n (jn i) (vlu l r g i) (jn i + 1) s t w := by
          intro q s t w
          have e : chS (cn l g) (vlu l r g) (i + 1) = (some i, vlu l r g i) := by
            rw [chS, if_pos q]
          exact ih (i + 1) _ _ _ _ _ _ (by (first | rfl | (simp (disch := omega) only [jn_add, jn_sub, jn_mul, jn_neg, li_0, li_1, li_2, li_3, li_4, li_5, li_6, li_7, li_8, li_9, li_10, li_11, li_12, li_13, li_14, li_15, li_16, li_17, li_18, li_20, li_24, li_29, li_30, li_31, li_32, li_37, li_39, li_40, li_42, li_43, li_45, li_46, li_47, li_48, li_53, li_57, li_59, li_60, li_61, li_62, li_63, li_80, li_81, li_91, li_93, li_97, li_100, li_122, li_200, li_255, li_256, li_257, li_258, li_259, li_260, li_300, li_314, li_400, li_580, li_999, li_5040, li_9999, li_65536, li_99999, li_7654321] <;> first | rfl | exact congrArg jn (by omega)) | exact congrArg jn (by omega))) (by rw [e]; rfl) (by rw [e]) (by omega) (by omega)
        refine wm_canLeap hN hl hg hL hG ?_
        rw [asC_of hk hi]
        dsimp only
        unfold wp_X12_choice_53 wp_X12_choice_71
        have both : cn l g i = true → ∀ x s t w, x = vlu l r g i → ((0 < lg_cmp x v2 → wp_X12_choice_7 N sg cl cs sd fc Q n (jn i) x (jn i + 1) s t w) ∧ (¬ (0 < lg_cmp x v2) → wp_X12_choice_7 N sg cl cs sd fc Q n v1 v2 (jn i + 1) s t w)) := by
          intro hcn x s t w hx
          subst hx
          rw [jn_cmp, hv2]
          refine ⟨fun q => ?_, fun q => ?_⟩
          · exact take ⟨hcn, q⟩ s t w
          · have := stay (fun z => q z.2) s t w
            rw [hv2] at this; exact this
        cases hcn : cn l g i with
        | false => exact ⟨fun _ => stay (fun z => by rw [hcn] at z; cases z.1) s t w, fun q => absurd rfl q⟩
        | true =>
          refine ⟨fun q => absurd q (show ¬ (1 : Int32) = 0 by decide), fun _ => ?_⟩
          cases r with
          | none =>
            have hfc : fc = -1 := hR
            subst hfc
            refine ⟨fun q => absurd q (by decide), fun _ => ?_⟩
            refine wm_placeOf rfl (by omega) ?_
            rw [mG_plc hg hG hi]
            exact both hcn _ s t w (jn_l (by omega))
          | some f =>
            have hR' := hR
            obtain ⟨j, hj, hfc, -⟩ := hR'
            refine ⟨fun _ => ?_, fun q => ?_⟩
            · exact wm_sumOf (i := i) hN hl hg hL hG ht hf hR rfl hi (fun s t w => both hcn _ s t w rfl)
            · rw [hfc, li_0, jn_le (by omega) (by omega)] at q; omega
  exact key N 0 _ _ _ _ _ _ rfl rfl rfl (by omega) (by omega)
