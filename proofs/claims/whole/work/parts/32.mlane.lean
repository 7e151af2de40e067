/-! the reference reads a lane -/
def mRd (rd : Nat → Int32) (c : Nat) (l : lS) : Prop := rd 0 = (if c = 0 then 0 else 1) ∧ (0 < c → rd 1 = jn (l_s l)) ∧ rd 2 = jn (l_k l) ∧ (∀ d, d < l_k l → rd (39 + d) = jn (l_l l d)) ∧ (∀ d, d < l_k l → rd (46 + d) = jn (l_b l d)) ∧ (∀ d, d < l_k l → rd (53 + d) = jn (l_r l d))
section MLN
variable {N n : Nat} {b : Nat → Int} {bt : Nat → Int32}
theorem wm_cell {a i lo hi : Nat} {rd : Nat → Int32} {Q : Int32 → (Nat → Int32) → Int32 → Int32 → Int32 → Prop} {x y z w u : Int32} (hN : 500 ≤ N) (hn : n ≤ 400) (hB : ∀ i, i < n → bt i = jn (b i)) (bB : ∀ i, -128 ≤ b i ∧ b i ≤ 127) (ha : a ≤ n) (hw : w = jn a) (hx : x = jn i) (hi60 : i < 60) (hy : y = jn lo) (hz : z = jn hi) (hlo : lo < 1000) (hhi : hi < 1000)
    (h : match nR b n a lo hi with
      | .inl e => ∀ rd w u, Q 0 rd w (jn e) u
      | .inr v => ∀ u, Q 1 (upd rd i (jn v.1)) (jn v.2) 0 u) : wp_X12_cellHere N bt (jn n) Q x y z rd w 0 u := by
  subst hx
  unfold wp_X12_cellHere
  have hr := numb_r (b := b) (n := n) (p := skp b n a)
  unfold nR at h
  refine wm_numberHere hN hn hB bB ha hw hy hz (by omega) (by omega) (fun q => ?_) (fun q q2 e v => ?_) (fun q q2 => ?_)
  · rw [if_neg q] at h
    exact ⟨fun _ => h _ _ _, fun z => absurd rfl z⟩
  · rw [if_pos q, if_neg q2] at h
    exact ⟨fun _ => h _ _ _, fun z => absurd rfl z⟩
  · rw [if_pos q, if_pos q2] at h
    refine ⟨fun z => absurd z (by decide), fun _ => ⟨by simp (disch := omega) only [jn_le, jn_lt, jn_eq, jn_in, jn_add, jn_sub, jn_mul, jn_neg, li_0, li_1, li_2, li_3, li_4, li_5, li_6, li_7, li_8, li_9, li_10, li_11, li_12, li_13, li_14, li_15, li_16, li_17, li_18, li_20, li_24, li_29, li_30, li_31, li_32, li_37, li_39, li_40, li_42, li_43, li_45, li_46, li_47, li_48, li_53, li_57, li_59, li_60, li_61, li_62, li_63, li_80, li_81, li_91, li_93, li_97, li_100, li_122, li_200, li_255, li_256, li_257, li_258, li_259, li_260, li_300, li_314, li_400, li_580, li_999, li_5040, li_9999, li_65536, li_99999, li_7654321] <;> omega, fun a5 e5 => ?_⟩⟩
    rw [e5, jn_cln (by omega)]
    have := h (jn (numb b n (skp b n a)))
    dsimp only at this
    rw [show ((numb b n (skp b n a)).toNat : Int) = numb b n (skp b n a) by omega] at this
    exact this
theorem wm_laneLine {c q : Nat} {l : lS} {rd : Nat → Int32} {Q : Int32 → (Nat → Int32) → Int32 → Int32 → Int32 → Prop} {x w u : Int32} (hN : 500 ≤ N) (hn : n ≤ 400) (hB : ∀ i, i < n → bt i = jn (b i)) (bB : ∀ i, -128 ≤ b i ∧ b i ≤ 127) (hq : q ≤ n) (hqq : skp b n q = q) (hw : w = jn q) (hx : x = jn q) (hc : c < 40) (hs : sgn b n q = 314 ∨ sgn b n q = 300) (hk : l_k l ≤ 7) (h0 : c = 0 → l_k l = 0) (hr : mRd rd c l)
    (h : match cS b n c q l with
      | .inl e => ∀ rd w u, Q 0 rd w (jn e) u
      | .inr v => ∀ rd u, mRd rd (c + 1) v.2 → Q 1 rd (jn v.1) 0 u) : wp_X12_laneLineHere N bt (jn n) Q x rd w 0 u := by
  have hen := en_le (b := b) hq
  obtain ⟨r0, r1, r2, r3, r4, r5⟩ := hr
  unfold wp_X12_laneLineHere
  refine wm_isWord (i := 14) hN hn hB bB hq hw (by omega) rfl ?_
  unfold cS at h
  rw [hqq] at h ⊢
  rw [if_neg (by omega)] at h
  by_cases e3 : sgn b n q = 314
  · rw [if_pos (show sgn b n q = 300 + 14 from e3)]
    refine ⟨fun z => absurd z (by decide), fun _ => ?_⟩
    unfold wp_X12_isLaneHere
    rw [show (0 : Int32).toNatClampNeg = 0 from rfl, r0]
    by_cases e4 : c = 0
    · rw [if_pos e4]
      rw [if_neg (by have := h0 e4; omega), if_pos e3] at h
      refine ⟨by unfold vp_in; decide, fun _ => ?_, fun z => absurd (by decide) z⟩
      refine wm_passWord hN hn hB bB hq rfl ?_
      rw [← en_word (i := 14) (by omega) e3]
      refine wm_cell (lo := 1) (hi := 6) (i := 1) hN hn hB bB hen.2 rfl rfl (by omega) rfl rfl (by omega) (by omega) ?_
      cases q1 : nR b n (en b n q) 1 6 with
      | inl e =>
        rw [q1] at h
        intro rd w u
        exact ⟨fun _ => ⟨Or.inl rfl, h _ _ _⟩, fun z => absurd rfl z⟩
      | inr v =>
        rw [q1] at h
        intro u
        refine ⟨fun z => absurd z (by decide), fun _ => ⟨by unfold vp_in; decide, fun a7 g7 => ⟨Or.inr rfl, h _ _ ?_⟩⟩⟩
        have k0 := h0 e4
        refine ⟨?_, fun _ => ?_, ?_, fun d hd => ?_, fun d hd => ?_, fun d hd => ?_⟩
        · rw [g7, upd_at, if_neg (by omega)]
        · rw [g7, upd_ne (by omega), upd_at]; rfl
        · rw [g7, upd_ne (by omega), upd_ne (by omega)]; exact r2
        · have hd : d < l_k l := hd
          omega
        · have hd : d < l_k l := hd
          omega
        · have hd : d < l_k l := hd
          omega
    · rw [if_neg e4]
      rw [if_pos (by right; left; intro z; exact e4 (z.mp e3))] at h
      refine ⟨by unfold vp_in; decide, fun z => absurd z (by decide), fun _ => ?_⟩
      exact wm_fails (kd := 4) rfl hx ⟨Or.inl rfl, Or.inl rfl, h _ _ _⟩
  · rw [if_neg (show ¬ sgn b n q = 300 + 14 from e3)]
    refine ⟨fun _ => ?_, fun z => absurd rfl z⟩
    rw [show (0 : Int32).toNatClampNeg = 0 from rfl, r0]
    by_cases e4 : c = 0
    · rw [if_pos e4]
      rw [if_pos (by right; left; intro z; exact e3 (z.mpr e4))] at h
      refine ⟨by unfold vp_in; decide, fun _ => ?_, fun z => absurd rfl z⟩
      exact wm_fails (kd := 4) rfl hx ⟨Or.inl rfl, h _ _ _⟩
    · rw [if_neg e4]
      refine ⟨by unfold vp_in; decide, fun z => absurd z (by decide), fun _ => ?_⟩
      unfold wp_X12_isChildHere wp_X12_isChildHere_71
      rw [show (2 : Int32).toNatClampNeg = 2 from rfl, r2, li_7, jn_eq (by omega) (by omega)]
      refine ⟨by unfold vp_in; decide, fun z => ?_, fun z => ?_⟩
      · rw [if_pos (by omega)] at h
        exact wm_fails (kd := 4) rfl hx ⟨Or.inl rfl, Or.inl rfl, h _ _ _⟩
      · rw [if_neg (by omega), if_neg e3] at h
        have e300 : sgn b n q = 300 + 0 := by omega
        refine wm_passWord hN hn hB bB hq rfl ?_
        rw [← en_word (i := 0) (by omega) e300]
        refine ⟨by unfold vp_in; decide, fun x4 g4 => ?_⟩
        subst g4
        unfold c3 at h
        have t1 := nR_r (b := b) (lo := 1) (hi := 20) hen.2 hn
        refine wm_cell (lo := 1) (hi := 20) (i := 46 + l_k l) hN hn hB bB hen.2 rfl (by (first | rfl | (simp (disch := omega) only [jn_add, jn_sub, jn_mul, jn_neg, li_0, li_1, li_2, li_3, li_4, li_5, li_6, li_7, li_8, li_9, li_10, li_11, li_12, li_13, li_14, li_15, li_16, li_17, li_18, li_20, li_24, li_29, li_30, li_31, li_32, li_37, li_39, li_40, li_42, li_43, li_45, li_46, li_47, li_48, li_53, li_57, li_59, li_60, li_61, li_62, li_63, li_80, li_81, li_91, li_93, li_97, li_100, li_122, li_200, li_255, li_256, li_257, li_258, li_259, li_260, li_300, li_314, li_400, li_580, li_999, li_5040, li_9999, li_65536, li_99999, li_7654321] <;> first | rfl | exact congrArg jn (by omega)) | exact congrArg jn (by omega))) (by omega) rfl rfl (by omega) (by omega) ?_
        cases q1 : nR b n (en b n q) 1 20 with
        | inl e =>
          rw [q1] at h
          intro rd w u
          exact ⟨fun _ => ⟨Or.inl rfl, h _ _ _⟩, fun z => absurd rfl z⟩
        | inr v =>
          rw [q1] at h t1
          dsimp only at h
          intro u
          refine ⟨fun z => absurd z (by decide), fun _ => ?_⟩
          have t2 := nR_r (b := b) (lo := 1) (hi := 20) t1.2.2 hn
          refine wm_cell (lo := 1) (hi := 20) (i := 39 + l_k l) hN hn hB bB t1.2.2 rfl (by (first | rfl | (simp (disch := omega) only [jn_add, jn_sub, jn_mul, jn_neg, li_0, li_1, li_2, li_3, li_4, li_5, li_6, li_7, li_8, li_9, li_10, li_11, li_12, li_13, li_14, li_15, li_16, li_17, li_18, li_20, li_24, li_29, li_30, li_31, li_32, li_37, li_39, li_40, li_42, li_43, li_45, li_46, li_47, li_48, li_53, li_57, li_59, li_60, li_61, li_62, li_63, li_80, li_81, li_91, li_93, li_97, li_100, li_122, li_200, li_255, li_256, li_257, li_258, li_259, li_260, li_300, li_314, li_400, li_580, li_999, li_5040, li_9999, li_65536, li_99999, li_7654321] <;> first | rfl | exact congrArg jn (by omega)) | exact congrArg jn (by omega))) (by omega) rfl rfl (by omega) (by omega) ?_
          cases q2 : nR b n v.2 1 20 with
          | inl e =>
            rw [q2] at h
            intro rd w u
            exact ⟨fun _ => ⟨Or.inl rfl, h _ _ _⟩, fun z => absurd rfl z⟩
          | inr y =>
            rw [q2] at h t2
            dsimp only at h
            intro u
            refine ⟨fun z => absurd z (by decide), fun _ => ?_⟩
            have t3 := nR_r (b := b) (lo := 0) (hi := 30) t2.2.2 hn
            refine wm_cell (lo := 0) (hi := 30) (i := 53 + l_k l) hN hn hB bB t2.2.2 rfl (by (first | rfl | (simp (disch := omega) only [jn_add, jn_sub, jn_mul, jn_neg, li_0, li_1, li_2, li_3, li_4, li_5, li_6, li_7, li_8, li_9, li_10, li_11, li_12, li_13, li_14, li_15, li_16, li_17, li_18, li_20, li_24, li_29, li_30, li_31, li_32, li_37, li_39, li_40, li_42, li_43, li_45, li_46, li_47, li_48, li_53, li_57, li_59, li_60, li_61, li_62, li_63, li_80, li_81, li_91, li_93, li_97, li_100, li_122, li_200, li_255, li_256, li_257, li_258, li_259, li_260, li_300, li_314, li_400, li_580, li_999, li_5040, li_9999, li_65536, li_99999, li_7654321] <;> first | rfl | exact congrArg jn (by omega)) | exact congrArg jn (by omega))) (by omega) rfl rfl (by omega) (by omega) ?_
            cases q3 : nR b n y.2 0 30 with
            | inl e =>
              rw [q3] at h
              intro rd w u
              exact ⟨fun _ => ⟨Or.inl rfl, h _ _ _⟩, fun z => absurd rfl z⟩
            | inr t =>
              rw [q3] at h
              dsimp only at h
              intro u
              refine ⟨fun z => absurd z (by decide), fun _ => ⟨by unfold vp_in; decide, by unfold vp_in; decide, fun a7 g7 => ⟨Or.inr rfl, h _ _ ?_⟩⟩⟩
              rw [upd_ne (by omega), upd_ne (by omega), upd_ne (by omega), r2] at g7
              refine ⟨?_, fun _ => ?_, ?_, fun d hd => ?_, fun d hd => ?_, fun d hd => ?_⟩
              · rw [g7, upd_ne (by omega), upd_ne (by omega), upd_ne (by omega), upd_ne (by omega), if_neg (by omega), r0, if_neg e4]
              · rw [g7, upd_ne (by omega), upd_ne (by omega), upd_ne (by omega), upd_ne (by omega)]
                exact r1 (by omega)
              · rw [g7, upd_at]
                show jn (l_k l : Nat) + (1 : Int32) = jn ((l_k l + 1 : Nat) : Int)
                exact by (first | rfl | (simp (disch := omega) only [jn_add, jn_sub, jn_mul, jn_neg, li_0, li_1, li_2, li_3, li_4, li_5, li_6, li_7, li_8, li_9, li_10, li_11, li_12, li_13, li_14, li_15, li_16, li_17, li_18, li_20, li_24, li_29, li_30, li_31, li_32, li_37, li_39, li_40, li_42, li_43, li_45, li_46, li_47, li_48, li_53, li_57, li_59, li_60, li_61, li_62, li_63, li_80, li_81, li_91, li_93, li_97, li_100, li_122, li_200, li_255, li_256, li_257, li_258, li_259, li_260, li_300, li_314, li_400, li_580, li_999, li_5040, li_9999, li_65536, li_99999, li_7654321] <;> first | rfl | exact congrArg jn (by omega)) | exact congrArg jn (by omega))
              · have hd : d < l_k l + 1 := hd
                show a7 (39 + d) = jn (un (l_l l) (l_k l) y.1 d : Nat)
                by_cases e : d = l_k l
                · rw [g7, upd_ne (by omega), upd_ne (by omega), e, upd_at, un_at]
                · rw [g7, upd_ne (by omega), upd_ne (by omega), upd_ne (by omega), upd_ne (by omega), un_ne e]; exact r3 d (by omega)
              · have hd : d < l_k l + 1 := hd
                show a7 (46 + d) = jn (un (l_b l) (l_k l) v.1 d : Nat)
                by_cases e : d = l_k l
                · rw [g7, upd_ne (by omega), upd_ne (by omega), upd_ne (by omega), e, upd_at, un_at]
                · rw [g7, upd_ne (by omega), upd_ne (by omega), upd_ne (by omega), upd_ne (by omega), un_ne e]; exact r4 d (by omega)
              · have hd : d < l_k l + 1 := hd
                show a7 (53 + d) = jn (un (l_r l) (l_k l) t.1 d : Nat)
                by_cases e : d = l_k l
                · rw [g7, upd_ne (by omega), e, upd_at, un_at]
                · rw [g7, upd_ne (by omega), upd_ne (by omega), upd_ne (by omega), upd_ne (by omega), un_ne e]; exact r5 d (by omega)
end MLN
