/-! the reference: lane, rule, images, how it is -/
section MCB
variable {N : Nat} {a : aS} {tp sg cl cs sd ws im ifc ix imd : Nat → Int32} {td ru fc x ud : Int32}
theorem mRu_fr {t i : Nat} {d : List cS1} {ln sg' cl' cs' ln' : Nat → Int32} (hi : i ≠ t) (h : mRu sg cl cs i d) (h1 : mFr t sg ln sg' ln') (h2 : mFk t cl cl') (h3 : ∀ j, j ≠ t → cs' j = cs j) : mRu sg' cl' cs' i d := by
  obtain ⟨q1, q2, q3, q4, q5⟩ := h
  refine ⟨by rw [h3 i hi]; exact q1, q2, q3, fun j v hj => ?_, fun j c hj => ?_⟩
  · have hl := (List.getElem?_eq_some_iff.mp hj).1
    rw [h1.1 _ (by omega)]; exact q4 j v hj
  · have hl := (List.getElem?_eq_some_iff.mp hj).1
    obtain ⟨r1, r2, r3, r4⟩ := q5 j c hj
    refine ⟨by rw [h2 _ (by omega)]; exact r1, by rw [h2 _ (by omega)]; exact r2, fun e => by rw [h2 _ (by omega)]; exact r3 e, fun t' e => ?_⟩
    obtain ⟨r5, r6⟩ := r4 t' e
    exact ⟨by rw [h2 _ (by omega)]; exact r5, by rw [h2 _ (by omega)]; exact r6⟩
theorem rm_rule {Q : Int32 → Int32 → Int32 → (Nat → Int32) → (Nat → Int32) → (Nat → Int32) → (Nat → Int32) → (Nat → Int32) → Int32 → Int32 → Int32 → Int32 → Int32 → Int32 → Int32 → (Nat → Int32) → Int32 → Prop} {ln rd op : Nat → Int32} {nx wr nu tx md dp li opd : Int32} (hN : 700 ≤ N) (hA : AOk a) (hM : MRel a tp td ru sg cl cs sd fc x ws ud im ifc ix imd)
    (h : ∀ td ru sg ln cl cs rd nx wr nu tx md dp li op opd, MRel (F_rule a).2 tp td ru sg cl cs sd fc x ws ud im ifc ix imd → Q (F_rule a).1 td ru sg ln cl cs rd nx wr nu tx md dp li op opd) : wp_X12_rule N tp Q td ru sg ln cl cs rd nx wr nu tx md dp li op opd := by
  have hM' := hM
  obtain ⟨⟨t1, t2⟩, m2, m3, m4, m5, m6, m7, m8⟩ := hM
  have h6 := hA.2.2.1
  unfold F_rule at h
  by_cases e6 : a_r a = 6
  · rw [if_pos e6] at h
    unfold wp_X12_rule
    refine ⟨fun _ => h _ _ _ _ _ _ _ _ _ _ _ _ _ _ _ _ hM', fun q => absurd (by rw [m2, e6]; rfl) q⟩
  · rw [if_neg e6] at h
    rw [t1]
    refine wm_rule (t := a_r a) (by omega) hA.1 t2 hA.2.1 (by omega) m2 (fun hf sg' ln' cl' cs' nx wr nu tx md dp li op opd f1 f2 f3 => ?_) (fun hf sg' ln' cl' cs' nx wr nu tx md dp li op opd f0 f1 f2 f3 => ?_)
    · rw [if_pos (show p_f (told a) ≠ 0 from hf)] at h
      exact h _ _ _ _ _ _ _ _ _ _ _ _ _ _ _ _ ⟨⟨rfl, fun i hi => absurd hi (Nat.not_lt_zero _)⟩, rfl, fun i hi => mRu_fr (by have hi : i < a_r a := hi; omega) (m3 i hi) f1 f2 f3, m4, m5, m6, m7, m8⟩
    · rw [if_neg (show ¬ p_f (told a) ≠ 0 from fun q => q hf)] at h
      refine h _ _ _ _ _ _ _ _ _ _ _ _ _ _ _ _ ⟨⟨rfl, fun i hi => absurd hi (Nat.not_lt_zero _)⟩, rfl, fun i hi => ?_, m4, m5, m6, m7, m8⟩
      have hi : i < a_r a + 1 := hi
      show mRu sg' cl' cs' i (if i = a_r a then p_d (told a) else a_d a i)
      by_cases e : i = a_r a
      · rw [if_pos e, e]; exact f0
      · rw [if_neg e]; exact mRu_fr e (m3 i (by omega)) f1 f2 f3
theorem rm_lane {Q : Int32 → Int32 → (Nat → Int32) → (Nat → Int32) → (Nat → Int32) → (Nat → Int32) → (Nat → Int32) → Int32 → Int32 → Int32 → Int32 → Int32 → Int32 → Int32 → (Nat → Int32) → Int32 → (Nat → Int32) → Int32 → Prop} {ln rd op : Nat → Int32} {nx wr nu tx md dp li opd : Int32} (hN : 700 ≤ N) (hA : AOk a) (hM : MRel a tp td ru sg cl cs sd fc x ws ud im ifc ix imd)
    (h : ∀ td ln rd nx wr nu tx md dp li op opd sd ud, MRel (F_lane a).2 tp td ru sg cl cs sd fc x ws ud im ifc ix imd → Q (F_lane a).1 td sg ln cl cs rd nx wr nu tx md dp li op opd sd ud) : wp_X12_lane N tp Q td sg ln cl cs rd nx wr nu tx md dp li op opd sd ud := by
  obtain ⟨⟨t1, t2⟩, m2, m3, m4, m5, m6, m7, m8⟩ := hM
  unfold wp_X12_lane
  unfold F_lane at h
  have key : ∀ (n i : Nat) (v1 : Int32) (rd : Nat → Int32), v1 = jn (i : Int) → i ≤ 60 → (∀ j, j < i → rd j = 0) → 60 < n + i → wp_X12_lane_8 N tp Q n v1 td sg ln cl cs rd nx wr nu 6 md dp li op opd sd ud := by
    intro n
    induction n with
    | zero => intro i v1 rd _ h1 _ h2; omega
    | succ n ih =>
      intro i v1 rd e hi h0 hn
      subst e
      unfold wp_X12_lane_8
      rw [show ((60 : Int32) ≤ jn (i : Int)) = (60 ≤ i) from by rw [li_60, jn_le (by omega) (by omega)]; exact propext ⟨fun q => by omega, fun q => by omega⟩]
      refine ⟨fun z => ?_, fun z => ⟨by simp (disch := omega) only [jn_le, jn_lt, jn_eq, jn_in, jn_add, jn_sub, jn_mul, jn_neg, li_0, li_1, li_2, li_3, li_4, li_5, li_6, li_7, li_8, li_9, li_10, li_11, li_12, li_13, li_14, li_15, li_16, li_17, li_18, li_20, li_24, li_29, li_30, li_31, li_32, li_37, li_39, li_40, li_42, li_43, li_45, li_46, li_47, li_48, li_53, li_57, li_59, li_60, li_61, li_62, li_63, li_80, li_81, li_91, li_93, li_97, li_100, li_122, li_200, li_255, li_256, li_257, li_258, li_259, li_260, li_300, li_314, li_400, li_580, li_999, li_5040, li_9999, li_65536, li_99999, li_7654321] <;> omega, fun a16 e16 => ih (i + 1) _ a16 (by (first | rfl | (simp (disch := omega) only [jn_add, jn_sub, jn_mul, jn_neg, li_0, li_1, li_2, li_3, li_4, li_5, li_6, li_7, li_8, li_9, li_10, li_11, li_12, li_13, li_14, li_15, li_16, li_17, li_18, li_20, li_24, li_29, li_30, li_31, li_32, li_37, li_39, li_40, li_42, li_43, li_45, li_46, li_47, li_48, li_53, li_57, li_59, li_60, li_61, li_62, li_63, li_80, li_81, li_91, li_93, li_97, li_100, li_122, li_200, li_255, li_256, li_257, li_258, li_259, li_260, li_300, li_314, li_400, li_580, li_999, li_5040, li_9999, li_65536, li_99999, li_7654321] <;> first | rfl | exact congrArg jn (by omega)) | exact congrArg jn (by omega))) (by omega) (fun j hj => ?_) (by omega)⟩⟩
      · have hrd : mRd rd 0 l0 := ⟨h0 0 (by omega), fun q => absurd q (by omega), h0 2 (by omega), fun d hd => absurd hd (Nat.not_lt_zero _), fun d hd => absurd hd (Nat.not_lt_zero _), fun d hd => absurd hd (Nat.not_lt_zero _)⟩
        rw [t1]
        refine wm_readsL (by omega) hA.1 t2 hA.2.1 hrd ?_
        cases e : lnP (a_b a) (a_n a) 41 0 0 l0 with
        | inl er =>
          rw [e] at h
          intro ln' rd nx nu md li _
          refine ⟨fun _ => ?_, fun q => absurd rfl q⟩
          rw [show (-2 : Int32) - jn (er : Int) = jn (-2 - (er : Int)) from by rw [show (-2 : Int32) = jn (-2) from rfl, jn_sub]]
          exact h _ _ _ _ _ _ _ _ _ _ _ _ _ _ ⟨⟨rfl, fun i hi => absurd hi (Nat.not_lt_zero _)⟩, m2, m3, m4, m5, m6, m7, m8⟩
        | inr v =>
          rw [e] at h
          have hl := lnP_ok (b := a_b a) hA.1 (Nat.zero_le _) rfl (by decide) (fun q => absurd q (by omega)) (fun _ => rfl) (fun _ => Nat.zero_le _) (fun _ => Nat.zero_le _) (fun _ => Nat.zero_le _) e
          have hk := hl.1.2.2.1
          rintro ln' rd nx nu md li _ ⟨c, hc0, r1, r2, r3, r4, r5, r6⟩
          refine ⟨fun q => absurd q (by decide), fun _ => ?_⟩
          have key2 : ∀ (n j : Nat) (v1 : Int32) (sd' : Nat → Int32), v1 = jn (j : Int) → j ≤ 81 → (∀ q, q < j → sd' q = if q < 60 then rd q else 0) → 81 < n + j → wp_X12_lane_44 N tp Q n v1 0 sg ln' cl cs rd nx 0 nu 6 md dp li op opd sd' ud := by
            intro n
            induction n with
            | zero => intro j v1 sd' _ h1 _ h2; omega
            | succ n ih =>
              intro j v1 sd' e hj hs hn
              subst e
              unfold wp_X12_lane_44 wp_X12_lane_71
              rw [show ((81 : Int32) ≤ jn (j : Int)) = (81 ≤ j) from by rw [li_81, jn_le (by omega) (by omega)]; exact propext ⟨fun q => by omega, fun q => by omega⟩, show ((60 : Int32) ≤ jn (j : Int)) = (60 ≤ j) from by rw [li_60, jn_le (by omega) (by omega)]; exact propext ⟨fun q => by omega, fun q => by omega⟩]
              refine ⟨fun z => ?_, fun z => ⟨fun y => ⟨by simp (disch := omega) only [jn_le, jn_lt, jn_eq, jn_in, jn_add, jn_sub, jn_mul, jn_neg, li_0, li_1, li_2, li_3, li_4, li_5, li_6, li_7, li_8, li_9, li_10, li_11, li_12, li_13, li_14, li_15, li_16, li_17, li_18, li_20, li_24, li_29, li_30, li_31, li_32, li_37, li_39, li_40, li_42, li_43, li_45, li_46, li_47, li_48, li_53, li_57, li_59, li_60, li_61, li_62, li_63, li_80, li_81, li_91, li_93, li_97, li_100, li_122, li_200, li_255, li_256, li_257, li_258, li_259, li_260, li_300, li_314, li_400, li_580, li_999, li_5040, li_9999, li_65536, li_99999, li_7654321] <;> omega, fun a18 e18 => ?_⟩, fun y => ⟨by simp (disch := omega) only [jn_le, jn_lt, jn_eq, jn_in, jn_add, jn_sub, jn_mul, jn_neg, li_0, li_1, li_2, li_3, li_4, li_5, li_6, li_7, li_8, li_9, li_10, li_11, li_12, li_13, li_14, li_15, li_16, li_17, li_18, li_20, li_24, li_29, li_30, li_31, li_32, li_37, li_39, li_40, li_42, li_43, li_45, li_46, li_47, li_48, li_53, li_57, li_59, li_60, li_61, li_62, li_63, li_80, li_81, li_91, li_93, li_97, li_100, li_122, li_200, li_255, li_256, li_257, li_258, li_259, li_260, li_300, li_314, li_400, li_580, li_999, li_5040, li_9999, li_65536, li_99999, li_7654321] <;> omega, by simp (disch := omega) only [jn_le, jn_lt, jn_eq, jn_in, jn_add, jn_sub, jn_mul, jn_neg, li_0, li_1, li_2, li_3, li_4, li_5, li_6, li_7, li_8, li_9, li_10, li_11, li_12, li_13, li_14, li_15, li_16, li_17, li_18, li_20, li_24, li_29, li_30, li_31, li_32, li_37, li_39, li_40, li_42, li_43, li_45, li_46, li_47, li_48, li_53, li_57, li_59, li_60, li_61, li_62, li_63, li_80, li_81, li_91, li_93, li_97, li_100, li_122, li_200, li_255, li_256, li_257, li_258, li_259, li_260, li_300, li_314, li_400, li_580, li_999, li_5040, li_9999, li_65536, li_99999, li_7654321] <;> omega, fun a18 e18 => ?_⟩⟩⟩
              · have e : j = 81 := by omega
                subst e
                have hs6 : ∀ q, q < 60 → sd' q = rd q := fun q hq => by rw [hs q (by omega), if_pos hq]
                have hmL : mL sd' v := by
                  refine ⟨?_, ?_, ?_, fun d hd => ?_, fun d hd => ?_, fun d hd => ?_⟩
                  · rw [hs6 0 (by omega), r1, if_neg (by omega), hl.2]; rfl
                  · rw [hs6 1 (by omega)]; exact r2 hc0
                  · rw [hs6 2 (by omega)]; exact r3
                  · rw [hs6 _ (by omega)]; exact r4 d hd
                  · rw [hs6 _ (by omega)]; exact r5 d hd
                  · rw [hs6 _ (by omega)]; exact r6 d hd
                refine wm_begins (by omega) hl.1 hmL (fun sd2 a1 a2 => ⟨by unfold vp_in; decide, ?_⟩)
                rw [show (2 : Int32).toNatClampNeg = 2 from rfl, show sd2 2 = jn (l_k v : Int) from by rw [a2 2 (by omega)]; exact hmL.2.2.1]
                refine h _ _ _ _ _ _ _ _ _ _ _ _ sd2 0 ⟨⟨rfl, fun i hi => absurd hi (Nat.not_lt_zero _)⟩, m2, m3, ⟨?_, a1, ?_, fun i hi => absurd hi (Nat.not_lt_zero _), fun i hi => absurd hi (Nat.not_lt_zero _)⟩, m5, m6, ⟨rfl, fun i hi => absurd hi (Nat.not_lt_zero _)⟩, m8⟩
                · obtain ⟨q1, q2, q3, q4, q5, q6⟩ := hmL
                  refine ⟨?_, ?_, ?_, fun c hc => ?_, fun c hc => ?_, fun c hc => ?_⟩
                  · rw [a2 0 (by omega)]; exact q1
                  · rw [a2 1 (by omega)]; exact q2
                  · rw [a2 2 (by omega)]; exact q3
                  · have hc : c < l_k v := hc
                    rw [a2 _ (by omega)]; exact q4 c hc
                  · have hc : c < l_k v := hc
                    rw [a2 _ (by omega)]; exact q5 c hc
                  · have hc : c < l_k v := hc
                    rw [a2 _ (by omega)]; exact q6 c hc
                · rw [a2 80 (by omega), hs 80 (by omega)]; rfl
              · rw [jn_cln (by omega)] at e18
                refine ih (j + 1) _ a18 (by (first | rfl | (simp (disch := omega) only [jn_add, jn_sub, jn_mul, jn_neg, li_0, li_1, li_2, li_3, li_4, li_5, li_6, li_7, li_8, li_9, li_10, li_11, li_12, li_13, li_14, li_15, li_16, li_17, li_18, li_20, li_24, li_29, li_30, li_31, li_32, li_37, li_39, li_40, li_42, li_43, li_45, li_46, li_47, li_48, li_53, li_57, li_59, li_60, li_61, li_62, li_63, li_80, li_81, li_91, li_93, li_97, li_100, li_122, li_200, li_255, li_256, li_257, li_258, li_259, li_260, li_300, li_314, li_400, li_580, li_999, li_5040, li_9999, li_65536, li_99999, li_7654321] <;> first | rfl | exact congrArg jn (by omega)) | exact congrArg jn (by omega))) (by omega) (fun q hq => ?_) (by omega)
                by_cases e : q = j
                · rw [e18, e, upd_at, if_neg (by omega)]
                · rw [e18, upd_ne e]; exact hs q (by omega)
              · rw [jn_cln (by omega)] at e18
                refine ih (j + 1) _ a18 (by (first | rfl | (simp (disch := omega) only [jn_add, jn_sub, jn_mul, jn_neg, li_0, li_1, li_2, li_3, li_4, li_5, li_6, li_7, li_8, li_9, li_10, li_11, li_12, li_13, li_14, li_15, li_16, li_17, li_18, li_20, li_24, li_29, li_30, li_31, li_32, li_37, li_39, li_40, li_42, li_43, li_45, li_46, li_47, li_48, li_53, li_57, li_59, li_60, li_61, li_62, li_63, li_80, li_81, li_91, li_93, li_97, li_100, li_122, li_200, li_255, li_256, li_257, li_258, li_259, li_260, li_300, li_314, li_400, li_580, li_999, li_5040, li_9999, li_65536, li_99999, li_7654321] <;> first | rfl | exact congrArg jn (by omega)) | exact congrArg jn (by omega))) (by omega) (fun q hq => ?_) (by omega)
                by_cases e : q = j
                · rw [e18, e, upd_at, if_pos (by omega)]
                · rw [e18, upd_ne e]; exact hs q (by omega)
          exact key2 N 0 _ sd rfl (by omega) (fun q hq => by omega) (by omega)
      · rw [jn_cln (by omega)] at e16
        by_cases e : j = i
        · rw [e16, e, upd_at]
        · rw [e16, upd_ne e]; exact h0 j (by omega)
  exact key N 0 _ rd rfl (by omega) (fun j hj => by omega) (by omega)
theorem mIm_fr {k i : Nat} {o : Option sS} {im' ifc' ix' imd' : Nat → Int32} (hk : k ≠ i) (h : mIm im ifc ix imd k o) (h1 : ∀ j, ¬ (81 * i ≤ j ∧ j < 81 * i + 81) → im' j = im j) (h2 : ∀ j, j ≠ i → ifc' j = ifc j) (h3 : ∀ j, j ≠ i → ix' j = ix j) (h4 : ∀ j, j ≠ i → imd' j = imd j) : mIm im' ifc' ix' imd' k o := by
  cases o with
  | none => show imd' k = 0; rw [h4 k hk]; exact h
  | some s =>
    obtain ⟨q1, q2, q3, sd, q4, q5⟩ := h
    exact ⟨by rw [h4 k hk]; exact q1, by rw [h2 k hk]; exact q2, by rw [h3 k hk]; exact q3, sd, fun j hj => by rw [h1 _ (by omega)]; exact q4 j hj, q5⟩
theorem rm_image {p : Int32} {Q : Int32 → (Nat → Int32) → (Nat → Int32) → (Nat → Int32) → (Nat → Int32) → Prop} (hN : 700 ≤ N) (hM : MRel a tp td ru sg cl cs sd fc x ws ud im ifc ix imd) (h : ∀ im ifc ix imd, MRel (F_image a p).2 tp td ru sg cl cs sd fc x ws ud im ifc ix imd → Q (F_image a p).1 im ifc ix imd) : wp_X12_image N sd fc x Q p im ifc ix imd := by
  have hM' := hM
  obtain ⟨m1, m2, m3, m4, m5, m6, m7, m8⟩ := hM
  obtain ⟨y, rfl, hy⟩ := jn_of p
  unfold wp_X12_image
  unfold F_image at h
  rw [jn_toInt hy] at h
  refine wm_inC (b := 0) (c := 3) rfl rfl rfl hy (by decide) (by decide) (fun q1 => ⟨fun u => absurd u (by decide), fun _ => ?_⟩) (fun q1 => ⟨fun _ => ?_, fun u => absurd rfl u⟩)
  · rw [if_pos q1] at h
    obtain ⟨k, rfl⟩ : ∃ k : Nat, y = k := ⟨y.toNat, by omega⟩
    rw [Int.toNat_natCast] at h
    rw [jn_cln (by omega)]
    refine ⟨by simp (disch := omega) only [jn_le, jn_lt, jn_eq, jn_in, jn_add, jn_sub, jn_mul, jn_neg, li_0, li_1, li_2, li_3, li_4, li_5, li_6, li_7, li_8, li_9, li_10, li_11, li_12, li_13, li_14, li_15, li_16, li_17, li_18, li_20, li_24, li_29, li_30, li_31, li_32, li_37, li_39, li_40, li_42, li_43, li_45, li_46, li_47, li_48, li_53, li_57, li_59, li_60, li_61, li_62, li_63, li_80, li_81, li_91, li_93, li_97, li_100, li_122, li_200, li_255, li_256, li_257, li_258, li_259, li_260, li_300, li_314, li_400, li_580, li_999, li_5040, li_9999, li_65536, li_99999, li_7654321] <;> omega, fun a2 e2 => ⟨by simp (disch := omega) only [jn_le, jn_lt, jn_eq, jn_in, jn_add, jn_sub, jn_mul, jn_neg, li_0, li_1, li_2, li_3, li_4, li_5, li_6, li_7, li_8, li_9, li_10, li_11, li_12, li_13, li_14, li_15, li_16, li_17, li_18, li_20, li_24, li_29, li_30, li_31, li_32, li_37, li_39, li_40, li_42, li_43, li_45, li_46, li_47, li_48, li_53, li_57, li_59, li_60, li_61, li_62, li_63, li_80, li_81, li_91, li_93, li_97, li_100, li_122, li_200, li_255, li_256, li_257, li_258, li_259, li_260, li_300, li_314, li_400, li_580, li_999, li_5040, li_9999, li_65536, li_99999, li_7654321] <;> omega, fun a3 e3 => ⟨by simp (disch := omega) only [jn_le, jn_lt, jn_eq, jn_in, jn_add, jn_sub, jn_mul, jn_neg, li_0, li_1, li_2, li_3, li_4, li_5, li_6, li_7, li_8, li_9, li_10, li_11, li_12, li_13, li_14, li_15, li_16, li_17, li_18, li_20, li_24, li_29, li_30, li_31, li_32, li_37, li_39, li_40, li_42, li_43, li_45, li_46, li_47, li_48, li_53, li_57, li_59, li_60, li_61, li_62, li_63, li_80, li_81, li_91, li_93, li_97, li_100, li_122, li_200, li_255, li_256, li_257, li_258, li_259, li_260, li_300, li_314, li_400, li_580, li_999, li_5040, li_9999, li_65536, li_99999, li_7654321] <;> omega, fun a4 e4 => ?_⟩⟩⟩
    have key : ∀ (n j : Nat) (v2 : Int32) (im' : Nat → Int32), v2 = jn (j : Int) → j ≤ 81 → (∀ q, q < j → im' (81 * k + q) = sd q) → (∀ q, ¬ (81 * k ≤ q ∧ q < 81 * k + 81) → im' q = im q) → 81 < n + j → wp_X12_image_43 N sd fc x Q n (jn (k : Int)) v2 im' a3 a4 a2 := by
      intro n
      induction n with
      | zero => intro j v2 im' _ h1 _ _ h2; omega
      | succ n ih =>
        intro j v2 im' e hj ha hb hn
        subst e
        unfold wp_X12_image_43
        rw [show ((81 : Int32) ≤ jn (j : Int)) = (81 ≤ j) from by rw [li_81, jn_le (by omega) (by omega)]; exact propext ⟨fun q => by omega, fun q => by omega⟩]
        refine ⟨fun z => ⟨by unfold vp_in; decide, ?_⟩, fun z => ?_⟩
        · have e : j = 81 := by omega
          subst e
          rw [show (10 : Int32).toNatClampNeg = 10 from rfl, m4.2.1.1]
          refine h im' a3 a4 a2 ⟨m1, m2, m3, m4, m5, m6, m7, fun i hi => ?_⟩
          show mIm im' a3 a4 a2 i (if i = k then some (a_s a) else a_i a i)
          by_cases e : i = k
          · rw [if_pos e, e]
            exact ⟨by rw [e2, upd_at]; rfl, by rw [e3, upd_at]; exact m5, by rw [e4, upd_at]; exact m6, sd, ha, m4⟩
          · rw [if_neg e]
            exact mIm_fr e (m8 i hi) hb (fun j hj => by rw [e3, upd_ne hj]) (fun j hj => by rw [e4, upd_ne hj]) (fun j hj => by rw [e2, upd_ne hj])
        · rw [show (81 : Int32) * jn (k : Int) + jn (j : Int) = jn ((81 * k + j : Nat) : Int) from by (first | rfl | (simp (disch := omega) only [jn_add, jn_sub, jn_mul, jn_neg, li_0, li_1, li_2, li_3, li_4, li_5, li_6, li_7, li_8, li_9, li_10, li_11, li_12, li_13, li_14, li_15, li_16, li_17, li_18, li_20, li_24, li_29, li_30, li_31, li_32, li_37, li_39, li_40, li_42, li_43, li_45, li_46, li_47, li_48, li_53, li_57, li_59, li_60, li_61, li_62, li_63, li_80, li_81, li_91, li_93, li_97, li_100, li_122, li_200, li_255, li_256, li_257, li_258, li_259, li_260, li_300, li_314, li_400, li_580, li_999, li_5040, li_9999, li_65536, li_99999, li_7654321] <;> first | rfl | exact congrArg jn (by omega)) | exact congrArg jn (by omega)), jn_cln (by omega), jn_cln (by omega)]
          refine ⟨by simp (disch := omega) only [jn_le, jn_lt, jn_eq, jn_in, jn_add, jn_sub, jn_mul, jn_neg, li_0, li_1, li_2, li_3, li_4, li_5, li_6, li_7, li_8, li_9, li_10, li_11, li_12, li_13, li_14, li_15, li_16, li_17, li_18, li_20, li_24, li_29, li_30, li_31, li_32, li_37, li_39, li_40, li_42, li_43, li_45, li_46, li_47, li_48, li_53, li_57, li_59, li_60, li_61, li_62, li_63, li_80, li_81, li_91, li_93, li_97, li_100, li_122, li_200, li_255, li_256, li_257, li_258, li_259, li_260, li_300, li_314, li_400, li_580, li_999, li_5040, li_9999, li_65536, li_99999, li_7654321] <;> omega, by simp (disch := omega) only [jn_le, jn_lt, jn_eq, jn_in, jn_add, jn_sub, jn_mul, jn_neg, li_0, li_1, li_2, li_3, li_4, li_5, li_6, li_7, li_8, li_9, li_10, li_11, li_12, li_13, li_14, li_15, li_16, li_17, li_18, li_20, li_24, li_29, li_30, li_31, li_32, li_37, li_39, li_40, li_42, li_43, li_45, li_46, li_47, li_48, li_53, li_57, li_59, li_60, li_61, li_62, li_63, li_80, li_81, li_91, li_93, li_97, li_100, li_122, li_200, li_255, li_256, li_257, li_258, li_259, li_260, li_300, li_314, li_400, li_580, li_999, li_5040, li_9999, li_65536, li_99999, li_7654321] <;> omega, fun a5 e5 => ih (j + 1) _ a5 (by (first | rfl | (simp (disch := omega) only [jn_add, jn_sub, jn_mul, jn_neg, li_0, li_1, li_2, li_3, li_4, li_5, li_6, li_7, li_8, li_9, li_10, li_11, li_12, li_13, li_14, li_15, li_16, li_17, li_18, li_20, li_24, li_29, li_30, li_31, li_32, li_37, li_39, li_40, li_42, li_43, li_45, li_46, li_47, li_48, li_53, li_57, li_59, li_60, li_61, li_62, li_63, li_80, li_81, li_91, li_93, li_97, li_100, li_122, li_200, li_255, li_256, li_257, li_258, li_259, li_260, li_300, li_314, li_400, li_580, li_999, li_5040, li_9999, li_65536, li_99999, li_7654321] <;> first | rfl | exact congrArg jn (by omega)) | exact congrArg jn (by omega))) (by omega) (fun q hq => ?_) (fun q hq => ?_) (by omega)⟩
          · by_cases e : q = j
            · rw [e5, e, upd_at]
            · rw [e5, upd_ne (by omega)]; exact ha q (by omega)
          · rw [e5, upd_ne (by omega)]; exact hb q hq
    exact key N 0 _ im rfl (by omega) (fun q hq => by omega) (fun _ _ => rfl) (by omega)
  · rw [if_neg q1] at h; exact h _ _ _ _ hM'
theorem rm_back {p : Int32} {Q : Int32 → (Nat → Int32) → Int32 → Int32 → Int32 → Prop} (hN : 700 ≤ N) (hA : AOk a) (hM : MRel a tp td ru sg cl cs sd fc x ws ud im ifc ix imd) (h : ∀ sd fc x ud, MRel (F_back a p).2 tp td ru sg cl cs sd fc x ws ud im ifc ix imd → Q (F_back a p).1 sd fc x ud) : wp_X12_back N im ifc ix imd Q p sd fc x ud := by
  have hM' := hM
  obtain ⟨m1, m2, m3, m4, m5, m6, m7, m8⟩ := hM
  obtain ⟨y, rfl, hy⟩ := jn_of p
  unfold wp_X12_back wp_X12_back_21
  unfold F_back at h
  rw [jn_toInt hy] at h
  refine wm_inC (b := 0) (c := 3) rfl rfl rfl hy (by decide) (by decide) (fun q1 => ⟨fun u => absurd u (by decide), fun _ => ?_⟩) (fun q1 => ⟨fun _ => ?_, fun u => absurd rfl u⟩)
  · rw [if_pos q1] at h
    obtain ⟨k, rfl⟩ : ∃ k : Nat, y = k := ⟨y.toNat, by omega⟩
    rw [Int.toNat_natCast] at h
    rw [jn_cln (by omega)]
    refine ⟨by simp (disch := omega) only [jn_le, jn_lt, jn_eq, jn_in, jn_add, jn_sub, jn_mul, jn_neg, li_0, li_1, li_2, li_3, li_4, li_5, li_6, li_7, li_8, li_9, li_10, li_11, li_12, li_13, li_14, li_15, li_16, li_17, li_18, li_20, li_24, li_29, li_30, li_31, li_32, li_37, li_39, li_40, li_42, li_43, li_45, li_46, li_47, li_48, li_53, li_57, li_59, li_60, li_61, li_62, li_63, li_80, li_81, li_91, li_93, li_97, li_100, li_122, li_200, li_255, li_256, li_257, li_258, li_259, li_260, li_300, li_314, li_400, li_580, li_999, li_5040, li_9999, li_65536, li_99999, li_7654321] <;> omega, ?_⟩
    have hk := m8 k (by omega)
    cases e : a_i a k with
    | none =>
      rw [e] at h hk
      exact ⟨fun _ => h _ _ _ _ hM', fun q => absurd hk q⟩
    | some s =>
      rw [e] at h hk
      obtain ⟨k1, k2, k3, sd0, k4, k5⟩ := hk
      obtain ⟨z1, z2, -⟩ := hA.2.2.2.2.2.2.2 k (by omega) s e
      have zk := z1.2.2.1
      refine ⟨fun q => by rw [k1] at q; exact absurd q (by decide), fun _ => ⟨by simp (disch := omega) only [jn_le, jn_lt, jn_eq, jn_in, jn_add, jn_sub, jn_mul, jn_neg, li_0, li_1, li_2, li_3, li_4, li_5, li_6, li_7, li_8, li_9, li_10, li_11, li_12, li_13, li_14, li_15, li_16, li_17, li_18, li_20, li_24, li_29, li_30, li_31, li_32, li_37, li_39, li_40, li_42, li_43, li_45, li_46, li_47, li_48, li_53, li_57, li_59, li_60, li_61, li_62, li_63, li_80, li_81, li_91, li_93, li_97, li_100, li_122, li_200, li_255, li_256, li_257, li_258, li_259, li_260, li_300, li_314, li_400, li_580, li_999, li_5040, li_9999, li_65536, li_99999, li_7654321] <;> omega, by simp (disch := omega) only [jn_le, jn_lt, jn_eq, jn_in, jn_add, jn_sub, jn_mul, jn_neg, li_0, li_1, li_2, li_3, li_4, li_5, li_6, li_7, li_8, li_9, li_10, li_11, li_12, li_13, li_14, li_15, li_16, li_17, li_18, li_20, li_24, li_29, li_30, li_31, li_32, li_37, li_39, li_40, li_42, li_43, li_45, li_46, li_47, li_48, li_53, li_57, li_59, li_60, li_61, li_62, li_63, li_80, li_81, li_91, li_93, li_97, li_100, li_122, li_200, li_255, li_256, li_257, li_258, li_259, li_260, li_300, li_314, li_400, li_580, li_999, li_5040, li_9999, li_65536, li_99999, li_7654321] <;> omega, ?_⟩⟩
      have key : ∀ (n j : Nat) (v2 : Int32) (sd' : Nat → Int32), v2 = jn (j : Int) → j ≤ 81 → (∀ q, q < j → sd' q = sd0 q) → 81 < n + j → wp_X12_back_50 N im ifc ix imd Q n (jn (k : Int)) v2 sd' (ifc k) (ix k) 0 := by
        intro n
        induction n with
        | zero => intro j v2 sd' _ h1 _ h2; omega
        | succ n ih =>
          intro j v2 sd' e hj ha hn
          subst e
          unfold wp_X12_back_50
          rw [show ((81 : Int32) ≤ jn (j : Int)) = (81 ≤ j) from by rw [li_81, jn_le (by omega) (by omega)]; exact propext ⟨fun q => by omega, fun q => by omega⟩]
          refine ⟨fun z => ⟨by unfold vp_in; decide, ?_⟩, fun z => ?_⟩
          · have e : j = 81 := by omega
            subst e
            rw [show (10 : Int32).toNatClampNeg = 10 from rfl, ha 10 (by omega), k5.2.1.1]
            refine h sd' _ _ _ ⟨m1, m2, m3, ⟨?_, ?_, ?_⟩, k2, k3, ⟨rfl, fun i hi => absurd hi (Nat.not_lt_zero _)⟩, m8⟩
            · obtain ⟨⟨q1, q2, q3, q4, q5, q6⟩, -, -⟩ := k5
              refine ⟨?_, ?_, ?_, fun c hc => ?_, fun c hc => ?_, fun c hc => ?_⟩
              · rw [ha 0 (by omega)]; exact q1
              · rw [ha 1 (by omega)]; exact q2
              · rw [ha 2 (by omega)]; exact q3
              · have hc : c < l_k (s_l s) := hc
                rw [ha _ (by omega)]; exact q4 c hc
              · have hc : c < l_k (s_l s) := hc
                rw [ha _ (by omega)]; exact q5 c hc
              · have hc : c < l_k (s_l s) := hc
                rw [ha _ (by omega)]; exact q6 c hc
            · obtain ⟨-, ⟨q1, q2, q3, q4, q5⟩, -⟩ := k5
              refine ⟨?_, fun c hc => ?_, fun c hc => ?_, fun c hc => ?_, fun c hc => ?_⟩
              · rw [ha 10 (by omega)]; exact q1
              · have hc : c < l_k (s_l s) := hc
                rw [ha _ (by omega)]; exact q2 c hc
              · have hc : c < l_k (s_l s) := hc
                rw [ha _ (by omega)]; exact q3 c hc
              · have hc : c < l_k (s_l s) := hc
                have := z2.1.1 c hc
                have hx : 13 + 4 * g_o (s_g s) c < 81 := by omega
                exact (ha _ hx).trans (q4 c hc)
              · have hc : c < l_k (s_l s) := hc
                rw [ha _ (by omega)]; exact q5 c hc
            · obtain ⟨-, -, q1, q2, q3⟩ := k5
              have hv := (hA.2.2.2.2.2.2.2 k (by omega) s (by assumption)).2.2.1.1
              refine ⟨?_, fun i hi => ?_, fun i hi => ?_⟩
              · rw [ha 80 (by omega)]; exact q1
              · have hi : i < n_m (s_n s) := hi
                rw [ha _ (by omega)]; exact q2 i hi
              · have hi : i < n_m (s_n s) := hi
                rw [ha _ (by omega)]; exact q3 i hi
          · rw [show (81 : Int32) * jn (k : Int) + jn (j : Int) = jn ((81 * k + j : Nat) : Int) from by (first | rfl | (simp (disch := omega) only [jn_add, jn_sub, jn_mul, jn_neg, li_0, li_1, li_2, li_3, li_4, li_5, li_6, li_7, li_8, li_9, li_10, li_11, li_12, li_13, li_14, li_15, li_16, li_17, li_18, li_20, li_24, li_29, li_30, li_31, li_32, li_37, li_39, li_40, li_42, li_43, li_45, li_46, li_47, li_48, li_53, li_57, li_59, li_60, li_61, li_62, li_63, li_80, li_81, li_91, li_93, li_97, li_100, li_122, li_200, li_255, li_256, li_257, li_258, li_259, li_260, li_300, li_314, li_400, li_580, li_999, li_5040, li_9999, li_65536, li_99999, li_7654321] <;> first | rfl | exact congrArg jn (by omega)) | exact congrArg jn (by omega)), jn_cln (by omega), jn_cln (by omega)]
            refine ⟨by simp (disch := omega) only [jn_le, jn_lt, jn_eq, jn_in, jn_add, jn_sub, jn_mul, jn_neg, li_0, li_1, li_2, li_3, li_4, li_5, li_6, li_7, li_8, li_9, li_10, li_11, li_12, li_13, li_14, li_15, li_16, li_17, li_18, li_20, li_24, li_29, li_30, li_31, li_32, li_37, li_39, li_40, li_42, li_43, li_45, li_46, li_47, li_48, li_53, li_57, li_59, li_60, li_61, li_62, li_63, li_80, li_81, li_91, li_93, li_97, li_100, li_122, li_200, li_255, li_256, li_257, li_258, li_259, li_260, li_300, li_314, li_400, li_580, li_999, li_5040, li_9999, li_65536, li_99999, li_7654321] <;> omega, by simp (disch := omega) only [jn_le, jn_lt, jn_eq, jn_in, jn_add, jn_sub, jn_mul, jn_neg, li_0, li_1, li_2, li_3, li_4, li_5, li_6, li_7, li_8, li_9, li_10, li_11, li_12, li_13, li_14, li_15, li_16, li_17, li_18, li_20, li_24, li_29, li_30, li_31, li_32, li_37, li_39, li_40, li_42, li_43, li_45, li_46, li_47, li_48, li_53, li_57, li_59, li_60, li_61, li_62, li_63, li_80, li_81, li_91, li_93, li_97, li_100, li_122, li_200, li_255, li_256, li_257, li_258, li_259, li_260, li_300, li_314, li_400, li_580, li_999, li_5040, li_9999, li_65536, li_99999, li_7654321] <;> omega, fun a2 e2 => ih (j + 1) _ a2 (by (first | rfl | (simp (disch := omega) only [jn_add, jn_sub, jn_mul, jn_neg, li_0, li_1, li_2, li_3, li_4, li_5, li_6, li_7, li_8, li_9, li_10, li_11, li_12, li_13, li_14, li_15, li_16, li_17, li_18, li_20, li_24, li_29, li_30, li_31, li_32, li_37, li_39, li_40, li_42, li_43, li_45, li_46, li_47, li_48, li_53, li_57, li_59, li_60, li_61, li_62, li_63, li_80, li_81, li_91, li_93, li_97, li_100, li_122, li_200, li_255, li_256, li_257, li_258, li_259, li_260, li_300, li_314, li_400, li_580, li_999, li_5040, li_9999, li_65536, li_99999, li_7654321] <;> first | rfl | exact congrArg jn (by omega)) | exact congrArg jn (by omega))) (by omega) (fun q hq => ?_) (by omega)⟩
            by_cases e : q = j
            · rw [e2, e, upd_at]; exact k4 j (by omega)
            · rw [e2, upd_ne e]; exact ha q (by omega)
      exact key N 0 _ sd rfl (by omega) (fun q hq => by omega) (by omega)
  · rw [if_neg q1] at h; exact h _ _ _ _ hM'
theorem rm_child {p w : Int32} {Q : Int32 → Prop} (hN : 20 ≤ N) (hA : AOk a) (hM : mSd sd (a_s a)) (h : Q (F_child a p w).1) : wp_X12_child N sd Q p w := by
  obtain ⟨m4, m4b, -⟩ := hM
  obtain ⟨s1, s2, s3, s4, s5, s6⟩ := AOk_s hA
  have hk := s1.2.2.1
  unfold wp_X12_child
  unfold F_child at h
  refine wm_isCh hk m4.2.2.1 (fun hno => ⟨fun _ => ?_, fun q => absurd rfl q⟩) (fun c hc hs hx => ⟨fun q => absurd q (by decide), fun _ => ?_⟩)
  · rw [hno] at h; exact h
  rw [hs] at h
  dsimp only at h
  subst hx
  refine ⟨fun z => ?_, fun z => ⟨fun z1 => ?_, fun z1 => ⟨fun z2 => ?_, fun z2 => ⟨fun z3 => ?_, fun z3 => ⟨fun z4 => ?_, fun z4 => ⟨fun z5 => ?_, fun z5 => ?_⟩⟩⟩⟩⟩⟩
  · rw [if_pos z] at h
    refine wm_backOf rfl (by omega) ?_
    rw [m4b.2.1 c hc]; exact h
  · rw [if_neg z, if_pos z1] at h
    rw [show (39 : Int32) + jn (c : Int) = jn ((39 + c : Nat) : Int) from by (first | rfl | (simp (disch := omega) only [jn_add, jn_sub, jn_mul, jn_neg, li_0, li_1, li_2, li_3, li_4, li_5, li_6, li_7, li_8, li_9, li_10, li_11, li_12, li_13, li_14, li_15, li_16, li_17, li_18, li_20, li_24, li_29, li_30, li_31, li_32, li_37, li_39, li_40, li_42, li_43, li_45, li_46, li_47, li_48, li_53, li_57, li_59, li_60, li_61, li_62, li_63, li_80, li_81, li_91, li_93, li_97, li_100, li_122, li_200, li_255, li_256, li_257, li_258, li_259, li_260, li_300, li_314, li_400, li_580, li_999, li_5040, li_9999, li_65536, li_99999, li_7654321] <;> first | rfl | exact congrArg jn (by omega)) | exact congrArg jn (by omega)), jn_cln (by omega), m4.2.2.2.1 c hc]
    exact ⟨by simp (disch := omega) only [jn_le, jn_lt, jn_eq, jn_in, jn_add, jn_sub, jn_mul, jn_neg, li_0, li_1, li_2, li_3, li_4, li_5, li_6, li_7, li_8, li_9, li_10, li_11, li_12, li_13, li_14, li_15, li_16, li_17, li_18, li_20, li_24, li_29, li_30, li_31, li_32, li_37, li_39, li_40, li_42, li_43, li_45, li_46, li_47, li_48, li_53, li_57, li_59, li_60, li_61, li_62, li_63, li_80, li_81, li_91, li_93, li_97, li_100, li_122, li_200, li_255, li_256, li_257, li_258, li_259, li_260, li_300, li_314, li_400, li_580, li_999, li_5040, li_9999, li_65536, li_99999, li_7654321] <;> omega, h⟩
  · rw [if_neg z, if_neg z1, if_pos z2] at h
    refine wm_breathOf rfl (by omega) ?_
    rw [m4b.2.2.1 c hc]; exact h
  · rw [if_neg z, if_neg z1, if_neg z2, if_pos z3] at h
    refine wm_placeOf rfl (by omega) ?_
    rw [mG_plc s2 m4b hc]; exact h
  · rw [if_neg z, if_neg z1, if_neg z2, if_neg z3, if_pos z4] at h
    exact wm_overOf (by omega) s1 s2 m4 m4b rfl hc h
  · rw [if_neg z, if_neg z1, if_neg z2, if_neg z3, if_neg z4, if_pos z5] at h
    refine wm_leaptOf rfl (by omega) ?_
    rw [m4b.2.2.2.2 c hc]; exact h
  · rw [if_neg z, if_neg z1, if_neg z2, if_neg z3, if_neg z4, if_neg z5] at h; exact h
theorem rm_order {Q : Int32 → Prop} (hN : 20 ≤ N) (hA : AOk a) (hM : mSd sd (a_s a)) (h : Q (F_order a).1) : wp_X12_order N sd Q := by
  obtain ⟨m4, m4b, -⟩ := hM
  obtain ⟨s1, s2, s3, s4, s5, s6⟩ := AOk_s hA
  have hl1 := s1.1
  unfold wp_X12_order wp_X12_order_15
  unfold F_order at h
  refine wm_isLane hl1 m4.1 ⟨fun z => ?_, fun z => ?_⟩
  · rw [li_0, jn_eq (by omega) (by omega)] at z
    rw [if_pos (by omega)] at h; exact h
  · rw [li_0, jn_eq (by omega) (by omega)] at z
    rw [if_neg (by omega)] at h
    exact wm_orderNow (by omega) s1 s2 m4 m4b h
theorem rm_count {p : Int32} {Q : Int32 → Prop} (hN : 20 ≤ N) (hA : AOk a) (hM : MRel a tp td ru sg cl cs sd fc x ws ud im ifc ix imd) (h : Q (F_count a p).1) : wp_X12_count N td ru sd fc x ud Q p := by
  obtain ⟨⟨t1, -⟩, m2, m3, ⟨m4, m4b, m4c⟩, m5, m6, ⟨m7, -⟩, m8⟩ := hM
  obtain ⟨s1, s2, s3, s4, s5, s6⟩ := AOk_s hA
  unfold wp_X12_count
  unfold F_count at h
  dsimp only at h
  refine ⟨fun z => ?_, fun z => ⟨fun z1 => ?_, fun z1 => ⟨fun z2 => ?_, fun z2 => ⟨fun z3 => ?_, fun z3 => ⟨fun z4 => ?_, fun z4 => ⟨fun z5 => ?_, fun z5 => ⟨fun z6 => ?_, fun z6 => ⟨fun z7 => ?_, fun z7 => ⟨fun z8 => ?_, fun z8 => ⟨fun z9 => ?_, fun z9 => ⟨fun z10 => ?_, fun z10 => ⟨fun z11 => ?_, fun z11 => ?_⟩⟩⟩⟩⟩⟩⟩⟩⟩⟩⟩⟩
  · rw [if_pos z] at h
    subst z
    refine ⟨by unfold vp_in; decide, ?_⟩
    rw [show ((0 : Int32) + 1).toNatClampNeg = 1 from rfl, m4.2.1]; exact h
  · rw [if_neg z, if_pos z1] at h
    subst z1
    refine ⟨by unfold vp_in; decide, ?_⟩
    rw [show ((1 : Int32) + 1).toNatClampNeg = 2 from rfl, m4.2.2.1]; exact h
  · rw [if_neg z, if_neg z1, if_pos z2] at h; rw [m2]; exact h
  · rw [if_neg z, if_neg z1, if_neg z2, if_pos z3] at h; rw [m5]; exact h
  · rw [if_neg z, if_neg z1, if_neg z2, if_neg z3, if_pos z4] at h
    refine ⟨by unfold vp_in; decide, ?_⟩
    rw [show (10 : Int32).toNatClampNeg = 10 from rfl, m4b.1]; exact h
  · rw [if_neg z, if_neg z1, if_neg z2, if_neg z3, if_neg z4, if_pos z5] at h
    exact wm_canOnes (by omega) s1 s2 m4 m4b h
  · rw [if_neg z, if_neg z1, if_neg z2, if_neg z3, if_neg z4, if_neg z5, if_pos z6] at h
    exact wm_fi0 (by omega) s1 s2 m4 m4b h
  · rw [if_neg z, if_neg z1, if_neg z2, if_neg z3, if_neg z4, if_neg z5, if_neg z6, if_pos z7] at h
    exact wm_leaptAll (by omega) s1 m4 m4b h
  · rw [if_neg z, if_neg z1, if_neg z2, if_neg z3, if_neg z4, if_neg z5, if_neg z6, if_neg z7, if_pos z8] at h
    refine ⟨by unfold vp_in; decide, ?_⟩
    rw [show (80 : Int32).toNatClampNeg = 80 from rfl, m4c.1]; exact h
  · rw [if_neg z, if_neg z1, if_neg z2, if_neg z3, if_neg z4, if_neg z5, if_neg z6, if_neg z7, if_neg z8, if_pos z9] at h; rw [m7]; exact h
  · rw [if_neg z, if_neg z1, if_neg z2, if_neg z3, if_neg z4, if_neg z5, if_neg z6, if_neg z7, if_neg z8, if_neg z9, if_pos z10] at h; rw [m6]; exact h
  · rw [if_neg z, if_neg z1, if_neg z2, if_neg z3, if_neg z4, if_neg z5, if_neg z6, if_neg z7, if_neg z8, if_neg z9, if_neg z10, if_pos z11] at h; rw [t1]; exact h
  · rw [if_neg z, if_neg z1, if_neg z2, if_neg z3, if_neg z4, if_neg z5, if_neg z6, if_neg z7, if_neg z8, if_neg z9, if_neg z10, if_neg z11] at h; exact h
end MCB
