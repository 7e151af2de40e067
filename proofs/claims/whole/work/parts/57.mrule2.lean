/-! the reference reads a rule: clause by clause -/
section MRB
variable {N n : Nat} {b : Nat → Int} {bt : Nat → Int32} {t : Nat}
theorem itr_fr (hn : n ≤ 400) : ∀ m, p_f (itr b n m s00) < 4000
  | 0 => by show 0 < 4000; omega
  | m + 1 => by
    rw [itr_succ]
    have h := itr_fr hn m
    rcases itr_Inv (b := b) (n := n) m with z | z
    · have e : stp b n (itr b n m s00) = itr b n m s00 := by unfold stp; rw [if_pos (Or.inl z)]
      rw [e]; exact h
    · exact stp_fr h z.1.1 hn
theorem mC_nil {sg ln : Nat → Int32} (h : ln t = 0) : mC t sg ln (fm (p_d s00)) := ⟨fun i v hv => (by cases hv), h⟩
theorem wm_readsR {Q : Int32 → Int32 → (Nat → Int32) → (Nat → Int32) → (Nat → Int32) → (Nat → Int32) → (Nat → Int32) → Int32 → Int32 → Int32 → Int32 → Int32 → Int32 → (Nat → Int32) → Int32 → Prop} {sg ln cl cs rd op : Nat → Int32} {tx nx wr nu md dp li opd : Int32} (hN : 500 ≤ N) (hn : n ≤ 400) (hB : ∀ i, i < n → bt i = jn (b i)) (bB : ∀ i, -128 ≤ b i ∧ b i ≤ 127) (ht : t < 6) (htx : tx = jn t) (hcs : cs t = 0)
    (h0 : p_f (itr b n 401 s00) ≠ 0 → ∀ sg' ln' cl' cs' nx nu md dp li op opd, mFr t sg ln sg' ln' → mFk t cl cl' → (∀ j, j ≠ t → cs' j = cs j) → Q 0 0 sg' ln' cl' cs' rd nx (jn (p_f (itr b n 401 s00))) nu md dp li op opd)
    (h1 : p_f (itr b n 401 s00) = 0 → ∀ sg' ln' cl' cs' nx nu md dp li op opd, mRu sg' cl' cs' t (p_d (itr b n 401 s00)) → mFr t sg ln sg' ln' → mFk t cl cl' → (∀ j, j ≠ t → cs' j = cs j) → Q 1 0 sg' ln' cl' cs' rd nx 0 nu md dp li op opd) : wp_X12_readsAll N bt tx Q (jn n) sg ln cl cs rd nx wr nu md dp li op opd := by
  unfold wp_X12_readsAll
  subst htx
  refine ⟨by simp (disch := omega) only [jn_le, jn_lt, jn_eq, jn_in, jn_add, jn_sub, jn_mul, jn_neg, li_0, li_1, li_2, li_3, li_4, li_5, li_6, li_7, li_8, li_9, li_10, li_11, li_12, li_13, li_14, li_15, li_16, li_17, li_18, li_20, li_24, li_29, li_30, li_31, li_32, li_37, li_39, li_40, li_42, li_43, li_45, li_46, li_47, li_48, li_53, li_57, li_59, li_60, li_61, li_62, li_63, li_80, li_81, li_91, li_93, li_97, li_100, li_122, li_200, li_255, li_256, li_257, li_258, li_259, li_260, li_300, li_314, li_400, li_580, li_999, li_5040, li_9999, li_65536, li_99999, li_7654321] <;> omega, fun a1 e1 => ?_⟩
  rw [jn_cln (by omega)] at e1
  have hln : ∀ i, i ≠ t → a1 i = ln i := by
    intro i hi; rw [e1, upd_ne hi]
  have fr : ∀ {sg' ln'}, mFr t sg a1 sg' ln' → mFr t sg ln sg' ln' := fun g => ⟨g.1, fun j hj => (g.2 j hj).trans (hln j hj)⟩
  have bad : ∀ m s' sg' ln' cl' cs' nx nu md dp li op opd, RnS b n s00 s' → p_f s' ≠ 0 → mFr t sg a1 sg' ln' → mFk t cl cl' → (∀ j, j ≠ t → cs' j = cs j) → wp_X12_readsAll_35 N bt (jn t) Q (m + 1) 0 (jn n) sg' ln' cl' cs' rd nx (jn (p_f s')) nu md dp li op opd := by
    intro m s' sg' ln' cl' cs' nx nu md dp li op opd r z g1 g2 g3
    have e := itr_fin hn r (Or.inl z)
    have hr := itr_fr (b := b) hn 401
    rw [e] at h0 hr
    unfold wp_X12_readsAll_35 wp_X12_readsAll_66 wp_X12_readsAll_88 wp_X12_readsAll_105
    refine ⟨fun _ => ⟨fun _ => ⟨fun y => ?_, fun _ => ⟨Or.inl rfl, h0 z _ _ _ _ _ _ _ _ _ _ _ (fr g1) g2 g3⟩⟩, fun y => absurd rfl y⟩, fun y => absurd rfl y⟩
    rw [li_0, jn_eq (by omega) (by omega)] at y
    omega
  have key : ∀ (m : Nat) (s' : pS) (sg' ln' cl' cs' op : Nat → Int32) (a' : Nat) (nu dp opd : Int32), RnS b n s00 s' → Inv n s' → p_f s' = 0 → stp b n s' = tkE b n s' → (p_s s' = 3 ∨ p_s s' = 4) → mC t sg' ln' (fm (p_d s' ++ [clE s'])) → mFr t sg a1 sg' ln' → mFk t cl cl' → mCs t cl' (p_d s' ++ [clE s']) → cs' t = jn ((p_d s').length + 1 : Nat) → (∀ j, j ≠ t → cs' j = cs j) → a' ≤ n → skp b n a' = skp b n (p_a s') → 14 < m + p_c s' → wp_X12_readsAll_35 N bt (jn t) Q m 1 (jn n) sg' ln' cl' cs' rd (jn a') 0 nu (jn (p_v s')) dp (jn (p_c s')) op opd := by
    intro m
    induction m with
    | zero => intro s' _ _ _ _ _ _ _ _ _ _ hI _ _ _ _ _ _ _ _ _ _ _ h2; have := hI.2.2.2.2.1; omega
    | succ m ih =>
      intro s' sg' ln' cl' cs' op a' nu dp opd r hI hf hst hs hC g1 g2 g3 g4 g5 ha hsa hm
      have hsk := skp_le (b := b) ha
      have hss := skp_skp (b := b) ha
      rw [hsa] at hsk hss
      have hen := en_le (b := b) hsk.2
      have hc12 := hI.2.2.2.2.1
      have hin : inC s' = 1 := by unfold inC; rw [if_neg (by omega)]
      have hlc : (p_d s').length + 1 = p_c s' := by have := hI.2.2.2.2.2.2.1; omega
      obtain ⟨m, rfl⟩ : ∃ m', m = m' + 1 := ⟨m - 1, by omega⟩
      unfold wp_X12_readsAll_35
      refine ⟨fun z => absurd z (by decide), fun _ => ?_⟩
      refine wm_see hN hn hB bB ha rfl ?_
      rw [hsa, show (59 : Int32) = jn (59 : Nat) from rfl, see_mark bB (by omega) (by omega) (by omega) (by omega)]
      refine ⟨fun z => ?_, fun z => ?_⟩
      · have he := en_mark bB (by omega) (by omega) (by omega) (by omega) z
        rw [show jn (skp b n (p_a s') : Int) + (1 : Int32) = jn (en b n (skp b n (p_a s')) : Int) by rw [he]; exact by (first | rfl | (simp (disch := omega) only [jn_add, jn_sub, jn_mul, jn_neg, li_0, li_1, li_2, li_3, li_4, li_5, li_6, li_7, li_8, li_9, li_10, li_11, li_12, li_13, li_14, li_15, li_16, li_17, li_18, li_20, li_24, li_29, li_30, li_31, li_32, li_37, li_39, li_40, li_42, li_43, li_45, li_46, li_47, li_48, li_53, li_57, li_59, li_60, li_61, li_62, li_63, li_80, li_81, li_91, li_93, li_97, li_100, li_122, li_200, li_255, li_256, li_257, li_258, li_259, li_260, li_300, li_314, li_400, li_580, li_999, li_5040, li_9999, li_65536, li_99999, li_7654321] <;> first | rfl | exact congrArg jn (by omega)) | exact congrArg jn (by omega))]
        have es : stp b n s' = mkP (at1 b n s') 0 (p_k s') (p_c s') (p_v s') (p_t s') (p_d s' ++ [clE s']) [] [] (popG 1 (p_p s') (p_w s')).1 0 := by
          rw [hst]; unfold tkE
          rw [if_neg (fun y => y.1 z), if_pos (show sg0 b n s' = 59 from z)]; rfl
        have pf : p_f (stp b n s') = 0 := by rw [es]; rfl
        have i3 := (stp_Inv hI hf (by omega) pf).1
        have hd' : p_d (stp b n s') = p_d s' ++ [clE s'] := by rw [es]; rfl
        have hl' : (p_d s' ++ [clE s']).length = (p_d s').length + 1 := by rw [List.length_append, List.length_singleton]
        have hc' : p_c (stp b n s') = p_c s' := by rw [es]; rfl
        refine wm_clauseR (s := stp b n s') hN hn hB bB ht rfl hen.2 rfl (by rw [es]; rfl) (by rw [es]; rfl) (by rw [hc']) i3 pf (by rw [es]; rfl) (by rw [hd']; exact hC) (by rw [hd', hl']; exact g4) (fun s2 r2 z2 sg2 ln2 cl2 nx2 nu2 md2 dp2 li2 op2 opd2 k1 k2 => ?_) (fun s2 r2 i2 f2 d2 st2 c2 l2 ss2 sg2 ln2 cl2 cs2 a2 nu2 dp2 op2 opd2 k1 k2 k3 k4 k5 k6 k7 k8 => ?_)
        · refine bad _ s2 _ _ _ _ _ _ _ _ _ _ _ (RnS_trans (RnS_step r) r2) z2 (mFr_trans g1 k1) ?_ g5
          rw [hd', hl'] at k2
          rcases k2 with k2 | k2
          · rw [k2]; exact g2
          · intro j hj; rw [k2.1 j (by omega)]; exact g2 j hj
        · rw [hd', hl'] at l2 k5
          rw [hd'] at d2 k1 k3 k4
          rw [show p_c (stp b n s') + 1 = p_c s2 from c2.symm]
          refine ih s2 sg2 ln2 cl2 cs2 op2 a2 nu2 dp2 opd2 (RnS_trans (RnS_step r) r2) i2 f2 st2 ss2 ?_ (mFr_trans g1 k2) ?_ ?_ ?_ (fun j hj => (k6 j hj).trans (g5 j hj)) k7 k8 (by omega)
          · rw [d2]; exact k1
          · rw [hl'] at k3
            intro j hj; rw [k3 j (by omega)]; exact g2 j hj
          · rw [d2]; exact mCs_add g3 k3 k4
          · rw [d2, hl']; exact k5
      · unfold wp_X12_readsAll_66
        refine ⟨fun y => absurd y (by decide), fun _ => ?_⟩
        refine wm_see hN hn hB bB hsk.2 rfl ?_
        rw [hss, see_end]
        unfold wp_X12_readsAll_88 wp_X12_readsAll_105
        refine ⟨fun y => ?_, fun y => ?_⟩
        · have es : stp b n s' = mkP (at1 b n s') 5 (p_k s') (p_c s') (p_v s') (p_t s') (p_d s' ++ [clE s']) [] [] (popG 1 (p_p s') (p_w s')).1 0 := by
            rw [hst]; unfold tkE
            rw [if_neg (fun x => x.2 y), if_neg (show ¬ sg0 b n s' = 59 from z)]; rfl
          have e := itr_fin hn (RnS_step r) (Or.inr (show p_s (stp b n s') = 5 by rw [es]; rfl))
          rw [e, es] at h1
          refine ⟨fun _ => ⟨Or.inr rfl, h1 rfl _ _ _ _ _ _ _ _ _ _ _ ⟨?_, ?_, ?_, hC.1, g3⟩ (fr g1) g2 g5⟩, fun x => absurd rfl x⟩
          · rw [g4]; show _ = jn ((p_d s' ++ [clE s']).length : Int); rw [List.length_append, List.length_singleton]
          · show (p_d s' ++ [clE s']).length ≤ 12
            rw [List.length_append, List.length_singleton]; omega
          · have pf : p_f (stp b n s') = 0 := by rw [es]; rfl
            have i3 := (stp_Inv hI hf (by omega) pf).1
            have q1 := i3.1
            have q2 := i3.2.1
            have q3 := fm_le (d := p_d (stp b n s'))
            unfold cod at q2
            simp only [List.length_append] at q2
            have q4 : p_d (stp b n s') = p_d s' ++ [clE s'] := by rw [es]; rfl
            show (fm (p_d s' ++ [clE s'])).length ≤ 400
            rw [← q4]
            omega
        · have es : stp b n s' = flt b n s' 0 := by
            rw [hst]; unfold tkE
            rw [if_pos ⟨z, y⟩]
          have hff : p_f (stp b n s') = 1 + 8 * skp b n (p_a s') + 0 := by rw [es]; rfl
          have e := itr_fin hn (RnS_step r) (Or.inl (show p_f (stp b n s') ≠ 0 by omega))
          rw [e] at h0
          have q := h0 (by omega)
          rw [hff] at q
          refine wm_fails (kd := 0) rfl rfl ⟨fun x => ?_, fun x => ⟨Or.inl rfl, q _ _ _ _ _ _ _ _ _ _ _ (fr g1) g2 g5⟩⟩
          rw [li_0, jn_eq (by omega) (by omega)] at x
          omega
  obtain ⟨N, rfl⟩ : ∃ m', N = m' + 1 := ⟨N - 1, by omega⟩
  refine wm_clauseR (s := s00) (a := 0) hN hn hB bB ht rfl (Nat.zero_le _) rfl rfl rfl rfl Inv_00 rfl rfl (mC_nil ?_) hcs (fun s2 r2 z2 sg2 ln2 cl2 nx2 nu2 md2 dp2 li2 op2 opd2 k1 k2 => ?_) (fun s2 r2 i2 f2 d2 st2 c2 l2 ss2 sg2 ln2 cl2 cs2 a2 nu2 dp2 op2 opd2 k1 k2 k3 k4 k5 k6 k7 k8 => ?_)
  · rw [e1, upd_at]
  · refine bad _ s2 _ _ _ _ _ _ _ _ _ _ _ r2 z2 k1 ?_ (fun _ _ => rfl)
    rcases k2 with k2 | k2
    · rw [k2]; exact fun _ _ => rfl
    · intro j hj
      have : (p_d s00).length = 0 := rfl
      exact k2.1 j (by omega)
  · have hz : (p_d s00).length = 0 := rfl
    rw [show p_c s00 + 1 = p_c s2 from c2.symm]
    refine key _ s2 sg2 ln2 cl2 cs2 op2 a2 nu2 dp2 opd2 r2 i2 f2 st2 ss2 ?_ k2 ?_ ?_ ?_ k6 k7 k8 (by omega)
    · rw [d2]; exact k1
    · intro j hj; exact k3 j (by omega)
    · rw [d2]; exact mCs_add (fun j c hj => by cases hj) k3 k4
    · rw [d2]; exact k5
theorem wm_rule {Q : Int32 → Int32 → Int32 → (Nat → Int32) → (Nat → Int32) → (Nat → Int32) → (Nat → Int32) → (Nat → Int32) → Int32 → Int32 → Int32 → Int32 → Int32 → Int32 → Int32 → (Nat → Int32) → Int32 → Prop} {sg ln cl cs rd op : Nat → Int32} {ru nx wr nu tx md dp li opd : Int32} (hN : 500 ≤ N) (hn : n ≤ 400) (hB : ∀ i, i < n → bt i = jn (b i)) (bB : ∀ i, -128 ≤ b i ∧ b i ≤ 127) (ht : t < 6) (hru : ru = jn t)
    (h0 : p_f (itr b n 401 s00) ≠ 0 → ∀ sg' ln' cl' cs' nx wr nu tx md dp li op opd, mFr t sg ln sg' ln' → mFk t cl cl' → (∀ j, j ≠ t → cs' j = cs j) → Q (jn (-2 - (p_f (itr b n 401 s00) : Int))) 0 (jn t) sg' ln' cl' cs' rd nx wr nu tx md dp li op opd)
    (h1 : p_f (itr b n 401 s00) = 0 → ∀ sg' ln' cl' cs' nx wr nu tx md dp li op opd, mRu sg' cl' cs' t (p_d (itr b n 401 s00)) → mFr t sg ln sg' ln' → mFk t cl cl' → (∀ j, j ≠ t → cs' j = cs j) → Q (jn t) 0 (jn ((t + 1 : Nat) : Int)) sg' ln' cl' cs' rd nx wr nu tx md dp li op opd) : wp_X12_rule N bt Q (jn n) ru sg ln cl cs rd nx wr nu tx md dp li op opd := by
  subst hru
  unfold wp_X12_rule
  refine ⟨fun z => ?_, fun _ => ⟨by simp (disch := omega) only [jn_le, jn_lt, jn_eq, jn_in, jn_add, jn_sub, jn_mul, jn_neg, li_0, li_1, li_2, li_3, li_4, li_5, li_6, li_7, li_8, li_9, li_10, li_11, li_12, li_13, li_14, li_15, li_16, li_17, li_18, li_20, li_24, li_29, li_30, li_31, li_32, li_37, li_39, li_40, li_42, li_43, li_45, li_46, li_47, li_48, li_53, li_57, li_59, li_60, li_61, li_62, li_63, li_80, li_81, li_91, li_93, li_97, li_100, li_122, li_200, li_255, li_256, li_257, li_258, li_259, li_260, li_300, li_314, li_400, li_580, li_999, li_5040, li_9999, li_65536, li_99999, li_7654321] <;> omega, fun a1 e1 => ?_⟩⟩
  · rw [li_6, jn_eq (by omega) (by omega)] at z; omega
  rw [jn_cln (by omega)] at e1
  have hcs : ∀ j, j ≠ t → a1 j = cs j := fun j hj => by rw [e1, upd_ne hj]
  refine wm_readsR hN hn hB bB ht rfl (by rw [e1, upd_at]) (fun z sg' ln' cl' cs' nx nu md dp li op opd g1 g2 g3 => ⟨fun _ => ?_, fun y => absurd rfl y⟩) (fun z sg' ln' cl' cs' nx nu md dp li op opd g0 g1 g2 g3 => ⟨fun y => absurd y (by decide), fun _ => ?_⟩)
  · rw [show (-2 : Int32) - jn (p_f (itr b n 401 s00) : Int) = jn (-2 - (p_f (itr b n 401 s00) : Int)) from by rw [show (-2 : Int32) = jn (-2) from rfl, jn_sub]]
    exact h0 z _ _ _ _ _ _ _ _ _ _ _ _ _ g1 g2 (fun j hj => (g3 j hj).trans (hcs j hj))
  · rw [show jn (t : Int) + (1 : Int32) = jn ((t + 1 : Nat) : Int) from by (first | rfl | (simp (disch := omega) only [jn_add, jn_sub, jn_mul, jn_neg, li_0, li_1, li_2, li_3, li_4, li_5, li_6, li_7, li_8, li_9, li_10, li_11, li_12, li_13, li_14, li_15, li_16, li_17, li_18, li_20, li_24, li_29, li_30, li_31, li_32, li_37, li_39, li_40, li_42, li_43, li_45, li_46, li_47, li_48, li_53, li_57, li_59, li_60, li_61, li_62, li_63, li_80, li_81, li_91, li_93, li_97, li_100, li_122, li_200, li_255, li_256, li_257, li_258, li_259, li_260, li_300, li_314, li_400, li_580, li_999, li_5040, li_9999, li_65536, li_99999, li_7654321] <;> first | rfl | exact congrArg jn (by omega)) | exact congrArg jn (by omega)), show jn ((t + 1 : Nat) : Int) - (1 : Int32) = jn (t : Int) from by (first | rfl | (simp (disch := omega) only [jn_add, jn_sub, jn_mul, jn_neg, li_0, li_1, li_2, li_3, li_4, li_5, li_6, li_7, li_8, li_9, li_10, li_11, li_12, li_13, li_14, li_15, li_16, li_17, li_18, li_20, li_24, li_29, li_30, li_31, li_32, li_37, li_39, li_40, li_42, li_43, li_45, li_46, li_47, li_48, li_53, li_57, li_59, li_60, li_61, li_62, li_63, li_80, li_81, li_91, li_93, li_97, li_100, li_122, li_200, li_255, li_256, li_257, li_258, li_259, li_260, li_300, li_314, li_400, li_580, li_999, li_5040, li_9999, li_65536, li_99999, li_7654321] <;> first | rfl | exact congrArg jn (by omega)) | exact congrArg jn (by omega))]
    exact h1 z _ _ _ _ _ _ _ _ _ _ _ _ _ g0 g1 g2 (fun j hj => (g3 j hj).trans (hcs j hj))
end MRB
