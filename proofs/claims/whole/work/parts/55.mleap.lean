/-! the reference reads a rule: a clause -/
/-- the clause that ends here -/
def clE (s : pS) : cS1 := if p_t s = true then (p_u s, some (popG 1 (p_p s) (p_w s)).2) else ((popG 1 (p_p s) (p_w s)).2, none)
/-- a clause may end here -/
def EC (b : Nat → Int) (n : Nat) (s s' : pS) : Prop := RnS b n s s' ∧ Inv n s' ∧ p_f s' = 0 ∧ p_d s' = p_d s ∧ stp b n s' = tkE b n s' ∧ (p_s s' = 3 ∨ p_s s' = 4) ∧ fmc (clE s') = p_u s' ++ (popG 1 (p_p s') (p_w s')).2
/-- only one clause's row changes -/
def mFc (at' : Nat) (cl cl' : Nat → Int32) : Prop := ∀ j, ¬ (at' ≤ j ∧ j < at' + 4) → cl' j = cl j
section MLE
variable {N n : Nat} {b : Nat → Int} {bt : Nat → Int32} {t : Nat}
theorem wm_leapHere {s : pS} {p : Nat} {Q : Int32 → (Nat → Int32) → (Nat → Int32) → (Nat → Int32) → (Nat → Int32) → Int32 → Int32 → Int32 → Int32 → Int32 → (Nat → Int32) → Int32 → Prop} {tx nx nu md dp opd : Int32} {sg ln cl cs op : Nat → Int32} (hN : 500 ≤ N) (hn : n ≤ 400) (hB : ∀ i, i < n → bt i = jn (b i)) (bB : ∀ i, -128 ≤ b i ∧ b i ≤ 127) (ht : t < 6) (htx : tx = jn t) (hp : p ≤ n) (hnx : nx = jn p) (hpa : p + wl b n p = p_a s) (hmd : md = jn (p_v s)) (hI : Inv n s) (hf : p_f s = 0) (hst : p_s s = 1) (hk : p_k s = 0) (hpp : p_p s = []) (hpw : p_w s = []) (hpu : p_u s = []) (hpt : p_t s = false) (hC : mC t sg ln (fm (p_d s))) (hcs : cs t = jn (p_d s).length) (hdl : (p_d s).length < 12)
    (hF : ∀ s', RnS b n s s' → p_f s' ≠ 0 → ∀ sg' ln' cl' nx nu md dp op opd, mFr t sg ln sg' ln' → mFc (48 * t + 4 * (p_d s).length) cl cl' → Q 0 sg' ln' cl' cs nx (jn (p_f s')) nu md dp op opd)
    (hK : ∀ s', EC b n s s' → ∀ sg' ln' cl' cs' a' nu dp op opd, mC t sg' ln' (fm (p_d s ++ [clE s'])) → mFr t sg ln sg' ln' → mFc (48 * t + 4 * (p_d s).length) cl cl' → mCl cl' (48 * t + 4 * (p_d s).length) (fm (p_d s)).length (clE s') → cs' t = jn ((p_d s).length + 1 : Nat) → (∀ j, j ≠ t → cs' j = cs j) → a' ≤ n → skp b n a' = skp b n (p_a s') → Q 1 sg' ln' cl' cs' (jn a') 0 nu (jn (p_v s')) dp op opd) : wp_X12_isLeapHere N bt (jn n) tx Q sg ln cl cs nx 0 nu md dp op opd := by
  have hle := hI.1
  unfold wp_X12_isLeapHere
  refine wm_passWord hN hn hB bB hp hnx ?_
  rw [hpa]
  subst htx
  have hx2 : (48 : Int32) * jn t + (4 : Int32) * jn ((p_d s).length : Int) = jn ((48 * t + 4 * (p_d s).length : Nat) : Int) := by (first | rfl | (simp (disch := omega) only [jn_add, jn_sub, jn_mul, jn_neg, li_0, li_1, li_2, li_3, li_4, li_5, li_6, li_7, li_8, li_9, li_10, li_11, li_12, li_13, li_14, li_15, li_16, li_17, li_18, li_20, li_24, li_29, li_30, li_31, li_32, li_37, li_39, li_40, li_42, li_43, li_45, li_46, li_47, li_48, li_53, li_57, li_59, li_60, li_61, li_62, li_63, li_80, li_81, li_91, li_93, li_97, li_100, li_122, li_200, li_255, li_256, li_257, li_258, li_259, li_260, li_300, li_314, li_400, li_580, li_999, li_5040, li_9999, li_65536, li_99999, li_7654321] <;> first | rfl | exact congrArg jn (by omega)) | exact congrArg jn (by omega))
  rw [jn_cln (by omega), hcs, hx2]
  generalize hat : 48 * t + 4 * (p_d s).length = at' at *
  have hatb : at' + 3 < 288 := by omega
  refine ⟨by simp (disch := omega) only [jn_le, jn_lt, jn_eq, jn_in, jn_add, jn_sub, jn_mul, jn_neg, li_0, li_1, li_2, li_3, li_4, li_5, li_6, li_7, li_8, li_9, li_10, li_11, li_12, li_13, li_14, li_15, li_16, li_17, li_18, li_20, li_24, li_29, li_30, li_31, li_32, li_37, li_39, li_40, li_42, li_43, li_45, li_46, li_47, li_48, li_53, li_57, li_59, li_60, li_61, li_62, li_63, li_80, li_81, li_91, li_93, li_97, li_100, li_122, li_200, li_255, li_256, li_257, li_258, li_259, li_260, li_300, li_314, li_400, li_580, li_999, li_5040, li_9999, li_65536, li_99999, li_7654321] <;> omega, fun x2 e2 => ⟨by simp (disch := omega) only [jn_le, jn_lt, jn_eq, jn_in, jn_add, jn_sub, jn_mul, jn_neg, li_0, li_1, li_2, li_3, li_4, li_5, li_6, li_7, li_8, li_9, li_10, li_11, li_12, li_13, li_14, li_15, li_16, li_17, li_18, li_20, li_24, li_29, li_30, li_31, li_32, li_37, li_39, li_40, li_42, li_43, li_45, li_46, li_47, li_48, li_53, li_57, li_59, li_60, li_61, li_62, li_63, li_80, li_81, li_91, li_93, li_97, li_100, li_122, li_200, li_255, li_256, li_257, li_258, li_259, li_260, li_300, li_314, li_400, li_580, li_999, li_5040, li_9999, li_65536, li_99999, li_7654321] <;> omega, ?_⟩⟩
  subst e2
  rw [jn_cln (by omega), hC.2]
  have hwk5 : wk 5 (p_p s) := by rw [hpp]; intro o q z; cases z
  have hT9 : TM 9 s = fm (p_d s) := by rw [TM_wk (wk_9 hI), hpu, hpw, List.append_nil, List.append_nil]
  refine ⟨by simp (disch := omega) only [jn_le, jn_lt, jn_eq, jn_in, jn_add, jn_sub, jn_mul, jn_neg, li_0, li_1, li_2, li_3, li_4, li_5, li_6, li_7, li_8, li_9, li_10, li_11, li_12, li_13, li_14, li_15, li_16, li_17, li_18, li_20, li_24, li_29, li_30, li_31, li_32, li_37, li_39, li_40, li_42, li_43, li_45, li_46, li_47, li_48, li_53, li_57, li_59, li_60, li_61, li_62, li_63, li_80, li_81, li_91, li_93, li_97, li_100, li_122, li_200, li_255, li_256, li_257, li_258, li_259, li_260, li_300, li_314, li_400, li_580, li_999, li_5040, li_9999, li_65536, li_99999, li_7654321] <;> omega, fun a3 e3 => ?_⟩
  refine wm_sum (s := s) hN hn hB bB ht rfl hle rfl rfl hmd hI hf hst hwk5 (by rw [hT9]; exact hC) (fun s2 r2 z sg2 ln2 nx2 nu2 md2 g => ?_) (fun s2 hB2 hw2 sg2 ln2 a2 nu2 g1 g2 g3 g4 => ?_)
  · refine ⟨fun _ => hF s2 r2 z sg2 ln2 a3 nx2 nu2 md2 dp op opd g (fun j hj => ?_), fun y => absurd rfl y⟩
    rw [e3, upd_ne (by omega)]
  · refine ⟨fun y => absurd y (by decide), fun _ => ?_⟩
    obtain ⟨j1, j2, j3, j4, j5, j6, j7, j8, j9, j10⟩ := hB2
    rw [hpp] at j10
    have pop1 : popG 1 (p_p s2) (p_w s2) = ([], (popG 5 (p_p s2) (p_w s2)).2) := by
      rw [popG_two (m := 5) (by omega), j10]; rfl
    have hT5 : TM 5 s2 = fm (p_d s) ++ (popG 5 (p_p s2) (p_w s2)).2 := by
      unfold TM; rw [j7, j8, hpu, List.append_nil]
    have hlen5 := TM_len (m := 5) j2 hn (inC_1 (by omega))
    rw [hT5] at hlen5 g1
    rw [List.length_append] at hlen5
    rw [show jn (at' : Int) + (1 : Int32) = jn ((at' + 1 : Nat) : Int) from by (first | rfl | (simp (disch := omega) only [jn_add, jn_sub, jn_mul, jn_neg, li_0, li_1, li_2, li_3, li_4, li_5, li_6, li_7, li_8, li_9, li_10, li_11, li_12, li_13, li_14, li_15, li_16, li_17, li_18, li_20, li_24, li_29, li_30, li_31, li_32, li_37, li_39, li_40, li_42, li_43, li_45, li_46, li_47, li_48, li_53, li_57, li_59, li_60, li_61, li_62, li_63, li_80, li_81, li_91, li_93, li_97, li_100, li_122, li_200, li_255, li_256, li_257, li_258, li_259, li_260, li_300, li_314, li_400, li_580, li_999, li_5040, li_9999, li_65536, li_99999, li_7654321] <;> first | rfl | exact congrArg jn (by omega)) | exact congrArg jn (by omega)), show jn (at' : Int) + (2 : Int32) = jn ((at' + 2 : Nat) : Int) from by (first | rfl | (simp (disch := omega) only [jn_add, jn_sub, jn_mul, jn_neg, li_0, li_1, li_2, li_3, li_4, li_5, li_6, li_7, li_8, li_9, li_10, li_11, li_12, li_13, li_14, li_15, li_16, li_17, li_18, li_20, li_24, li_29, li_30, li_31, li_32, li_37, li_39, li_40, li_42, li_43, li_45, li_46, li_47, li_48, li_53, li_57, li_59, li_60, li_61, li_62, li_63, li_80, li_81, li_91, li_93, li_97, li_100, li_122, li_200, li_255, li_256, li_257, li_258, li_259, li_260, li_300, li_314, li_400, li_580, li_999, li_5040, li_9999, li_65536, li_99999, li_7654321] <;> first | rfl | exact congrArg jn (by omega)) | exact congrArg jn (by omega)), jn_cln (by omega), jn_cln (by omega), g1.2]
    refine ⟨by simp (disch := omega) only [jn_le, jn_lt, jn_eq, jn_in, jn_add, jn_sub, jn_mul, jn_neg, li_0, li_1, li_2, li_3, li_4, li_5, li_6, li_7, li_8, li_9, li_10, li_11, li_12, li_13, li_14, li_15, li_16, li_17, li_18, li_20, li_24, li_29, li_30, li_31, li_32, li_37, li_39, li_40, li_42, li_43, li_45, li_46, li_47, li_48, li_53, li_57, li_59, li_60, li_61, li_62, li_63, li_80, li_81, li_91, li_93, li_97, li_100, li_122, li_200, li_255, li_256, li_257, li_258, li_259, li_260, li_300, li_314, li_400, li_580, li_999, li_5040, li_9999, li_65536, li_99999, li_7654321] <;> omega, by simp (disch := omega) only [jn_le, jn_lt, jn_eq, jn_in, jn_add, jn_sub, jn_mul, jn_neg, li_0, li_1, li_2, li_3, li_4, li_5, li_6, li_7, li_8, li_9, li_10, li_11, li_12, li_13, li_14, li_15, li_16, li_17, li_18, li_20, li_24, li_29, li_30, li_31, li_32, li_37, li_39, li_40, li_42, li_43, li_45, li_46, li_47, li_48, li_53, li_57, li_59, li_60, li_61, li_62, li_63, li_80, li_81, li_91, li_93, li_97, li_100, li_122, li_200, li_255, li_256, li_257, li_258, li_259, li_260, li_300, li_314, li_400, li_580, li_999, li_5040, li_9999, li_65536, li_99999, li_7654321] <;> omega, fun a11 e11 => ⟨by simp (disch := omega) only [jn_le, jn_lt, jn_eq, jn_in, jn_add, jn_sub, jn_mul, jn_neg, li_0, li_1, li_2, li_3, li_4, li_5, li_6, li_7, li_8, li_9, li_10, li_11, li_12, li_13, li_14, li_15, li_16, li_17, li_18, li_20, li_24, li_29, li_30, li_31, li_32, li_37, li_39, li_40, li_42, li_43, li_45, li_46, li_47, li_48, li_53, li_57, li_59, li_60, li_61, li_62, li_63, li_80, li_81, li_91, li_93, li_97, li_100, li_122, li_200, li_255, li_256, li_257, li_258, li_259, li_260, li_300, li_314, li_400, li_580, li_999, li_5040, li_9999, li_65536, li_99999, li_7654321] <;> omega, fun a12 e12 => ?_⟩⟩
    refine wm_takesWord (i := 10) hN hn hB bB g3 rfl (by omega) rfl (fun z => ?_) (fun z => ?_)
    · refine ⟨fun _ => ?_, fun y => absurd rfl y⟩
      rw [g4] at z ⊢
      have hsk := skp_le (b := b) g3
      have hss := skp_skp (b := b) g3
      rw [g4] at hsk hss
      unfold wp_X12_isLeapHere_110
      rw [show jn (at' : Int) + (3 : Int32) = jn ((at' + 3 : Nat) : Int) from by (first | rfl | (simp (disch := omega) only [jn_add, jn_sub, jn_mul, jn_neg, li_0, li_1, li_2, li_3, li_4, li_5, li_6, li_7, li_8, li_9, li_10, li_11, li_12, li_13, li_14, li_15, li_16, li_17, li_18, li_20, li_24, li_29, li_30, li_31, li_32, li_37, li_39, li_40, li_42, li_43, li_45, li_46, li_47, li_48, li_53, li_57, li_59, li_60, li_61, li_62, li_63, li_80, li_81, li_91, li_93, li_97, li_100, li_122, li_200, li_255, li_256, li_257, li_258, li_259, li_260, li_300, li_314, li_400, li_580, li_999, li_5040, li_9999, li_65536, li_99999, li_7654321] <;> first | rfl | exact congrArg jn (by omega)) | exact congrArg jn (by omega)), jn_cln (by omega), jn_cln (by omega), g1.2, hcs]
      refine ⟨by simp (disch := omega) only [jn_le, jn_lt, jn_eq, jn_in, jn_add, jn_sub, jn_mul, jn_neg, li_0, li_1, li_2, li_3, li_4, li_5, li_6, li_7, li_8, li_9, li_10, li_11, li_12, li_13, li_14, li_15, li_16, li_17, li_18, li_20, li_24, li_29, li_30, li_31, li_32, li_37, li_39, li_40, li_42, li_43, li_45, li_46, li_47, li_48, li_53, li_57, li_59, li_60, li_61, li_62, li_63, li_80, li_81, li_91, li_93, li_97, li_100, li_122, li_200, li_255, li_256, li_257, li_258, li_259, li_260, li_300, li_314, li_400, li_580, li_999, li_5040, li_9999, li_65536, li_99999, li_7654321] <;> omega, by simp (disch := omega) only [jn_le, jn_lt, jn_eq, jn_in, jn_add, jn_sub, jn_mul, jn_neg, li_0, li_1, li_2, li_3, li_4, li_5, li_6, li_7, li_8, li_9, li_10, li_11, li_12, li_13, li_14, li_15, li_16, li_17, li_18, li_20, li_24, li_29, li_30, li_31, li_32, li_37, li_39, li_40, li_42, li_43, li_45, li_46, li_47, li_48, li_53, li_57, li_59, li_60, li_61, li_62, li_63, li_80, li_81, li_91, li_93, li_97, li_100, li_122, li_200, li_255, li_256, li_257, li_258, li_259, li_260, li_300, li_314, li_400, li_580, li_999, li_5040, li_9999, li_65536, li_99999, li_7654321] <;> omega, fun a26 e26 => ⟨by simp (disch := omega) only [jn_le, jn_lt, jn_eq, jn_in, jn_add, jn_sub, jn_mul, jn_neg, li_0, li_1, li_2, li_3, li_4, li_5, li_6, li_7, li_8, li_9, li_10, li_11, li_12, li_13, li_14, li_15, li_16, li_17, li_18, li_20, li_24, li_29, li_30, li_31, li_32, li_37, li_39, li_40, li_42, li_43, li_45, li_46, li_47, li_48, li_53, li_57, li_59, li_60, li_61, li_62, li_63, li_80, li_81, li_91, li_93, li_97, li_100, li_122, li_200, li_255, li_256, li_257, li_258, li_259, li_260, li_300, li_314, li_400, li_580, li_999, li_5040, li_9999, li_65536, li_99999, li_7654321] <;> omega, by simp (disch := omega) only [jn_le, jn_lt, jn_eq, jn_in, jn_add, jn_sub, jn_mul, jn_neg, li_0, li_1, li_2, li_3, li_4, li_5, li_6, li_7, li_8, li_9, li_10, li_11, li_12, li_13, li_14, li_15, li_16, li_17, li_18, li_20, li_24, li_29, li_30, li_31, li_32, li_37, li_39, li_40, li_42, li_43, li_45, li_46, li_47, li_48, li_53, li_57, li_59, li_60, li_61, li_62, li_63, li_80, li_81, li_91, li_93, li_97, li_100, li_122, li_200, li_255, li_256, li_257, li_258, li_259, li_260, li_300, li_314, li_400, li_580, li_999, li_5040, li_9999, li_65536, li_99999, li_7654321] <;> omega, fun a27 e27 => ?_⟩⟩
      have ht2 : p_t s2 = false := by rw [j9]; exact hpt
      have hcl : clE s2 = ((popG 5 (p_p s2) (p_w s2)).2, none) := by
        unfold clE; rw [if_neg (by rw [ht2]; decide), pop1]
      refine hK s2 ⟨j1, j2, j3, j7, ?_, Or.inl j4, ?_⟩ sg2 ln2 a26 a27 _ nu2 dp op opd ?_ g2 (fun j hj => ?_) ⟨?_, ?_, fun _ => ?_, fun tt q => ?_⟩ ?_ (fun j hj => ?_) hsk.2 hss
      · rw [stp_3 j3 j4]; unfold tkB
        rw [if_neg (by omega), if_neg (by omega), if_neg (by omega), if_neg (show ¬ sg0 b n s2 = 310 from z)]
      · rw [hcl, pop1, j8, hpu]
        show (popG 5 (p_p s2) (p_w s2)).2 ++ [] = [] ++ (popG 5 (p_p s2) (p_w s2)).2
        rw [List.append_nil]; rfl
      · rw [fm_app, fm_one, hcl]
        show mC t sg2 ln2 (fm (p_d s) ++ ((popG 5 (p_p s2) (p_w s2)).2 ++ []))
        rw [List.append_nil]; exact g1
      · rw [e26, upd_ne (by omega), e12, upd_ne (by omega), e11, upd_ne (by omega), e3, upd_ne (by omega)]
      · rw [e26, upd_ne (by omega), e12, upd_ne (by omega), e11, upd_ne (by omega), e3, upd_at]
      · rw [hcl, e26, upd_ne (by omega), e12, upd_ne (by omega), e11, upd_at, List.length_append]
      · rw [e26, upd_ne (by omega), e12, upd_at]
      · rw [hcl] at q; cases q
      · rw [e27, upd_at, li_1, jn_add]; rfl
      · rw [e27, upd_ne hj]
    · refine ⟨fun y => absurd y (by decide), fun _ => ?_⟩
      rw [g4] at z ⊢
      have hsk := skp_le (b := b) g3
      rw [g4] at hsk
      have hen := en_le (b := b) hsk.2
      refine ⟨by simp (disch := omega) only [jn_le, jn_lt, jn_eq, jn_in, jn_add, jn_sub, jn_mul, jn_neg, li_0, li_1, li_2, li_3, li_4, li_5, li_6, li_7, li_8, li_9, li_10, li_11, li_12, li_13, li_14, li_15, li_16, li_17, li_18, li_20, li_24, li_29, li_30, li_31, li_32, li_37, li_39, li_40, li_42, li_43, li_45, li_46, li_47, li_48, li_53, li_57, li_59, li_60, li_61, li_62, li_63, li_80, li_81, li_91, li_93, li_97, li_100, li_122, li_200, li_255, li_256, li_257, li_258, li_259, li_260, li_300, li_314, li_400, li_580, li_999, li_5040, li_9999, li_65536, li_99999, li_7654321] <;> omega, by simp (disch := omega) only [jn_le, jn_lt, jn_eq, jn_in, jn_add, jn_sub, jn_mul, jn_neg, li_0, li_1, li_2, li_3, li_4, li_5, li_6, li_7, li_8, li_9, li_10, li_11, li_12, li_13, li_14, li_15, li_16, li_17, li_18, li_20, li_24, li_29, li_30, li_31, li_32, li_37, li_39, li_40, li_42, li_43, li_45, li_46, li_47, li_48, li_53, li_57, li_59, li_60, li_61, li_62, li_63, li_80, li_81, li_91, li_93, li_97, li_100, li_122, li_200, li_255, li_256, li_257, li_258, li_259, li_260, li_300, li_314, li_400, li_580, li_999, li_5040, li_9999, li_65536, li_99999, li_7654321] <;> omega, fun a15 e15 => ?_⟩
      have es : stp b n s2 = mkP (at1 b n s2) 2 (p_k s2) (p_c s2) (p_v s2) true (p_d s2) (popG 5 (p_p s2) (p_w s2)).2 [] [] 0 := by
        rw [stp_3 j3 j4]; unfold tkB
        rw [if_neg (by omega), if_neg (by omega), if_neg (by omega), if_pos (show sg0 b n s2 = 310 from z), pop1]
      have pf : p_f (stp b n s2) = 0 := by rw [es]; rfl
      have i3 := (stp_Inv j2 j3 (by omega) pf).1
      have hTs : TM 9 (stp b n s2) = fm (p_d s) ++ (popG 5 (p_p s2) (p_w s2)).2 := by
        rw [TM_wk (wk_9 i3), es]
        show fm (p_d s2) ++ (popG 5 (p_p s2) (p_w s2)).2 ++ [] = _
        rw [List.append_nil, j7]
      refine wm_tested (s := stp b n s2) (a := en b n (skp b n (p_a s2))) hN hn hB bB ht rfl hen.2 rfl (by rw [es]; rfl) (by rw [es]; rfl) i3 pf (by rw [es]; rfl) (by rw [es]; rfl) (by rw [hTs]; exact g1) (fun s3 r3 z3 sg3 ln3 nx3 nu3 md3 dp3 op3 opd3 k => ?_) (fun s3 hTE sg3 ln3 a3' nu3 dp3 op3 opd3 k1 k2 k3 k4 => ?_)
      · refine ⟨fun _ => hF s3 (RnS_trans (RnS_step j1) r3) z3 sg3 ln3 a15 nx3 nu3 md3 dp3 op3 opd3 (mFr_trans g2 k) (fun j hj => ?_), fun y => absurd rfl y⟩
        rw [e15, upd_ne (by omega), e12, upd_ne (by omega), e11, upd_ne (by omega), e3, upd_ne (by omega)]
      · refine ⟨fun y => absurd y (by decide), fun _ => ?_⟩
        obtain ⟨t1, t2, t3, t4, t5, t6, t7, t8, t9⟩ := hTE
        have t4' : p_d s3 = p_d s := by rw [t4, es]; exact j7
        have t5' : p_u s3 = (popG 5 (p_p s2) (p_w s2)).2 := by rw [t5, es]; rfl
        have t6' : p_t s3 = true := by rw [t6, es]; rfl
        have hcl : clE s3 = ((popG 5 (p_p s2) (p_w s2)).2, some (popG 1 (p_p s3) (p_w s3)).2) := by
          unfold clE; rw [if_pos t6', t5']
        have hT1 : TM 1 s3 = fm (p_d s) ++ (popG 5 (p_p s2) (p_w s2)).2 ++ (popG 1 (p_p s3) (p_w s3)).2 := by
          unfold TM; rw [t4', t5']
        have hlen1 := TM_len (m := 1) t2.1 hn (BF_in t2)
        rw [hT1] at k1 hlen1
        simp only [List.length_append] at hlen1
        unfold wp_X12_isLeapHere_110
        rw [show jn (at' : Int) + (3 : Int32) = jn ((at' + 3 : Nat) : Int) from by (first | rfl | (simp (disch := omega) only [jn_add, jn_sub, jn_mul, jn_neg, li_0, li_1, li_2, li_3, li_4, li_5, li_6, li_7, li_8, li_9, li_10, li_11, li_12, li_13, li_14, li_15, li_16, li_17, li_18, li_20, li_24, li_29, li_30, li_31, li_32, li_37, li_39, li_40, li_42, li_43, li_45, li_46, li_47, li_48, li_53, li_57, li_59, li_60, li_61, li_62, li_63, li_80, li_81, li_91, li_93, li_97, li_100, li_122, li_200, li_255, li_256, li_257, li_258, li_259, li_260, li_300, li_314, li_400, li_580, li_999, li_5040, li_9999, li_65536, li_99999, li_7654321] <;> first | rfl | exact congrArg jn (by omega)) | exact congrArg jn (by omega)), jn_cln (by omega), jn_cln (by omega), k1.2, hcs]
        refine ⟨by simp (disch := omega) only [jn_le, jn_lt, jn_eq, jn_in, jn_add, jn_sub, jn_mul, jn_neg, li_0, li_1, li_2, li_3, li_4, li_5, li_6, li_7, li_8, li_9, li_10, li_11, li_12, li_13, li_14, li_15, li_16, li_17, li_18, li_20, li_24, li_29, li_30, li_31, li_32, li_37, li_39, li_40, li_42, li_43, li_45, li_46, li_47, li_48, li_53, li_57, li_59, li_60, li_61, li_62, li_63, li_80, li_81, li_91, li_93, li_97, li_100, li_122, li_200, li_255, li_256, li_257, li_258, li_259, li_260, li_300, li_314, li_400, li_580, li_999, li_5040, li_9999, li_65536, li_99999, li_7654321] <;> omega, by simp (disch := omega) only [jn_le, jn_lt, jn_eq, jn_in, jn_add, jn_sub, jn_mul, jn_neg, li_0, li_1, li_2, li_3, li_4, li_5, li_6, li_7, li_8, li_9, li_10, li_11, li_12, li_13, li_14, li_15, li_16, li_17, li_18, li_20, li_24, li_29, li_30, li_31, li_32, li_37, li_39, li_40, li_42, li_43, li_45, li_46, li_47, li_48, li_53, li_57, li_59, li_60, li_61, li_62, li_63, li_80, li_81, li_91, li_93, li_97, li_100, li_122, li_200, li_255, li_256, li_257, li_258, li_259, li_260, li_300, li_314, li_400, li_580, li_999, li_5040, li_9999, li_65536, li_99999, li_7654321] <;> omega, fun a26 e26 => ⟨by simp (disch := omega) only [jn_le, jn_lt, jn_eq, jn_in, jn_add, jn_sub, jn_mul, jn_neg, li_0, li_1, li_2, li_3, li_4, li_5, li_6, li_7, li_8, li_9, li_10, li_11, li_12, li_13, li_14, li_15, li_16, li_17, li_18, li_20, li_24, li_29, li_30, li_31, li_32, li_37, li_39, li_40, li_42, li_43, li_45, li_46, li_47, li_48, li_53, li_57, li_59, li_60, li_61, li_62, li_63, li_80, li_81, li_91, li_93, li_97, li_100, li_122, li_200, li_255, li_256, li_257, li_258, li_259, li_260, li_300, li_314, li_400, li_580, li_999, li_5040, li_9999, li_65536, li_99999, li_7654321] <;> omega, by simp (disch := omega) only [jn_le, jn_lt, jn_eq, jn_in, jn_add, jn_sub, jn_mul, jn_neg, li_0, li_1, li_2, li_3, li_4, li_5, li_6, li_7, li_8, li_9, li_10, li_11, li_12, li_13, li_14, li_15, li_16, li_17, li_18, li_20, li_24, li_29, li_30, li_31, li_32, li_37, li_39, li_40, li_42, li_43, li_45, li_46, li_47, li_48, li_53, li_57, li_59, li_60, li_61, li_62, li_63, li_80, li_81, li_91, li_93, li_97, li_100, li_122, li_200, li_255, li_256, li_257, li_258, li_259, li_260, li_300, li_314, li_400, li_580, li_999, li_5040, li_9999, li_65536, li_99999, li_7654321] <;> omega, fun a27 e27 => ?_⟩⟩
        refine hK s3 ⟨RnS_trans (RnS_step j1) t1, t2.1, t2.2.1, t4', ?_, by have := t2.2.2; omega, ?_⟩ sg3 ln3 a26 a27 _ nu3 dp3 op3 opd3 ?_ (mFr_trans g2 k2) (fun j hj => ?_) ⟨?_, ?_, fun q => ?_, fun tt q => ?_⟩ ?_ (fun j hj => ?_) k3 k4
        · rw [BF_step t2]; unfold tkF; rw [if_neg t8, if_neg t9, if_pos t7]
        · rw [hcl, t5']; rfl
        · rw [fm_app, fm_one, hcl]
          show mC t sg3 ln3 (fm (p_d s) ++ ((popG 5 (p_p s2) (p_w s2)).2 ++ (popG 1 (p_p s3) (p_w s3)).2))
          rw [← List.append_assoc]; exact k1
        · rw [e26, upd_ne (by omega), e15, upd_ne (by omega), e12, upd_ne (by omega), e11, upd_ne (by omega), e3, upd_ne (by omega)]
        · rw [e26, upd_ne (by omega), e15, upd_ne (by omega), e12, upd_ne (by omega), e11, upd_ne (by omega), e3, upd_at]
        · rw [hcl, e26, upd_ne (by omega), e15, upd_ne (by omega), e12, upd_ne (by omega), e11, upd_at, List.length_append]
        · rw [hcl] at q; cases q
        · rw [hcl] at q; cases q
          refine ⟨?_, ?_⟩
          · rw [hcl, e26, upd_ne (by omega), e15, upd_at, List.length_append]
          · rw [hcl, e26, upd_at]
            simp only [List.length_append]
        · rw [e27, upd_at, li_1, jn_add]; rfl
        · rw [e27, upd_ne hj]
end MLE
