/-! the reference reads a rule: all of it -/
/-- only the rows of one rule's clauses change -/
def mFk (t : Nat) (cl cl' : Nat → Int32) : Prop := ∀ j, ¬ (48 * t ≤ j ∧ j < 48 * t + 48) → cl' j = cl j
/-- the clauses that are laid down -/
def mCs (t : Nat) (cl : Nat → Int32) (d : List cS1) : Prop := ∀ (j : Nat) (c : cS1), d[j]? = some c → mCl cl (48 * t + 4 * j) (bg d j) c
theorem mCl_fr {cl cl' : Nat → Int32} {at' b0 : Nat} {c : cS1} (h : mCl cl at' b0 c) (e : ∀ j, at' ≤ j → j < at' + 4 → cl' j = cl j) : mCl cl' at' b0 c := by
  unfold mCl at *
  rw [e at' (by omega) (by omega), e (at' + 1) (by omega) (by omega), e (at' + 2) (by omega) (by omega), e (at' + 3) (by omega) (by omega)]
  exact h
theorem bg_len {d : List cS1} {c : cS1} : bg (d ++ [c]) d.length = (fm d).length := by
  unfold bg; rw [List.take_left]
theorem bg_app {d : List cS1} {c : cS1} {j : Nat} (h : j < d.length) : bg (d ++ [c]) j = bg d j := by
  unfold bg; rw [List.take_append_of_le_length (by omega)]
theorem mCs_add {t : Nat} {cl cl' : Nat → Int32} {d : List cS1} {c : cS1} (h : mCs t cl d) (hf : mFc (48 * t + 4 * d.length) cl cl') (hc : mCl cl' (48 * t + 4 * d.length) (fm d).length c) : mCs t cl' (d ++ [c]) := by
  intro j c' hj
  by_cases e : j < d.length
  · rw [List.getElem?_append_left e] at hj
    rw [bg_app e]
    exact mCl_fr (h j c' hj) (fun i h1 h2 => hf i (by omega))
  · rw [List.getElem?_append_right (by omega)] at hj
    by_cases e2 : j = d.length
    · subst e2
      rw [Nat.sub_self] at hj
      cases hj
      rw [bg_len]; exact hc
    · rw [List.getElem?_eq_none (by rw [List.length_singleton]; omega)] at hj; cases hj
section MRA
variable {N n : Nat} {b : Nat → Int} {bt : Nat → Int32} {t : Nat}
theorem itr_fin {s : pS} (hn : n ≤ 400) (h : RnS b n s00 s) (hf : p_f s ≠ 0 ∨ p_s s = 5) : itr b n 401 s00 = s := by
  obtain ⟨i, e⟩ := h
  by_cases hi : i ≤ 401
  · rw [show 401 = i + (401 - i) by omega, itr_add, e, itr_fix hf]
  · have h2 : p_f (itr b n 401 s00) ≠ 0 ∨ p_s (itr b n 401 s00) = 5 := by
      rcases itr_end (b := b) hn with z | z
      · exact Or.inl z
      · exact Or.inr z.2.1
    rw [← e, show i = 401 + (i - 401) by omega, itr_add, itr_fix h2]
theorem wm_clauseR {s : pS} {a : Nat} {Q : Int32 → (Nat → Int32) → (Nat → Int32) → (Nat → Int32) → (Nat → Int32) → (Nat → Int32) → Int32 → Int32 → Int32 → Int32 → Int32 → Int32 → (Nat → Int32) → Int32 → Prop} {tx nx nu md dp li opd : Int32} {sg ln cl cs rd op : Nat → Int32} (hN : 500 ≤ N) (hn : n ≤ 400) (hB : ∀ i, i < n → bt i = jn (b i)) (bB : ∀ i, -128 ≤ b i ∧ b i ≤ 127) (ht : t < 6) (htx : tx = jn t) (ha : a ≤ n) (hnx : nx = jn a) (hsa : skp b n a = skp b n (p_a s)) (hmd : md = jn (p_v s)) (hli : li = jn (p_c s)) (hI : Inv n s) (hf : p_f s = 0) (hst : p_s s = 0) (hC : mC t sg ln (fm (p_d s))) (hcs : cs t = jn (p_d s).length)
    (hF : ∀ s', RnS b n s s' → p_f s' ≠ 0 → ∀ sg' ln' cl' nx nu md dp li op opd, mFr t sg ln sg' ln' → (cl' = cl ∨ (mFc (48 * t + 4 * (p_d s).length) cl cl' ∧ (p_d s).length < 12)) → Q 0 sg' ln' cl' cs rd nx (jn (p_f s')) nu md dp li op opd)
    (hK : ∀ s', RnS b n s s' → Inv n s' → p_f s' = 0 → p_d s' = p_d s → stp b n s' = tkE b n s' → p_c s' = p_c s + 1 → (p_d s).length < 12 → (p_s s' = 3 ∨ p_s s' = 4) → ∀ sg' ln' cl' cs' a' nu dp op opd, mC t sg' ln' (fm (p_d s ++ [clE s'])) → mFr t sg ln sg' ln' → mFc (48 * t + 4 * (p_d s).length) cl cl' → mCl cl' (48 * t + 4 * (p_d s).length) (fm (p_d s)).length (clE s') → cs' t = jn ((p_d s).length + 1 : Nat) → (∀ j, j ≠ t → cs' j = cs j) → a' ≤ n → skp b n a' = skp b n (p_a s') → Q 1 sg' ln' cl' cs' rd (jn a') 0 nu (jn (p_v s')) dp (jn ((p_c s + 1 : Nat) : Int)) op opd) : wp_X12_clauseHere N bt (jn n) tx Q sg ln cl cs rd nx 0 nu md dp li op opd := by
  have hsk := skp_le (b := b) ha
  have hss := skp_skp (b := b) ha
  have hin : inC s = 0 := by unfold inC; rw [if_pos (Or.inl hst)]
  have hlc : (p_d s).length = p_c s := by have := hI.2.2.2.2.2.2.1; omega
  have hc12 := hI.2.2.2.2.1
  have hsh : p_p s = [] ∧ p_w s = [] ∧ p_u s = [] := by
    rcases hI.2.2.2.2.2.2.2 with z | z | z | z | z
    · exact z.2
    · have := z.1; omega
    · have := z.1; omega
    · have := z.1; omega
    · have := z.1; omega
  rw [hsa] at hsk hss
  unfold wp_X12_clauseHere
  refine wm_see hN hn hB bB ha hnx ⟨fun z => ?_, fun _ => ?_⟩
  · rw [htx, li_6, jn_eq (by omega) (by omega)] at z; omega
  rw [hsa]
  unfold wp_X12_clauseHere_24
  refine ⟨fun _ => ?_, fun z => absurd rfl z⟩
  refine wm_isWord (i := 3) hN hn hB bB hsk.2 rfl (by omega) rfl ?_
  rw [hss]
  have e0 := stp_0 (b := b) (n := n) hf hst
  by_cases e3 : sgn b n (skp b n (p_a s)) = 303
  · rw [if_pos (show sgn b n (skp b n (p_a s)) = 300 + 3 from e3)]
    refine ⟨fun z => absurd z (by decide), fun _ => ?_⟩
    unfold wp_X12_clauseHere_69 wp_X12_clauseHere_84
    refine ⟨fun _ => ?_, fun z => absurd rfl z⟩
    rw [hli, li_12, jn_eq (by omega) (by omega)]
    refine ⟨fun z => ?_, fun z => ⟨fun _ => ?_, fun y => absurd rfl y⟩⟩
    · have e1 : stp b n s = flt b n s 4 := by
        rw [e0]; unfold tkC; rw [if_neg (fun y => y e3), if_pos (by omega)]
      have hff : p_f (stp b n s) = 1 + 8 * skp b n (p_a s) + 4 := by rw [e1]; rfl
      refine wm_fails (kd := 4) rfl rfl ⟨Or.inl rfl, ?_⟩
      have := hF (stp b n s) (RnS_step RnS_refl) (by omega) sg ln cl (jn (skp b n (p_a s))) nu md dp (jn (p_c s)) op opd mFr_refl (Or.inl rfl)
      rw [hff] at this
      exact this
    · have e1 : stp b n s = mkP (at1 b n s) 1 0 (p_c s + 1) (p_v s) false (p_d s) [] [] (p_p s) 0 := by
        rw [e0]; unfold tkC; rw [if_neg (fun y => y e3), if_neg (by omega)]
      have pf : p_f (stp b n s) = 0 := by rw [e1]; rfl
      have i3 := (stp_Inv hI hf (by omega) pf).1
      have hd' : p_d (stp b n s) = p_d s := by rw [e1]; rfl
      refine wm_leapHere (s := stp b n s) (p := skp b n (p_a s)) hN hn hB bB ht htx hsk.2 rfl ?_ (by rw [e1]; exact hmd) i3 pf (by rw [e1]; rfl) (by rw [e1]; rfl) (by rw [e1]; exact hsh.1) (by rw [e1]; rfl) (by rw [e1]; rfl) (by rw [e1]; rfl) (by rw [hd']; exact hC) (by rw [hd']; exact hcs) (by rw [hd']; omega) (fun s' r z sg' ln' cl' nx nu md dp op opd g1 g2 => ?_) (fun s' hE sg' ln' cl' cs' a' nu dp op opd g1 g2 g3 g4 g5 g6 g7 g8 => ?_)
      · rw [e1]
        show skp b n (p_a s) + wl b n (skp b n (p_a s)) = at1 b n s
        unfold at1; rw [en_word (i := 3) (by omega) e3]
      · unfold wp_X12_clauseHere_120
        rw [hd'] at g2
        exact ⟨Or.inl rfl, hF s' (RnS_trans (RnS_step RnS_refl) r) z _ _ _ _ _ _ _ _ _ _ g1 (Or.inr ⟨g2, by omega⟩)⟩
      · unfold wp_X12_clauseHere_120
        obtain ⟨h1, h2, h3, h4, h5, h6, h7⟩ := hE
        rw [hd'] at h4 g1 g3 g4 g5
        have hin' : inC s' = 1 := by unfold inC; rw [if_neg (by omega)]
        have hlc' := h2.2.2.2.2.2.2.1
        rw [h4] at hlc'
        rw [show jn (p_c s : Int) + (1 : Int32) = jn ((p_c s + 1 : Nat) : Int) from by (first | rfl | (simp (disch := omega) only [jn_add, jn_sub, jn_mul, jn_neg, li_0, li_1, li_2, li_3, li_4, li_5, li_6, li_7, li_8, li_9, li_10, li_11, li_12, li_13, li_14, li_15, li_16, li_17, li_18, li_20, li_24, li_29, li_30, li_31, li_32, li_37, li_39, li_40, li_42, li_43, li_45, li_46, li_47, li_48, li_53, li_57, li_59, li_60, li_61, li_62, li_63, li_80, li_81, li_91, li_93, li_97, li_100, li_122, li_200, li_255, li_256, li_257, li_258, li_259, li_260, li_300, li_314, li_400, li_580, li_999, li_5040, li_9999, li_65536, li_99999, li_7654321] <;> first | rfl | exact congrArg jn (by omega)) | exact congrArg jn (by omega))]
        exact ⟨Or.inr rfl, hK s' (RnS_trans (RnS_step RnS_refl) h1) h2 h3 h4 h5 (by omega) (by omega) h6 _ _ _ _ _ _ _ _ _ g1 g2 g3 g4 g5 g6 g7 g8⟩
  · rw [if_neg (show ¬ sgn b n (skp b n (p_a s)) = 300 + 3 from e3)]
    refine ⟨fun _ => ?_, fun z => absurd rfl z⟩
    unfold wp_X12_clauseHere_62
    have e1 : stp b n s = flt b n s 0 := by
      rw [e0]; unfold tkC; rw [if_pos (show sg0 b n s ≠ 303 from e3)]
    have hff : p_f (stp b n s) = 1 + 8 * skp b n (p_a s) + 0 := by rw [e1]; rfl
    refine wm_fails (kd := 0) rfl rfl ⟨Or.inl rfl, ?_⟩
    have := hF (stp b n s) (RnS_step RnS_refl) (by omega) sg ln cl (jn (skp b n (p_a s))) nu md dp li op opd mFr_refl (Or.inl rfl)
    rw [hff] at this
    exact this
end MRA
