/-! the reference reads a rule: what closes -/
/-- behind a fact, all that binds more strongly than and -/
def BF (b : Nat → Int) (n : Nat) (s : pS) : Prop := Inv n s ∧ p_f s = 0 ∧ ((p_s s = 3 ∧ p_k s = 2 ∧ wrk (sg0 b n s) = 18) ∨ p_s s = 4)
def CL (b : Nat → Int) (n : Nat) (s s' : pS) : Prop := RnS b n s s' ∧ BF b n s' ∧ p_c s' = p_c s ∧ p_d s' = p_d s ∧ p_u s' = p_u s ∧ p_t s' = p_t s ∧ p_v s' = p_v s ∧ (sg0 b n s' ≠ 93 ∨ opn (p_p s') = 0)
theorem TM_lay {m m' : Nat} {s : pS} (h : m' ≤ m) : popG m' (popG m (p_p s) (p_w s)).1 (TM m s) = ((popG m' (p_p s) (p_w s)).1, TM m' s) := by
  unfold TM
  rw [popG_app, ← popG_two h]
section MCL
variable {N n : Nat} {b : Nat → Int} {bt : Nat → Int32} {t : Nat}
theorem a2_pop4 : ∀ {p c : List Nat} {m' : Nat}, aO (RK 2) m' p → bO 3 (popG 4 p c).1
  | [], c, m', h => by
    rcases h with ⟨e, -⟩ | ⟨e, -⟩ | ⟨-, o, p', e, -⟩
    · cases e
    · cases e
    · cases e
  | o :: p, c, m', h => by
    rcases h with ⟨h1, h2, h3, h⟩ | h
    · have hs := str_a ⟨h1, h2⟩
      have eg : popG 4 (o :: p) c = popG 4 p (c ++ [o]) := by rw [popG, if_pos (by omega)]
      rw [eg]; exact a2_pop4 h
    · rcases h with ⟨e, -⟩ | ⟨e, -⟩ | ⟨-, o', p', e, h1, h2, h⟩
      · cases e
      · cases e
      · cases e
        have hs := str_c ⟨h1, h2⟩
        have eg : popG 4 (o :: p) c = popG 4 p (c ++ [o]) := by rw [popG, if_pos (by omega)]
        rw [eg, popG_wk (bO_wk h (by omega))]; exact h
/-- behind a fact: what is open -/
theorem BF_B {s : pS} (h : BF b n s) : bO 3 (popG 4 (p_p s) (p_w s)).1 ∧ (∀ m, 1 ≤ m ∧ m ≤ 3 → bO m (popG m (p_p s) (p_w s)).1 ∧ opn (popG m (p_p s) (p_w s)).1 = opn (p_p s)) := by
  obtain ⟨hI, -, hs⟩ := h
  rcases hI.2.2.2.2.2.2.2 with ⟨z, -⟩ | ⟨z, -⟩ | ⟨z, z1, z2, -⟩ | ⟨z, -⟩ | ⟨z, z1, z2, -⟩
  · omega
  · omega
  · have k2 : p_k s = 2 := by omega
    rw [k2] at z2
    refine ⟨a2_pop4 z2, fun m hm => ?_⟩
    obtain ⟨i1, -, -, -, i5⟩ := a2_pop (m := m) hm (c := p_w s) z2
    exact ⟨i1, i5⟩
  · omega
  · refine ⟨?_, fun m hm => ?_⟩
    · rw [popG_wk (bO_wk z2 (by omega))]; exact z2
    · obtain ⟨i1, -, -, -, i5⟩ := bO_pop (m := m) hm (c := p_w s) z2
      exact ⟨i1, i5⟩
theorem BF_step {s : pS} (h : BF b n s) : stp b n s = tkF b n s := by
  obtain ⟨hI, hf, hs⟩ := h
  rcases hs with ⟨z1, z2, z3⟩ | z
  · rw [stp_3 hf z1]; unfold tkB; rw [if_neg (by omega), if_neg (by omega), if_pos z2]
  · exact stp_4 hf z
theorem BF_in {s : pS} (h : BF b n s) : inC s = 1 := inC_1 (by have := h.2.2; omega)
theorem wm_closes {s : pS} {a : Nat} {Q : (Nat → Int32) → (Nat → Int32) → Int32 → Int32 → Int32 → Prop} {tx nx dp opd : Int32} {sg ln op : Nat → Int32} (hN : 500 ≤ N) (hn : n ≤ 400) (hB : ∀ i, i < n → bt i = jn (b i)) (bB : ∀ i, -128 ≤ b i ∧ b i ≤ 127) (ht : t < 6) (htx : tx = jn t) (ha : a ≤ n) (hnx : nx = jn a) (hsa : skp b n a = skp b n (p_a s)) (hF : BF b n s) (hC : mC t sg ln (TM 4 s)) (hO : mO (popG 4 (p_p s) (p_w s)).1 dp op opd)
    (hK : ∀ s', CL b n s s' → ∀ sg' ln' a' dp opd, mC t sg' ln' (TM 3 s') → mFr t sg ln sg' ln' → a' ≤ n → skp b n a' = skp b n (p_a s') → mO (popG 3 (p_p s') (p_w s')).1 dp op opd → Q sg' ln' (jn a') dp opd) : wp_X12_closes N bt (jn n) tx op Q sg ln nx dp opd := by
  have bo_r : ∀ {m : Nat} {B : List Nat}, bO m B → ∀ o, o ∈ B → 12 ≤ o ∧ o ≤ 15 := fun h o ho => bO_r h o ho
  have loop : ∀ (m : Nat) (s1 : pS) (sg1 ln1 : Nat → Int32) (a1 : Nat) (dp opd : Int32), RnS b n s s1 → BF b n s1 → p_c s1 = p_c s → p_d s1 = p_d s → p_u s1 = p_u s → p_t s1 = p_t s → p_v s1 = p_v s → mC t sg1 ln1 (TM 3 s1) → mFr t sg ln sg1 ln1 → a1 ≤ n → skp b n a1 = skp b n (p_a s1) → mO (popG 3 (p_p s1) (p_w s1)).1 dp op opd → n - p_a s1 < m → wp_X12_closes_5 N bt (jn n) tx op Q m sg1 ln1 (jn a1) dp opd := by
    intro m
    induction m with
    | zero => intro s1 sg1 ln1 a1 dp opd _ _ _ _ _ _ _ _ _ _ _ _ h2; omega
    | succ m ih =>
      intro s1 sg1 ln1 a1 dp opd hr1 hF1 hc1 hd1 hu1 ht1 hv1 hC1 hFr ha1 hsa1 hO1 hm
      have hsk := skp_le (b := b) ha1
      have hss := skp_skp (b := b) ha1
      rw [hsa1] at hsk hss
      have hen := en_le (b := b) hsk.2
      have hI1 := hF1.1
      obtain ⟨-, hbm⟩ := BF_B hF1
      have hb3 := hbm 3 (by omega)
      have hb1 := hbm 1 (by omega)
      have hl3 := TM_len (m := 3) hI1 hn (BF_in hF1)
      have hl1 := TM_len (m := 1) hI1 hn (BF_in hF1)
      unfold wp_X12_closes_5 wp_X12_closes_64
      refine wm_see hN hn hB bB ha1 rfl ?_
      rw [hsa1, show (93 : Int32) = jn (93 : Nat) from rfl, see_mark bB (by omega) (by omega) (by omega) (by omega)]
      refine ⟨fun z => ?_, fun z => ?_⟩
      · refine wm_isInside hN (bo_r hb3.1) (by omega) hO1 ?_
        rw [hb3.2]
        by_cases e : opn (p_p s1) = 0
        · rw [if_pos e]
          refine ⟨fun _ => ?_, fun y => absurd rfl y⟩
          exact hK s1 ⟨hr1, hF1, hc1, hd1, hu1, ht1, hv1, Or.inr e⟩ sg1 ln1 _ dp opd hC1 hFr hsk.2 hss hO1
        · rw [if_neg e]
          refine ⟨fun y => absurd y (by decide), fun _ => ?_⟩
          have z' : sg0 b n s1 = 93 := z
          have es : stp b n s1 = mkP (at1 b n s1) 4 (p_k s1) (p_c s1) (p_v s1) (p_t s1) (p_d s1) (p_u s1) (popG 1 (p_p s1) (p_w s1)).2 (popG 1 (p_p s1) (p_w s1)).1.tail 0 := by
            rw [BF_step hF1]; unfold tkF; rw [if_neg (by omega), if_neg (by omega), if_neg e, if_pos z']
          have pf : p_f (stp b n s1) = 0 := by rw [es]; rfl
          have i2 := (stp_Inv hI1 hF1.2.1 (by have := hF1.2.2; omega) pf).1
          have hF2 : BF b n (stp b n s1) := ⟨i2, pf, Or.inr (by rw [es]; rfl)⟩
          obtain ⟨q, hq, hq3⟩ := (bO1 hb1.1 popG_stop).2 (by rw [hb1.2]; exact e)
          refine wm_layDown (m := 1) hN ht htx rfl (by omega) (bo_r hb3.1) (by omega) hC1 hO1 (fun sg2 ln2 dp2 opd2 g1 g2 g3 => ?_)
          rw [TM_lay (by omega)] at g1 g3
          dsimp only at g1 g3
          rw [hq] at g3
          obtain ⟨o1, o2, o3⟩ := g3
          have pp2 : p_p (stp b n s1) = q := by rw [es]; show (popG 1 (p_p s1) (p_w s1)).1.tail = q; rw [hq]; rfl
          have hT9 : TM 9 (stp b n s1) = TM 1 s1 := by
            rw [TM_wk (wk_9 i2), es]; rfl
          have hb2 := bO_wk hq3 (k := 4) (by omega)
          have hT4 : TM 4 (stp b n s1) = TM 1 s1 := by
            rw [← hT9, TM_wk (wk_9 i2), TM_wk (by rw [pp2]; exact hb2)]
          have dle : dep q ≤ q.length := List.countP_le_length
          have hql : q.length < 400 := by rw [hq] at hl1; simp only [List.length_cons] at hl1; omega
          refine wm_layDown (m := 3) (B := q) (T := TM 1 s1) hN ht htx rfl (by omega) (bo_r hq3) (by rw [hq] at hl1; simp only [List.length_cons] at hl1; omega) g1 ⟨(oA_top o1).2, ?_, ?_⟩ (fun sg3 ln3 dp3 opd3 k1 k2 k3 => ?_)
          · rw [o2, dep_cons, if_pos (Or.inr rfl), li_1, jn_sub]; exact congrArg jn (by omega)
          · rw [o3, List.length_cons, li_1, jn_sub]; exact congrArg jn (by omega)
          · have hlay := TM_lay (m := 4) (m' := 3) (s := stp b n s1) (by omega)
            rw [hT4, pp2, popG_wk (m := 4) (p := q) (c := p_w (stp b n s1)) hb2] at hlay
            rw [hlay] at k1 k3
            dsimp only at k1 k3
            have hem := en_mark bB (by omega) (by omega) (by omega) (by omega) z
            have pa : p_a (stp b n s1) = at1 b n s1 := by rw [es]; rfl
            have hat := at_lt (b := b) (n := n) (s := s1) hI1.1 (by omega)
            have hle2 := i2.1
            rw [show jn (skp b n (p_a s1) : Int) + (1 : Int32) = jn (en b n (skp b n (p_a s1)) : Int) by rw [hem]; exact by (first | rfl | (simp (disch := omega) only [jn_add, jn_sub, jn_mul, jn_neg, li_0, li_1, li_2, li_3, li_4, li_5, li_6, li_7, li_8, li_9, li_10, li_11, li_12, li_13, li_14, li_15, li_16, li_17, li_18, li_20, li_24, li_29, li_30, li_31, li_32, li_37, li_39, li_40, li_42, li_43, li_45, li_46, li_47, li_48, li_53, li_57, li_59, li_60, li_61, li_62, li_63, li_80, li_81, li_91, li_93, li_97, li_100, li_122, li_200, li_255, li_256, li_257, li_258, li_259, li_260, li_300, li_314, li_400, li_580, li_999, li_5040, li_9999, li_65536, li_99999, li_7654321] <;> first | rfl | exact congrArg jn (by omega)) | exact congrArg jn (by omega))]
            refine ih (stp b n s1) sg3 ln3 _ dp3 opd3 (RnS_step hr1) hF2 (by rw [es]; exact hc1) (by rw [es]; exact hd1) (by rw [es]; exact hu1) (by rw [es]; exact ht1) (by rw [es]; exact hv1) k1 (mFr_trans hFr (mFr_trans g2 k2)) hen.2 (by rw [pa]; rfl) (by rw [pp2]; exact k3) (by rw [pa]; omega)
      · exact hK s1 ⟨hr1, hF1, hc1, hd1, hu1, ht1, hv1, Or.inl z⟩ sg1 ln1 _ dp opd hC1 hFr hsk.2 hss hO1
  obtain ⟨hb4, hbm⟩ := BF_B hF
  have hl4 := TM_len (m := 4) hF.1 hn (BF_in hF)
  unfold wp_X12_closes
  rw [hnx]
  refine wm_layDown (m := 3) hN ht htx rfl (by omega) (bo_r hb4) (by omega) hC hO (fun sg2 ln2 dp2 opd2 g1 g2 g3 => ?_)
  rw [TM_lay (by omega)] at g1 g3
  exact loop N s sg2 ln2 a dp2 opd2 RnS_refl hF rfl rfl rfl rfl rfl g1 g2 ha hsa g3 (by omega)
end MCL
