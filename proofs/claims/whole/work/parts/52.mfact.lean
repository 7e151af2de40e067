/-! the reference reads a rule: facts -/
/-- behind a fact's comparison -/
def FC (b : Nat → Int) (n : Nat) (s s' : pS) : Prop := RnS b n s s' ∧ Inv n s' ∧ p_f s' = 0 ∧ p_s s' = 3 ∧ p_k s' = 2 ∧ p_c s' = p_c s ∧ p_d s' = p_d s ∧ p_u s' = p_u s ∧ p_t s' = p_t s ∧ wrk (sg0 b n s') = 18
/-- as a fact's first value is read -/
def as1 (s : pS) : pS := mkP (p_a s) 1 1 (p_c s) (p_v s) (p_t s) (p_d s) (p_u s) (p_w s) (p_p s) 0
section MFA
variable {N n : Nat} {b : Nat → Int} {bt : Nat → Int32} {t : Nat}
theorem as1_Inv {s : pS} (hI : Inv n s) (hst : p_s s = 2) : Inv n (as1 s) ∧ wk 4 (p_p (as1 s)) ∧ bO 3 (p_p s) ∧ (p_t s = true ∧ tyr (p_u s) [] = some [false]) := by
  obtain ⟨ha, hw, hd, hv, hc, hct, hdl, hsh⟩ := hI
  have h2 : (p_t s = true ∧ tyr (p_u s) [] = some [false]) ∧ bO 3 (p_p s) ∧ tyr (p_w s) [] = some (pnd (p_p s)) := by
    rcases hsh with ⟨z, -⟩ | ⟨z, -⟩ | ⟨z, -⟩ | ⟨-, z⟩ | ⟨z, -⟩
    · omega
    · omega
    · omega
    · exact z
    · omega
  have hin : inC s = 1 := inC_1 (by omega)
  refine ⟨⟨ha, ?_, hd, hv, hc, hct, ?_, ?_⟩, bO_wk h2.2.1 (by omega), h2.2.1, h2.1⟩
  · show (cod s).length + (p_p s).length + 1 ≤ p_a s
    omega
  · show (p_d s).length + 1 = p_c s; omega
  · refine Or.inr (Or.inl ⟨rfl, Or.inr ⟨Or.inl rfl, h2.1⟩, ?_, h2.2.2⟩)
    show aO (RK 1) 7 (p_p s)
    have hb := h2.2.1
    cases hp : p_p s with
    | nil => exact Or.inr (Or.inl ⟨rfl, trivial⟩)
    | cons o q => rw [hp] at hb; exact Or.inr (Or.inr (Or.inl ⟨rfl, hb⟩))
/-- what is reached from there is reached from here -/
theorem as1_Rn {s s' : pS} (hf : p_f s = 0) (hst : p_s s = 2) (hx : ¬ (sg0 b n s = 91 ∨ sg0 b n s = 311)) (hr : RnS b n (as1 s) s') (hne : p_f s' ≠ 0 ∨ p_s s' ≠ 1) : (p_f s' = 0 → RnS b n s s') ∧ (p_f s' ≠ 0 → ∃ s'', RnS b n s s'' ∧ p_f s'' = p_f s') := by
  have e1 : stp b n (as1 s) = tkV b n (as1 s) 1 := stp_1 rfl rfl
  have e2 : stp b n s = tkV b n s 1 := by rw [stp_2 hf hst]; unfold tkX; rw [if_neg hx]
  have sm : (p_f (tkV b n (as1 s) 1) = p_f (tkV b n s 1)) ∧ (p_f (tkV b n s 1) = 0 → tkV b n (as1 s) 1 = tkV b n s 1) := by
    unfold tkV
    have a1 : sg0 b n (as1 s) = sg0 b n s := rfl
    have a2 : p_a (as1 s) = p_a s := rfl
    have a3 : p_v (as1 s) = p_v s := rfl
    rw [a1, a2, a3]
    by_cases c1 : sg0 b n s ≠ 257 ∧ ¬ (300 ≤ sg0 b n s ∧ sg0 b n s < 310)
    · rw [if_pos c1, if_pos c1]; exact ⟨rfl, fun z => absurd z flt_f⟩
    · rw [if_neg c1, if_neg c1]
      by_cases c2 : sg0 b n s = 257 ∧ numb b n (skp b n (p_a s)) = -1
      · rw [if_pos c2, if_pos c2]; exact ⟨rfl, fun z => absurd z flt_f⟩
      · rw [if_neg c2, if_neg c2]
        by_cases c3 : 60 ≤ p_v s
        · rw [if_pos c3, if_pos c3]; exact ⟨rfl, fun z => absurd z flt_f⟩
        · rw [if_neg c3, if_neg c3]; exact ⟨rfl, fun _ => rfl⟩
  obtain ⟨i, hi⟩ := hr
  cases i with
  | zero =>
    have hi : as1 s = s' := hi
    subst hi
    rcases hne with z | z
    · exact absurd rfl z
    · exact absurd rfl z
  | succ i =>
    have hi : itr b n i (stp b n (as1 s)) = s' := hi
    rw [e1] at hi
    by_cases c : p_f (tkV b n s 1) = 0
    · rw [sm.2 c, ← e2] at hi
      have r : RnS b n s s' := ⟨i + 1, hi⟩
      exact ⟨fun _ => r, fun _ => ⟨s', r, rfl⟩⟩
    · have hfix := itr_fix (b := b) (n := n) (s := tkV b n (as1 s) 1) (Or.inl (by rw [sm.1]; exact c)) i
      rw [hfix] at hi
      have e3 : p_f s' = p_f (stp b n s) := by rw [← hi, sm.1, e2]
      refine ⟨fun z => ?_, fun _ => ⟨stp b n s, RnS_step RnS_refl, e3.symm⟩⟩
      rw [e3, e2] at z; exact absurd z c
theorem wm_fact {s : pS} {a : Nat} {Q : Int32 → (Nat → Int32) → (Nat → Int32) → Int32 → Int32 → Int32 → Int32 → Int32 → (Nat → Int32) → Int32 → Prop} {tx nx nu md dp opd : Int32} {sg ln op : Nat → Int32} (hN : 500 ≤ N) (hn : n ≤ 400) (hB : ∀ i, i < n → bt i = jn (b i)) (bB : ∀ i, -128 ≤ b i ∧ b i ≤ 127) (ht : t < 6) (htx : tx = jn t) (ha : a ≤ n) (hnx : nx = jn a) (hsa : skp b n a = skp b n (p_a s)) (hmd : md = jn (p_v s)) (hI : Inv n s) (hf : p_f s = 0) (hst : p_s s = 2) (hC : mC t sg ln (TM 9 s)) (hO : mO (p_p s) dp op opd)
    (hF : ∀ s', RnS b n s s' → p_f s' ≠ 0 → ∀ sg' ln' nx nu md dp op opd, mFr t sg ln sg' ln' → Q 0 sg' ln' nx (jn (p_f s')) nu md dp op opd)
    (hK : ∀ s', FC b n s s' → ∀ sg' ln' a' nu dp op opd, mC t sg' ln' (TM 4 s') → mFr t sg ln sg' ln' → a' ≤ n → skp b n a' = skp b n (p_a s') → mO (popG 4 (p_p s') (p_w s')).1 dp op opd → Q 1 sg' ln' (jn a') 0 nu (jn (p_v s')) dp op opd) : wp_X12_fact N bt (jn n) tx Q sg ln nx 0 nu md dp op opd := by
  have loop : ∀ (m : Nat) (s1 : pS) (a1 : Nat) (nu dp opd : Int32) (op : Nat → Int32), RnS b n s s1 → Inv n s1 → p_f s1 = 0 → p_s s1 = 2 → p_c s1 = p_c s → p_d s1 = p_d s → p_u s1 = p_u s → p_t s1 = p_t s → p_v s1 = p_v s → TM 9 s1 = TM 9 s → a1 ≤ n → skp b n a1 = skp b n (p_a s1) → mO (p_p s1) dp op opd → n + 1 - p_a s1 < m → wp_X12_fact_2 N bt (jn n) tx Q m 1 sg ln (jn a1) 0 nu (jn (p_v s)) dp op opd := by
    intro m
    induction m with
    | zero => intro s1 a1 nu dp opd op _ _ _ _ _ _ _ _ _ _ _ _ _ h2; omega
    | succ m ih =>
      intro s1 a1 nu dp opd op hr1 hI1 hf1 hs1 hc1 hd1 hu1 ht1 hv1 hT1 ha1 hsa1 hO1 hm
      have hsk := skp_le (b := b) ha1
      have hss := skp_skp (b := b) ha1
      rw [hsa1] at hsk hss
      have hen := en_le (b := b) hsk.2
      have hpl := p_len hI1
      have hdep := hI1.2.2.1
      have hlen := cod_len hI1 hn (inC_1 (by omega))
      have hle1 := hI1.1
      unfold wp_X12_fact_2 wp_X12_fact_72
      refine ⟨fun z => absurd z (by decide), fun _ => ?_⟩
      refine wm_see hN hn hB bB ha1 rfl ?_
      rw [hsa1]
      refine wm_isWord (i := 11) hN hn hB bB hsk.2 rfl (by omega) rfl ?_
      rw [hss]
      -- one that opens
      have opn1 : ∀ o : Nat, (o = 12 ∨ o = 15) → (sg0 b n s1 = 91 ∨ sg0 b n s1 = 311) → o = (if sg0 b n s1 = 91 then 15 else 12) → (10 ≤ dep (p_p s1) → p_f (stp b n s1) = 1 + 8 * skp b n (p_a s1) + 2) ∧ (dep (p_p s1) < 10 → stp b n s1 = mkP (at1 b n s1) 2 (p_k s1) (p_c s1) (p_v s1) (p_t s1) (p_d s1) (p_u s1) (p_w s1) (o :: p_p s1) 0) := by
        intro o ho hs2 eo
        rw [stp_2 hf1 hs1]
        unfold tkX
        rw [if_pos hs2, ← eo]
        refine ⟨fun z => ?_, fun z => ?_⟩
        · rw [if_pos z]; rfl
        · rw [if_neg (by omega)]
      have more : ∀ (o : Nat) (x : Int32) (Q' : Int32 → Prop), (o = 12 ∨ o = 15) → (sg0 b n s1 = 91 ∨ sg0 b n s1 = 311) → o = (if sg0 b n s1 = 91 then 15 else 12) → ∀ nu dp' op' opd', mO (o :: p_p s1) dp' op' opd' → dep (p_p s1) < 10 → wp_X12_fact_2 N bt (jn n) tx Q m 1 sg ln (jn (en b n (skp b n (p_a s1)))) 0 nu (jn (p_v s)) dp' op' opd' := by
        intro o x Q' ho hs2 eo nu dp' op' opd' hO' hdl
        have e1 := (opn1 o ho hs2 eo).2 hdl
        have pf : p_f (stp b n s1) = 0 := by rw [e1]; rfl
        have i2 := stp_Inv hI1 hf1 (by omega) pf
        have hT9 : TM 9 (stp b n s1) = TM 9 s1 := by
          rw [TM_wk (wk_9 i2.1), TM_wk (wk_9 hI1), e1]; rfl
        have hat := at_lt (b := b) (n := n) (s := s1) hI1.1 (by omega)
        have hle2 := i2.1.1
        have pa : p_a (stp b n s1) = at1 b n s1 := by rw [e1]; rfl
        refine ih (stp b n s1) _ nu dp' opd' op' (RnS_step hr1) i2.1 pf (by rw [e1]; rfl) (by rw [e1]; exact hc1) (by rw [e1]; exact hd1) (by rw [e1]; exact hu1) (by rw [e1]; exact ht1) (by rw [e1]; exact hv1) (by rw [hT9]; exact hT1) hen.2 (by rw [pa]; rfl) ?_ ?_
        · have : p_p (stp b n s1) = o :: p_p s1 := by rw [e1]; rfl
          rw [this]; exact hO'
        · rw [pa]; omega
      by_cases e311 : sg0 b n s1 = 311
      · rw [if_pos (show sgn b n (skp b n (p_a s1)) = 300 + 11 from e311)]
        refine ⟨fun z => absurd z (by decide), fun _ => ?_⟩
        have eo : 12 = (if sg0 b n s1 = 91 then 15 else 12) := by rw [if_neg (by omega)]
        refine wm_opens (B := p_p s1) (o := 12) rfl (Or.inl rfl) rfl (by omega) hdep hO1 (fun z => ?_) (fun z dp' op' opd' hO' => ?_)
        · refine ⟨fun _ => ?_, fun y => absurd rfl y⟩
          have hfe := (opn1 12 (Or.inl rfl) (Or.inr e311) eo).1 z
          rw [← hfe]
          exact hF _ (RnS_step hr1) (by rw [hfe]; omega) sg ln _ _ _ _ _ _ mFr_refl
        · refine ⟨fun y => absurd y (by decide), fun _ => ?_⟩
          refine wm_passWord hN hn hB bB hsk.2 rfl ?_
          rw [← en_word (i := 11) (by omega) e311]
          exact more 12 0 (fun _ => True) (Or.inl rfl) (Or.inr e311) eo _ _ _ _ hO' z
      · rw [if_neg (show ¬ sgn b n (skp b n (p_a s1)) = 300 + 11 from e311)]
        refine ⟨fun _ => ?_, fun y => absurd rfl y⟩
        rw [show (91 : Int32) = jn (91 : Nat) from rfl, see_mark bB (by omega) (by omega) (by omega) (by omega)]
        refine ⟨fun e91 => ?_, fun e91 => ?_⟩
        · have e91' : sg0 b n s1 = 91 := e91
          have eo : 15 = (if sg0 b n s1 = 91 then 15 else 12) := by rw [if_pos e91']
          refine wm_opens (B := p_p s1) (o := 15) rfl (Or.inr rfl) rfl (by omega) hdep hO1 (fun z => ?_) (fun z dp' op' opd' hO' => ?_)
          · refine ⟨fun _ => ?_, fun y => absurd rfl y⟩
            have hfe := (opn1 15 (Or.inr rfl) (Or.inl e91') eo).1 z
            rw [← hfe]
            exact hF _ (RnS_step hr1) (by rw [hfe]; omega) sg ln _ _ _ _ _ _ mFr_refl
          · refine ⟨fun y => absurd y (by decide), fun _ => ?_⟩
            have hem := en_mark bB (by omega) (by omega) (by omega) (by omega) e91
            rw [show jn (skp b n (p_a s1) : Int) + (1 : Int32) = jn (en b n (skp b n (p_a s1)) : Int) by rw [hem]; exact by (first | rfl | (simp (disch := omega) only [jn_add, jn_sub, jn_mul, jn_neg, li_0, li_1, li_2, li_3, li_4, li_5, li_6, li_7, li_8, li_9, li_10, li_11, li_12, li_13, li_14, li_15, li_16, li_17, li_18, li_20, li_24, li_29, li_30, li_31, li_32, li_37, li_39, li_40, li_42, li_43, li_45, li_46, li_47, li_48, li_53, li_57, li_59, li_60, li_61, li_62, li_63, li_80, li_81, li_91, li_93, li_97, li_100, li_122, li_200, li_255, li_256, li_257, li_258, li_259, li_260, li_300, li_314, li_400, li_580, li_999, li_5040, li_9999, li_65536, li_99999, li_7654321] <;> first | rfl | exact congrArg jn (by omega)) | exact congrArg jn (by omega))]
            exact more 15 0 (fun _ => True) (Or.inr rfl) (Or.inl e91') eo _ _ _ _ hO' z
        · -- a comparison
          obtain ⟨m, rfl⟩ : ∃ m', m = m' + 1 := ⟨m - 1, by omega⟩
          have hx : ¬ (sg0 b n s1 = 91 ∨ sg0 b n s1 = 311) := fun z => by rcases z with z | z; exact e91 z; exact e311 z
          obtain ⟨ii, iw, ib, it⟩ := as1_Inv hI1 hs1
          unfold wp_X12_fact_2
          refine ⟨fun _ => ?_, fun y => absurd rfl y⟩
          have hTa : TM 9 (as1 s1) = TM 9 s := by
            rw [← hT1, TM_wk (wk_9 ii), TM_wk (wk_9 hI1)]; rfl
          refine wm_compare (s := as1 s1) (a := skp b n (p_a s1)) hN hn hB bB ht htx hsk.2 rfl hss (by show _ = jn (p_v s1 : Nat); rw [hv1]) ii rfl rfl rfl iw (by rw [hTa]; exact hC) (fun s2 r2 z sg2 ln2 nx2 nu2 md2 g => ⟨Or.inl rfl, ?_⟩) (fun s2 hCM sg2 ln2 a2 nu2 g1 g2 g3 g4 => ⟨Or.inr rfl, ?_⟩)
          · obtain ⟨s3, r3, e3⟩ := (as1_Rn hf1 hs1 hx r2 (Or.inl z)).2 z
            rw [← e3]
            exact hF s3 (RnS_trans hr1 r3) (by rw [e3]; exact z) sg2 ln2 _ _ _ _ _ _ g
          · obtain ⟨l1, l2, l3, l4, l5, l6, l7, l8, l9, l10, l11⟩ := hCM
            have r3 := (as1_Rn hf1 hs1 hx l1 (Or.inr (by omega))).1 l3
            refine hK s2 ⟨RnS_trans hr1 r3, l2, l3, l4, l5, ?_, ?_, ?_, ?_, l11⟩ sg2 ln2 a2 nu2 dp op opd g1 g2 g3 g4 ?_
            · rw [l6]; exact hc1
            · rw [l7]; exact hd1
            · rw [l8]; exact hu1
            · rw [l9]; exact ht1
            · rw [l10]; exact hO1
  unfold wp_X12_fact
  rw [hnx, hmd]
  exact loop N s a nu dp opd op RnS_refl hI hf hst rfl rfl rfl rfl rfl rfl ha hsa hO (by omega)
end MFA
