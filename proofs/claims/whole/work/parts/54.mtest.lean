/-! the reference reads a rule: tests -/
/-- behind a test -/
def TE (b : Nat → Int) (n : Nat) (s s' : pS) : Prop := RnS b n s s' ∧ BF b n s' ∧ p_c s' = p_c s ∧ p_d s' = p_d s ∧ p_u s' = p_u s ∧ p_t s' = p_t s ∧ opn (p_p s') = 0 ∧ sg0 b n s' ≠ 312 ∧ sg0 b n s' ≠ 313
section MTE
variable {N n : Nat} {b : Nat → Int} {bt : Nat → Int32} {t : Nat}
/-- the machine goes on in the text -/
theorem itr_mono : ∀ (i : Nat) (x : pS), Inv n x → p_f x = 0 → p_f (itr b n i x) = 0 → p_a x ≤ p_a (itr b n i x) := by
  intro i
  induction i with
  | zero => intro x _ _ _; exact Nat.le_refl _
  | succ i ih2 =>
    intro x hx1 hx2 hx3
    by_cases h5 : p_s x = 5
    · have := itr_fix (b := b) (n := n) (s := x) (Or.inr h5) (i + 1)
      rw [this]; exact Nat.le_refl _
    · by_cases hxf : p_f (stp b n x) = 0
      · have hy := stp_Inv hx1 hx2 h5 hxf
        have := ih2 (stp b n x) hy.1 hxf hx3
        have hle : p_a x ≤ p_a (stp b n x) := by
          have hal := at_le (b := b) (n := n) (s := x) hx1.1
          have : p_a (stp b n x) = at1 b n x := by
            have aV : ∀ k, p_a (tkV b n x k) = at1 b n x := by
              intro k; unfold tkV; repeat' split
              all_goals rfl
            have aE : p_a (tkE b n x) = at1 b n x := by
              unfold tkE; by_cases e : sg0 b n x ≠ 59 ∧ sg0 b n x ≠ 256
              · rw [if_pos e]; rfl
              · rw [if_neg e]; rfl
            have aF : p_a (tkF b n x) = at1 b n x := by
              unfold tkF; repeat' split
              all_goals first | rfl | exact aE
            have aB : p_a (tkB b n x) = at1 b n x := by
              unfold tkB; repeat' split
              all_goals first | rfl | exact aE | exact aF
            have aX : p_a (tkX b n x) = at1 b n x := by
              unfold tkX; split
              · split <;> rfl
              · exact aV 1
            have aC : p_a (tkC b n x) = at1 b n x := by
              unfold tkC; repeat' split
              all_goals rfl
            unfold stp
            rw [if_neg (by omega)]
            repeat' split
            all_goals first | exact aC | exact aV _ | exact aX | exact aB | exact aF
          omega
        have e : itr b n (i + 1) x = itr b n i (stp b n x) := rfl
        rw [e] at hx3 ⊢
        omega
      · have := itr_fix (b := b) (n := n) (s := stp b n x) (Or.inl hxf) i
        have e : itr b n (i + 1) x = itr b n i (stp b n x) := rfl
        rw [e, this] at hx3
        exact absurd hx3 hxf
theorem RnS_mono {s s' : pS} (hI : Inv n s) (hf : p_f s = 0) (h : RnS b n s s') (hf' : p_f s' = 0) : p_a s ≤ p_a s' := by
  obtain ⟨i, rfl⟩ := h
  exact itr_mono i s hI hf hf'
theorem wm_tested {s : pS} {a : Nat} {Q : Int32 → (Nat → Int32) → (Nat → Int32) → Int32 → Int32 → Int32 → Int32 → Int32 → (Nat → Int32) → Int32 → Prop} {tx nx nu md dp opd : Int32} {sg ln op : Nat → Int32} (hN : 500 ≤ N) (hn : n ≤ 400) (hB : ∀ i, i < n → bt i = jn (b i)) (bB : ∀ i, -128 ≤ b i ∧ b i ≤ 127) (ht : t < 6) (htx : tx = jn t) (ha : a ≤ n) (hnx : nx = jn a) (hsa : skp b n a = skp b n (p_a s)) (hmd : md = jn (p_v s)) (hI : Inv n s) (hf : p_f s = 0) (hst : p_s s = 2) (hp0 : p_p s = []) (hC : mC t sg ln (TM 9 s))
    (hF : ∀ s', RnS b n s s' → p_f s' ≠ 0 → ∀ sg' ln' nx nu md dp op opd, mFr t sg ln sg' ln' → Q 0 sg' ln' nx (jn (p_f s')) nu md dp op opd)
    (hK : ∀ s', TE b n s s' → ∀ sg' ln' a' nu dp op opd, mC t sg' ln' (TM 1 s') → mFr t sg ln sg' ln' → a' ≤ n → skp b n a' = skp b n (p_a s') → Q 1 sg' ln' (jn a') 0 nu (jn (p_v s')) dp op opd) : wp_X12_tested N bt (jn n) tx Q sg ln nx 0 nu md dp op opd := by
  have bo_r : ∀ {m : Nat} {B : List Nat}, bO m B → ∀ o, o ∈ B → 12 ≤ o ∧ o ≤ 15 := fun h o ho => bO_r h o ho
  have loop : ∀ (m : Nat) (s1 : pS) (sg1 ln1 : Nat → Int32) (a1 : Nat) (nu dp opd : Int32) (op : Nat → Int32), RnS b n s s1 → Inv n s1 → p_f s1 = 0 → p_s s1 = 2 → p_c s1 = p_c s → p_d s1 = p_d s → p_u s1 = p_u s → p_t s1 = p_t s → mC t sg1 ln1 (TM 9 s1) → mFr t sg ln sg1 ln1 → a1 ≤ n → skp b n a1 = skp b n (p_a s1) → mO (p_p s1) dp op opd → n + 1 - p_a s1 < m → wp_X12_tested_12 N bt (jn n) tx Q m 1 sg1 ln1 (jn a1) 0 nu (jn (p_v s1)) dp op opd := by
    intro m
    induction m with
    | zero => intro s1 sg1 ln1 a1 nu dp opd op _ _ _ _ _ _ _ _ _ _ _ _ _ h2; omega
    | succ m ih =>
      intro s1 sg1 ln1 a1 nu dp opd op hr1 hI1 hf1 hs1 hc1 hd1 hu1 ht1 hC1 hFr ha1 hsa1 hO1 hm
      have hle1 := hI1.1
      unfold wp_X12_tested_12
      refine ⟨fun z => absurd z (by decide), fun _ => ?_⟩
      refine wm_fact (s := s1) hN hn hB bB ht htx ha1 rfl hsa1 rfl hI1 hf1 hs1 hC1 hO1 (fun s2 r2 z sg2 ln2 nx2 nu2 md2 dp2 op2 opd2 g => ?_) (fun s2 hFC sg2 ln2 a2 nu2 dp2 op2 opd2 g1 g2 g3 g4 g5 => ?_)
      · exact ⟨fun _ => hF s2 (RnS_trans hr1 r2) z sg2 ln2 nx2 nu2 md2 dp2 op2 opd2 (mFr_trans hFr g), fun y => absurd rfl y⟩
      · refine ⟨fun y => absurd y (by decide), fun _ => ?_⟩
        obtain ⟨f1, f2, f3, f4, f5, f6, f7, f8, f9, f10⟩ := hFC
        have hBF2 : BF b n s2 := ⟨f2, f3, Or.inl ⟨f4, f5, f10⟩⟩
        refine wm_closes (s := s2) hN hn hB bB ht htx g3 rfl g4 hBF2 g1 g5 (fun s3 hCL sg3 ln3 a3 dp3 opd3 k1 k2 k3 k4 k5 => ?_)
        obtain ⟨c1, c2, c3, c4, c5, c6, c7, c8⟩ := hCL
        have r3 : RnS b n s s3 := RnS_trans hr1 (RnS_trans f1 c1)
        have hI3 := c2.1
        have hf3 := c2.2.1
        have hsk := skp_le (b := b) k3
        have hss := skp_skp (b := b) k3
        rw [k4] at hsk hss
        have hen := en_le (b := b) hsk.2
        obtain ⟨-, hbm⟩ := BF_B c2
        have hb3 := hbm 3 (by omega)
        have hl3 := TM_len (m := 3) hI3 hn (BF_in c2)
        have hFr3 := mFr_trans hFr (mFr_trans g2 k2)
        have mono13 : p_a s1 ≤ p_a s3 := RnS_mono hI1 hf1 (RnS_trans f1 c1) hf3
        have hle3 := hI3.1
        rw [← c7]
        -- and, or: it goes on
        have goon : ∀ (o : Nat) (x : Int32), (o = 13 ∨ o = 14) → sg0 b n s3 = (if o = 13 then 312 else 313) → x = jn (oo o) → wp_X12_tested_76 N bt (jn n) tx (wp_X12_tested_12 N bt (jn n) tx Q m) Q 1 x sg3 ln3 (jn (skp b n (p_a s3))) 0 nu2 (jn (p_v s3)) dp3 op2 opd3 := by
          intro o x ho hsg hx
          have hword : en b n (skp b n (p_a s3)) = skp b n (p_a s3) + wl b n (skp b n (p_a s3)) := by
            rcases ho with e | e
            · subst e; exact en_word (i := 12) (by omega) hsg
            · subst e; exact en_word (i := 13) (by omega) hsg
          have hso : str o = (if o = 13 then 2 else 1) := by rcases ho with e | e <;> subst e <;> rfl
          have hsm : 1 ≤ str o ∧ str o ≤ 2 := by rcases ho with e | e <;> subst e <;> decide
          have es : stp b n s3 = mkP (at1 b n s3) 2 (p_k s3) (p_c s3) (p_v s3) (p_t s3) (p_d s3) (p_u s3) (popG (str o) (p_p s3) (p_w s3)).2 (o :: (popG (str o) (p_p s3) (p_w s3)).1) 0 := by
            rw [BF_step c2]; unfold tkF
            rcases ho with e | e
            · subst e; rw [if_pos (show sg0 b n s3 = 312 from hsg)]; rfl
            · subst e
              have hsg : sg0 b n s3 = 313 := hsg
              rw [if_neg (by omega), if_pos hsg]; rfl
          have pf : p_f (stp b n s3) = 0 := by rw [es]; rfl
          have i4 := (stp_Inv hI3 hf3 (by have := c2.2.2; omega) pf).1
          have hlm := TM_len (m := str o) hI3 hn (BF_in c2)
          unfold wp_X12_tested_76
          refine wm_passWord hN hn hB bB hsk.2 rfl ?_
          rw [← hword]
          refine wm_strength (o := o) (by omega) hx ?_
          refine wm_layDown (m := str o) hN ht htx rfl (by omega) (bo_r hb3.1) (by omega) k1 k5 (fun sg4 ln4 dp4 opd4 q1 q2 q3 => ?_)
          rw [TM_lay (by omega)] at q1 q3
          dsimp only at q1 q3
          obtain ⟨o1, o2, o3⟩ := q3
          have hT9 : TM 9 (stp b n s3) = TM (str o) s3 := by
            rw [TM_wk (wk_9 i4), es]; rfl
          have pa : p_a (stp b n s3) = at1 b n s3 := by rw [es]; rfl
          have hat := at_lt (b := b) (n := n) (s := s3) hI3.1 (by rw [hsg]; split <;> omega)
          have hle4 := i4.1
          refine ⟨by rw [o3]; exact by simp (disch := omega) only [jn_le, jn_lt, jn_eq, jn_in, jn_add, jn_sub, jn_mul, jn_neg, li_0, li_1, li_2, li_3, li_4, li_5, li_6, li_7, li_8, li_9, li_10, li_11, li_12, li_13, li_14, li_15, li_16, li_17, li_18, li_20, li_24, li_29, li_30, li_31, li_32, li_37, li_39, li_40, li_42, li_43, li_45, li_46, li_47, li_48, li_53, li_57, li_59, li_60, li_61, li_62, li_63, li_80, li_81, li_91, li_93, li_97, li_100, li_122, li_200, li_255, li_256, li_257, li_258, li_259, li_260, li_300, li_314, li_400, li_580, li_999, li_5040, li_9999, li_65536, li_99999, li_7654321] <;> omega, fun a37 h37 => ?_⟩
          rw [o3, jn_cln (by omega), hx] at h37
          have := ih (stp b n s3) sg4 ln4 (en b n (skp b n (p_a s3))) nu2 dp4 (opd4 + (1 : Int32)) a37 (RnS_step r3) i4 pf (by rw [es]; rfl) (by rw [es]; show p_c s3 = _; rw [c3, f6, hc1]) (by rw [es]; show p_d s3 = _; rw [c4, f7, hd1]) (by rw [es]; show p_u s3 = _; rw [c5, f8, hu1]) (by rw [es]; show p_t s3 = _; rw [c6, f9, ht1]) (by rw [hT9]; exact q1) (mFr_trans hFr3 q2) hen.2 (by rw [pa]; rfl) ?_ (by rw [pa]; omega)
          · rw [show p_v (stp b n s3) = p_v s3 by rw [es]; rfl] at this
            exact this
          · have pp : p_p (stp b n s3) = o :: (popG (str o) (p_p s3) (p_w s3)).1 := by rw [es]; rfl
            rw [pp]
            refine ⟨by rw [h37]; exact oA_push o1, ?_, ?_⟩
            · rw [o2, dep_cons, if_neg (by omega)]; rfl
            · rw [o3, List.length_cons, li_1, jn_add]; rfl
        have go54 : ∀ o : Nat, (o = 13 ∨ o = 14) → sg0 b n s3 = (if o = 13 then 312 else 313) → wp_X12_tested_54 N bt (jn n) tx (wp_X12_tested_12 N bt (jn n) tx Q m) Q 1 sg3 ln3 (jn (skp b n (p_a s3))) 0 nu2 (jn (p_v s3)) dp3 op2 opd3 := by
          intro o ho hsg
          unfold wp_X12_tested_54
          refine ⟨fun y => absurd y (by decide), fun _ => ?_⟩
          refine wm_isWord (i := 12) hN hn hB bB hsk.2 rfl (by omega) rfl ?_
          rw [hss]
          rcases ho with e | e
          · subst e
            rw [if_pos (show sgn b n (skp b n (p_a s3)) = 300 + 12 from hsg)]
            exact ⟨fun y => absurd y (by decide), fun _ => goon 13 _ (Or.inl rfl) hsg rfl⟩
          · subst e
            have hsg' : sgn b n (skp b n (p_a s3)) = 313 := hsg
            rw [if_neg (by omega)]
            exact ⟨fun _ => goon 14 _ (Or.inr rfl) hsg rfl, fun y => absurd rfl y⟩
        refine wm_isWord (i := 12) hN hn hB bB k3 rfl (by omega) rfl ?_
        rw [k4]
        unfold wp_X12_tested_49
        by_cases e12 : sg0 b n s3 = 312
        · rw [if_pos (show sgn b n (skp b n (p_a s3)) = 300 + 12 from e12)]
          exact ⟨fun y => absurd y (by decide), fun _ => go54 13 (Or.inl rfl) e12⟩
        · rw [if_neg (show ¬ sgn b n (skp b n (p_a s3)) = 300 + 12 from e12)]
          refine ⟨fun _ => ?_, fun y => absurd rfl y⟩
          refine wm_isWord (i := 13) hN hn hB bB hsk.2 rfl (by omega) rfl ?_
          rw [hss]
          by_cases e13 : sg0 b n s3 = 313
          · rw [if_pos (show sgn b n (skp b n (p_a s3)) = 300 + 13 from e13)]
            exact ⟨fun y => absurd y (by decide), fun _ => go54 14 (Or.inr rfl) e13⟩
          · rw [if_neg (show ¬ sgn b n (skp b n (p_a s3)) = 300 + 13 from e13)]
            refine ⟨fun _ => ?_, fun y => absurd rfl y⟩
            unfold wp_X12_tested_54
            refine ⟨fun _ => ?_, fun y => absurd rfl y⟩
            obtain ⟨m, rfl⟩ : ∃ m', m = m' + 1 := ⟨m - 1, by omega⟩
            unfold wp_X12_tested_12
            refine ⟨fun _ => ?_, fun y => absurd rfl y⟩
            refine wm_isInside hN (bo_r hb3.1) (by omega) k5 ?_
            rw [hb3.2]
            by_cases eo : opn (p_p s3) = 0
            · rw [if_pos eo]
              refine ⟨fun _ => ?_, fun y => absurd rfl y⟩
              refine wm_layDown (m := 1) hN ht htx rfl (by omega) (bo_r hb3.1) (by omega) k1 k5 (fun sg4 ln4 dp4 opd4 q1 q2 q3 => ?_)
              rw [TM_lay (by omega)] at q1
              exact hK s3 ⟨r3, c2, by rw [c3, f6, hc1], by rw [c4, f7, hd1], by rw [c5, f8, hu1], by rw [c6, f9, ht1], eo, e12, e13⟩ sg4 ln4 _ nu2 dp4 op2 opd4 q1 (mFr_trans hFr3 q2) hsk.2 hss
            · rw [if_neg eo]
              refine ⟨fun y => absurd y (by decide), fun _ => ?_⟩
              refine wm_see hN hn hB bB hsk.2 rfl ?_
              rw [hss]
              have n93 : sg0 b n s3 ≠ 93 := by
                rcases c8 with z | z
                · exact z
                · exact absurd z eo
              have hfe : p_f (stp b n s3) = 1 + 8 * skp b n (p_a s3) + 0 := by
                rw [BF_step c2]; unfold tkF; rw [if_neg e12, if_neg e13, if_neg eo, if_neg n93]; rfl
              refine wm_fails (kd := 0) rfl rfl ⟨Or.inl rfl, ?_⟩
              rw [← hfe]
              exact hF _ (RnS_step r3) (by rw [hfe]; omega) sg3 ln3 _ _ _ _ _ _ hFr3
  unfold wp_X12_tested
  rw [hnx, hmd]
  refine loop N s sg ln a nu 0 0 op RnS_refl hI hf hst rfl rfl rfl rfl hC mFr_refl ha hsa ?_ (by omega)
  rw [hp0]
  exact ⟨fun i v h => by simp at h, rfl, rfl⟩
end MTE
