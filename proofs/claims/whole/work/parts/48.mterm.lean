/-! the reference reads a rule: terms and sums -/
theorem fm_le : ∀ {d : List cS1}, (fm d).length ≤ (fl d).length
  | [] => Nat.le_refl _
  | c :: d => by
    have ih := fm_le (d := d)
    have e1 : fm (c :: d) = fmc c ++ fm d := by unfold fm; rw [List.flatMap_cons]
    rw [e1, fl_cons]
    simp only [List.length_append]
    have : (fmc c).length ≤ (flc c).length := by
      unfold fmc flc
      cases c.2 with
      | none => simp
      | some t => simp
    omega
theorem popG_two {m m' : Nat} (h : m' ≤ m) : ∀ {p c : List Nat}, popG m' p c = popG m' (popG m p c).1 (popG m p c).2
  | [], c => rfl
  | o :: p, c => by
    by_cases e : m ≤ str o
    · have e1 : popG m (o :: p) c = popG m p (c ++ [o]) := by rw [popG, if_pos e]
      have e2 : popG m' (o :: p) c = popG m' p (c ++ [o]) := by rw [popG, if_pos (by omega)]
      rw [e1, e2]; exact popG_two h
    · have e1 : popG m (o :: p) c = (o :: p, c) := by rw [popG, if_neg e]
      rw [e1]
section MT
variable (b : Nat → Int) (n : Nat)
def RnS (s s' : pS) : Prop := ∃ i, itr b n i s = s'
/-- behind a value: reached from there, what waits beyond is at least so strong -/
def BH (m : Nat) (s s' : pS) : Prop := RnS b n s s' ∧ Inv n s' ∧ p_f s' = 0 ∧ p_s s' = 3 ∧ p_k s' = p_k s ∧ p_c s' = p_c s ∧ p_d s' = p_d s ∧ p_u s' = p_u s ∧ p_t s' = p_t s ∧ (popG m (p_p s') (p_w s')).1 = p_p s
end MT
section MT2
variable {N n : Nat} {b : Nat → Int} {bt : Nat → Int32} {t : Nat}
theorem RnS_refl {s : pS} : RnS b n s s := ⟨0, rfl⟩
theorem RnS_step {s s' : pS} (h : RnS b n s s') : RnS b n s (stp b n s') := by
  obtain ⟨i, hi⟩ := h
  exact ⟨i + 1, by rw [itr_succ, hi]⟩
theorem RnS_trans {s s' s'' : pS} (h : RnS b n s s') (h' : RnS b n s' s'') : RnS b n s s'' := by
  obtain ⟨i, hi⟩ := h
  obtain ⟨j, hj⟩ := h'
  exact ⟨i + j, by rw [itr_add, hi, hj]⟩
theorem stp_0 {x : pS} (hf : p_f x = 0) (hs : p_s x = 0) : stp b n x = tkC b n x := by unfold stp; rw [if_neg (by omega), if_pos hs]
theorem stp_1 {x : pS} (hf : p_f x = 0) (hs : p_s x = 1) : stp b n x = tkV b n x (p_k x) := by unfold stp; rw [if_neg (by omega), if_neg (by omega), if_pos hs]
theorem stp_2 {x : pS} (hf : p_f x = 0) (hs : p_s x = 2) : stp b n x = tkX b n x := by unfold stp; rw [if_neg (by omega), if_neg (by omega), if_neg (by omega), if_pos hs]
theorem stp_3 {x : pS} (hf : p_f x = 0) (hs : p_s x = 3) : stp b n x = tkB b n x := by unfold stp; rw [if_neg (by omega), if_neg (by omega), if_neg (by omega), if_neg (by omega), if_pos hs]
theorem stp_4 {x : pS} (hf : p_f x = 0) (hs : p_s x = 4) : stp b n x = tkF b n x := by unfold stp; rw [if_neg (by omega), if_neg (by omega), if_neg (by omega), if_neg (by omega), if_neg (by omega)]
theorem TM_wk {m : Nat} {s : pS} (h : wk m (p_p s)) : TM m s = fm (p_d s) ++ p_u s ++ p_w s := by unfold TM; rw [popG_wk h]
theorem T0_len {s : pS} (hI : Inv n s) (hn : n ≤ 400) (hin : inC s = 1) : (fm (p_d s) ++ p_u s ++ p_w s).length + (p_p s).length < 400 := by
  have := cod_len hI hn hin
  have := fm_le (d := p_d s)
  unfold cod at *
  simp only [List.length_append] at *
  omega
theorem wrk_mo {g : Nat} (h : wrk g ≠ 18) : (g = 42 ∧ wrk g = 2 ∧ str (wrk g) = 6) ∨ (g = 47 ∧ wrk g = 3 ∧ str (wrk g) = 6) ∨ (g = 37 ∧ wrk g = 4 ∧ str (wrk g) = 6) ∨ (g = 43 ∧ wrk g = 5 ∧ str (wrk g) = 5) ∨ (g = 45 ∧ wrk g = 6 ∧ str (wrk g) = 5) := by
  unfold wrk at h ⊢
  by_cases e1 : g = 42
  · subst e1; exact Or.inl ⟨rfl, rfl, rfl⟩
  · by_cases e2 : g = 47
    · subst e2; exact Or.inr (Or.inl ⟨rfl, rfl, rfl⟩)
    · by_cases e3 : g = 37
      · subst e3; exact Or.inr (Or.inr (Or.inl ⟨rfl, rfl, rfl⟩))
      · by_cases e4 : g = 43
        · subst e4; exact Or.inr (Or.inr (Or.inr (Or.inl ⟨rfl, rfl, rfl⟩)))
        · by_cases e5 : g = 45
          · subst e5; exact Or.inr (Or.inr (Or.inr (Or.inr ⟨rfl, rfl, rfl⟩)))
          · rw [if_neg e1, if_neg e2, if_neg e3, if_neg e4, if_neg e5] at h
            exact absurd rfl h
/-- behind a value a sign of a sum comes -/
theorem BH_op {m : Nat} {s s' : pS} (h : BH b n m s s') (hw : wrk (sg0 b n s') ≠ 18) (hm : str (wrk (sg0 b n s')) = m) : stp b n s' = mkP (at1 b n s') 1 (p_k s) (p_c s) (p_v s') (p_t s) (p_d s) (p_u s) (popG m (p_p s') (p_w s')).2 (wrk (sg0 b n s') :: p_p s) 0 ∧ Inv n (stp b n s') ∧ TM 9 (stp b n s') = TM m s' ∧ p_a s' < at1 b n s' := by
  obtain ⟨h1, h2, h3, h4, h5, h6, h7, h8, h9, h10⟩ := h
  have e : stp b n s' = mkP (at1 b n s') 1 (p_k s) (p_c s) (p_v s') (p_t s) (p_d s) (p_u s) (popG m (p_p s') (p_w s')).2 (wrk (sg0 b n s') :: p_p s) 0 := by
    unfold stp
    rw [if_neg (by omega), if_neg (by omega), if_neg (by omega), if_neg (by omega), if_pos h4]
    unfold tkB
    rw [if_pos hw, hm, h10, h5, h6, h7, h8, h9]
  have hf : p_f (stp b n s') = 0 := by rw [e]; rfl
  refine ⟨e, (stp_Inv h2 h3 (by omega) hf).1, ?_, at_lt h2.1 (wrk_r hw).2.1⟩
  rw [e]
  have hwk : wk 9 (wrk (sg0 b n s') :: p_p s) := by
    intro o q z
    cases z
    have := str_a (wrk_r hw).1; omega
  rw [TM_wk hwk]
  unfold TM
  rw [h7, h8]; rfl
theorem wm_term {s : pS} {a : Nat} {Q : Int32 → (Nat → Int32) → (Nat → Int32) → Int32 → Int32 → Int32 → Int32 → Prop} {tx nx nu md : Int32} {sg ln : Nat → Int32} (hN : 500 ≤ N) (hn : n ≤ 400) (hB : ∀ i, i < n → bt i = jn (b i)) (bB : ∀ i, -128 ≤ b i ∧ b i ≤ 127) (ht : t < 6) (htx : tx = jn t) (ha : a ≤ n) (hnx : nx = jn a) (hsa : skp b n a = skp b n (p_a s)) (hmd : md = jn (p_v s)) (hI : Inv n s) (hf : p_f s = 0) (hst : p_s s = 1) (hwk : wk 6 (p_p s)) (hC : mC t sg ln (TM 9 s))
    (hF : ∀ s', RnS b n s s' → p_f s' ≠ 0 → ∀ sg' ln' nx nu md, mFr t sg ln sg' ln' → Q 0 sg' ln' nx (jn (p_f s')) nu md)
    (hO : ∀ s', BH b n 6 s s' → str (wrk (sg0 b n s')) ≠ 6 → ∀ sg' ln' a' nu, mC t sg' ln' (TM 6 s') → mFr t sg ln sg' ln' → a' ≤ n → skp b n a' = skp b n (p_a s') → Q 1 sg' ln' (jn a') 0 nu (jn (p_v s'))) : wp_X12_term N bt (jn n) tx Q sg ln nx 0 nu md := by
  have wk9 : ∀ (x : pS), Inv n x → wk 9 (p_p x) := by
    intro x hx o q z
    have := (p_len hx).2 o (by rw [z]; exact List.mem_cons_self ..)
    have := str_lt (o := o) (by omega)
    omega
  have hin : ∀ x : pS, p_s x = 1 ∨ p_s x = 3 → inC x = 1 := fun x hx => by unfold inC; rw [if_neg (by omega)]
  have loop : ∀ (m : Nat) (s' : pS) (sg' ln' : Nat → Int32) (a' : Nat) (nu : Int32), BH b n 6 s s' → mC t sg' ln' (TM 6 s') → mFr t sg ln sg' ln' → a' ≤ n → skp b n a' = skp b n (p_a s') → n - p_a s' < m → wp_X12_term_9 N bt (jn n) tx Q m sg' ln' (jn a') 0 nu (jn (p_v s')) := by
    intro m
    induction m with
    | zero => intro s' sg' ln' a' nu _ _ _ _ _ h2; omega
    | succ m ih =>
      intro s' sg' ln' a' nu hBH hC' hFr ha' hsa' hm
      have hsk := skp_le (b := b) ha'
      have hss := skp_skp (b := b) ha'
      rw [hsa'] at hsk hss
      have hI' := hBH.2.1
      have hv60 := hI'.2.2.2.1
      -- one more sign of a term
      have go : ∀ (w : Nat) (x : Int32), wrk (sg0 b n s') = w → w ≠ 18 → str w = 6 → x = jn (mo w) → w ≤ 14 → wp_X12_term_74 N bt (jn n) tx (wp_X12_term_9 N bt (jn n) tx Q m) Q x sg' ln' (jn (skp b n (p_a s'))) 0 nu (jn (p_v s')) := by
        intro w x ew nw sw hx hw14
        have hop := BH_op hBH (by omega) (by rw [ew]; exact sw)
        obtain ⟨e1, i1, t1, a1⟩ := hop
        have hmark : en b n (skp b n (p_a s')) = skp b n (p_a s') + 1 := by
          rcases wrk_mo (g := sg0 b n s') (by omega) with z | z | z | z | z
          · exact en_mark bB (by omega) (by omega) (by omega) (by omega) z.1
          · exact en_mark bB (by omega) (by omega) (by omega) (by omega) z.1
          · exact en_mark bB (by omega) (by omega) (by omega) (by omega) z.1
          · exact en_mark bB (by omega) (by omega) (by omega) (by omega) z.1
          · exact en_mark bB (by omega) (by omega) (by omega) (by omega) z.1
        have pa1 : p_a (stp b n s') = en b n (skp b n (p_a s')) := by rw [e1]; rfl
        have pv1 : p_v (stp b n s') = p_v s' := by rw [e1]; rfl
        have ps1 : p_s (stp b n s') = 1 := by rw [e1]; rfl
        have pf1 : p_f (stp b n s') = 0 := by rw [e1]; rfl
        have pp1 : p_p (stp b n s') = w :: p_p s := by rw [e1, ew]; rfl
        have pk1 : p_k (stp b n s') = p_k s := by rw [e1]; rfl
        have hen := en_le (b := b) hsk.2
        have hT := T0_len i1 hn (hin _ (Or.inl ps1))
        have hT9 : TM 9 (stp b n s') = fm (p_d (stp b n s')) ++ p_u (stp b n s') ++ p_w (stp b n s') := TM_wk (wk9 _ i1)
        rw [← t1] at hC'
        unfold wp_X12_term_74
        refine wm_value (s := stp b n s') (k := p_k s) (a := en b n (skp b n (p_a s'))) (T := TM 9 (stp b n s')) hN hn hB bB ht htx hen.2 (by rw [hmark]; exact by (first | rfl | (simp (disch := omega) only [jn_add, jn_sub, jn_mul, jn_neg, li_0, li_1, li_2, li_3, li_4, li_5, li_6, li_7, li_8, li_9, li_10, li_11, li_12, li_13, li_14, li_15, li_16, li_17, li_18, li_20, li_24, li_29, li_30, li_31, li_32, li_37, li_39, li_40, li_42, li_43, li_45, li_46, li_47, li_48, li_53, li_57, li_59, li_60, li_61, li_62, li_63, li_80, li_81, li_91, li_93, li_97, li_100, li_122, li_200, li_255, li_256, li_257, li_258, li_259, li_260, li_300, li_314, li_400, li_580, li_999, li_5040, li_9999, li_65536, li_99999, li_7654321] <;> first | rfl | exact congrArg jn (by omega)) | exact congrArg jn (by omega))) (by rw [pa1]) (by rw [pv1]) (by rw [pv1]; exact hv60) hC' (by rw [hT9]; omega) (fun z nx nu md => ?_) (fun z sg2 ln2 nu2 g1 g2 => ?_)
        · have es : stp b n (stp b n s') = tkV b n (stp b n s') (p_k s) := by rw [stp_1 pf1 ps1, pk1]
          refine ⟨fun _ => ?_, fun y => absurd rfl y⟩
          have := hF (stp b n (stp b n s')) (RnS_step (RnS_step hBH.1)) (by rw [es]; exact z) sg' ln' nx nu md hFr
          rw [es] at this; exact this
        · have es : stp b n (stp b n s') = tkV b n (stp b n s') (p_k s) := by rw [stp_1 pf1 ps1, pk1]
          have z' : p_f (stp b n (stp b n s')) = 0 := by rw [es]; exact z
          have i2 := stp_Inv i1 pf1 (by omega) z'
          have e2 : stp b n (stp b n s') = mkP (at1 b n (stp b n s')) 3 (p_k s) (p_c s) (p_v s' + 1) (p_t s) (p_d s) (p_u s) ((popG 6 (p_p s') (p_w s')).2 ++ [vtok b n (stp b n s')]) (w :: p_p s) 0 := by
            rw [es]
            unfold tkV at z ⊢
            split at z
            · exact absurd z flt_f
            · split at z
              · exact absurd z flt_f
              · split at z
                · exact absurd z flt_f
                · rename_i y1 y2 y3
                  rw [if_neg y1, if_neg y2, if_neg y3, pv1, pp1]
                  rw [show p_c (stp b n s') = p_c s by rw [e1]; rfl, show p_t (stp b n s') = p_t s by rw [e1]; rfl, show p_d (stp b n s') = p_d s by rw [e1]; rfl, show p_u (stp b n s') = p_u s by rw [e1]; rfl, show p_w (stp b n s') = (popG 6 (p_p s') (p_w s')).2 by rw [e1]; rfl]
          have pop2 : popG 6 (w :: p_p s) ((popG 6 (p_p s') (p_w s')).2 ++ [vtok b n (stp b n s')]) = (p_p s, ((popG 6 (p_p s') (p_w s')).2 ++ [vtok b n (stp b n s')]) ++ [w]) := by
            rw [popG, if_pos (by omega), popG_wk hwk]
          have hBH2 : BH b n 6 s (stp b n (stp b n s')) := by
            refine ⟨RnS_step (RnS_step hBH.1), i2.1, z', ?_, ?_, ?_, ?_, ?_, ?_, ?_⟩
            all_goals rw [e2]
            all_goals first | rfl | skip
            show (popG 6 (w :: p_p s) ((popG 6 (p_p s') (p_w s')).2 ++ [vtok b n (stp b n s')])).1 = p_p s
            rw [pop2]
          refine ⟨fun y => absurd y (by decide), fun _ => ?_⟩
          have hTe : TM 6 (stp b n (stp b n s')) = (TM 9 (stp b n s') ++ [vtok b n (stp b n s')]) ++ [w] := by
            rw [t1, e2]
            unfold TM
            show fm (p_d s) ++ p_u s ++ (popG 6 (w :: p_p s) ((popG 6 (p_p s') (p_w s')).2 ++ [vtok b n (stp b n s')])).2 = _
            rw [pop2, hBH.2.2.2.2.2.2.1, hBH.2.2.2.2.2.2.2.1]
            simp only [List.append_assoc]
          have hT2 := T0_len i2.1 hn (hin _ (Or.inr (by rw [e2]; rfl)))
          have hl2 : (TM 9 (stp b n s') ++ [vtok b n (stp b n s')]).length < 400 := by
            rw [hT9, List.length_append, List.length_singleton]
            have : (p_p (stp b n s')).length = (p_p s).length + 1 := by rw [pp1]; rfl
            omega
          refine wm_puts (v := w) ht htx g1 hl2 ?_ (fun sg3 ln3 k1 k2 => ?_)
          · rw [hx, show (16 : Int32) = jn 16 from rfl, li_0, jn_mul, jn_add]
            have : mt w = mo w := by
              unfold mt
              rw [if_neg]
              intro z9
              have hw2 := (wrk_r (sg := sg0 b n s') (by omega)).1
              omega
            rw [this]; exact congrArg jn (by omega)
          · have pa2 : p_a (stp b n (stp b n s')) = at1 b n (stp b n s') := by rw [e2]; rfl
            have hmore : p_a s' < p_a (stp b n (stp b n s')) := by
              have := at_le (b := b) (n := n) (s := stp b n s') i1.1
              rw [pa2, pa1] at *
              unfold at1 at a1
              omega
            have hle2 := i2.1.1
            have := ih (stp b n (stp b n s')) sg3 ln3 (at1 b n (stp b n s')) nu2 hBH2 (by rw [hTe]; exact k1) (mFr_trans hFr (mFr_trans g2 k2)) (by rw [← pa2]; exact hle2) (by rw [pa2]) (by omega)
            rw [show p_v (stp b n (stp b n s')) = p_v s' + 1 by rw [e2]; rfl] at this
            rw [show p_v (stp b n s') + 1 = p_v s' + 1 by rw [pv1]]
            exact this
      have go36 : str (wrk (sg0 b n s')) = 6 → wp_X12_term_36 N bt (jn n) tx (wp_X12_term_9 N bt (jn n) tx Q m) Q sg' ln' (jn (skp b n (p_a s'))) 0 nu (jn (p_v s')) := by
        intro h6
        have hw18 : wrk (sg0 b n s') ≠ 18 := by intro z; rw [z] at h6; cases h6
        have hb := bB (skp b n (p_a s'))
        unfold wp_X12_term_36
        have inb : ∀ m : Nat, (m = 42 ∨ m = 47 ∨ m = 37) → sg0 b n s' = m → skp b n (p_a s') < n ∧ b (skp b n (p_a s')) = m := by
          intro m hm hs
          exact (sgn_mark bB (by omega) (by omega) (by omega) (by omega)).mp hs
        have cs : (sg0 b n s' = 42 ∧ wrk (sg0 b n s') = 2) ∨ (sg0 b n s' = 47 ∧ wrk (sg0 b n s') = 3) ∨ (sg0 b n s' = 37 ∧ wrk (sg0 b n s') = 4) := by
          rcases wrk_mo hw18 with z | z | z | z | z
          · exact Or.inl ⟨z.1, z.2.1⟩
          · exact Or.inr (Or.inl ⟨z.1, z.2.1⟩)
          · exact Or.inr (Or.inr ⟨z.1, z.2.1⟩)
          · omega
          · omega
        have hlt : skp b n (p_a s') < n := by
          rcases cs with z | z | z
          · exact (inb 42 (by omega) z.1).1
          · exact (inb 47 (by omega) z.1).1
          · exact (inb 37 (by omega) z.1).1
        rw [jn_cln (by omega), hB _ hlt, show (42 : Int32) = jn 42 from rfl, show (47 : Int32) = jn 47 from rfl, jn_eq (by omega) (by omega), jn_eq (by omega) (by omega)]
        refine ⟨by simp (disch := omega) only [jn_le, jn_lt, jn_eq, jn_in, jn_add, jn_sub, jn_mul, jn_neg, li_0, li_1, li_2, li_3, li_4, li_5, li_6, li_7, li_8, li_9, li_10, li_11, li_12, li_13, li_14, li_15, li_16, li_17, li_18, li_20, li_24, li_29, li_30, li_31, li_32, li_37, li_39, li_40, li_42, li_43, li_45, li_46, li_47, li_48, li_53, li_57, li_59, li_60, li_61, li_62, li_63, li_80, li_81, li_91, li_93, li_97, li_100, li_122, li_200, li_255, li_256, li_257, li_258, li_259, li_260, li_300, li_314, li_400, li_580, li_999, li_5040, li_9999, li_65536, li_99999, li_7654321] <;> omega, fun z => ?_, fun z => ⟨by simp (disch := omega) only [jn_le, jn_lt, jn_eq, jn_in, jn_add, jn_sub, jn_mul, jn_neg, li_0, li_1, li_2, li_3, li_4, li_5, li_6, li_7, li_8, li_9, li_10, li_11, li_12, li_13, li_14, li_15, li_16, li_17, li_18, li_20, li_24, li_29, li_30, li_31, li_32, li_37, li_39, li_40, li_42, li_43, li_45, li_46, li_47, li_48, li_53, li_57, li_59, li_60, li_61, li_62, li_63, li_80, li_81, li_91, li_93, li_97, li_100, li_122, li_200, li_255, li_256, li_257, li_258, li_259, li_260, li_300, li_314, li_400, li_580, li_999, li_5040, li_9999, li_65536, li_99999, li_7654321] <;> omega, fun y => ?_, fun y => ?_⟩⟩
        · rcases cs with c | c | c
          · exact go 2 _ c.2 (by omega) rfl rfl (by omega)
          · have := (inb 47 (by omega) c.1).2; omega
          · have := (inb 37 (by omega) c.1).2; omega
        · rcases cs with c | c | c
          · have := (inb 42 (by omega) c.1).2; omega
          · exact go 3 _ c.2 (by omega) rfl rfl (by omega)
          · have := (inb 37 (by omega) c.1).2; omega
        · rcases cs with c | c | c
          · have := (inb 42 (by omega) c.1).2; omega
          · have := (inb 47 (by omega) c.1).2; omega
          · exact go 4 _ c.2 (by omega) rfl rfl (by omega)
      unfold wp_X12_term_9
      have tk : ∀ g : Nat, (g = 42 ∨ g = 47 ∨ g = 37) → sgn b n (skp b n (p_a s')) = g → str (wrk (sg0 b n s')) = 6 := by
        intro g hg hs
        have hs : sg0 b n s' = g := hs
        rcases hg with z | z | z <;> subst z <;> rw [hs] <;> rfl
      refine wm_see hN hn hB bB ha' rfl ?_
      rw [hsa', show (42 : Int32) = jn (42 : Nat) from rfl, see_mark bB (by omega) (by omega) (by omega) (by omega)]
      refine ⟨fun z => go36 (tk 42 (by omega) z), fun z1 => ?_⟩
      refine wm_see hN hn hB bB hsk.2 rfl ?_
      rw [hss, show (47 : Int32) = jn (47 : Nat) from rfl, see_mark bB (by omega) (by omega) (by omega) (by omega)]
      refine ⟨fun z => go36 (tk 47 (by omega) z), fun z2 => ?_⟩
      refine wm_see hN hn hB bB hsk.2 rfl ?_
      rw [hss, show (37 : Int32) = jn (37 : Nat) from rfl, see_mark bB (by omega) (by omega) (by omega) (by omega)]
      refine ⟨fun z => go36 (tk 37 (by omega) z), fun z3 => ?_⟩
      refine hO s' hBH (fun h6 => ?_) sg' ln' _ nu hC' hFr hsk.2 hss
      have hw18 : wrk (sg0 b n s') ≠ 18 := by intro z; rw [z] at h6; cases h6
      rcases wrk_mo hw18 with z | z | z | z | z
      · exact z1 z.1
      · exact z2 z.1
      · exact z3 z.1
      · omega
      · omega
  have hT9 : TM 9 s = fm (p_d s) ++ p_u s ++ p_w s := TM_wk (wk9 _ hI)
  have hT := T0_len hI hn (hin _ (Or.inl hst))
  have es : stp b n s = tkV b n s (p_k s) := by
    unfold stp; rw [if_neg (by omega), if_neg (by omega), if_pos hst]
  unfold wp_X12_term
  refine wm_value (s := s) (k := p_k s) (T := TM 9 s) hN hn hB bB ht htx ha hnx hsa hmd hI.2.2.2.1 hC (by rw [hT9]; omega) (fun z nx nu md => ?_) (fun z sg2 ln2 nu2 g1 g2 => ?_)
  · refine ⟨fun _ => ?_, fun y => absurd rfl y⟩
    have := hF (stp b n s) (RnS_step RnS_refl) (by rw [es]; exact z) sg ln nx nu md mFr_refl
    rw [es] at this; exact this
  · refine ⟨fun y => absurd y (by decide), fun _ => ?_⟩
    have z' : p_f (stp b n s) = 0 := by rw [es]; exact z
    have i2 := stp_Inv hI hf (by omega) z'
    have e2 : stp b n s = mkP (at1 b n s) 3 (p_k s) (p_c s) (p_v s + 1) (p_t s) (p_d s) (p_u s) (p_w s ++ [vtok b n s]) (p_p s) 0 := by
      rw [es]
      unfold tkV at z ⊢
      split at z
      · exact absurd z flt_f
      · split at z
        · exact absurd z flt_f
        · split at z
          · exact absurd z flt_f
          · rename_i y1 y2 y3
            rw [if_neg y1, if_neg y2, if_neg y3]
    have hBH : BH b n 6 s (stp b n s) := by
      refine ⟨RnS_step RnS_refl, i2.1, z', ?_, ?_, ?_, ?_, ?_, ?_, ?_⟩
      all_goals rw [e2]
      all_goals first | rfl | skip
      show (popG 6 (p_p s) (p_w s ++ [vtok b n s])).1 = p_p s
      rw [popG_wk hwk]
    have hTe : TM 6 (stp b n s) = TM 9 s ++ [vtok b n s] := by
      rw [hT9, e2]
      unfold TM
      show fm (p_d s) ++ p_u s ++ (popG 6 (p_p s) (p_w s ++ [vtok b n s])).2 = _
      rw [popG_wk hwk, List.append_assoc (fm (p_d s) ++ p_u s)]
    have pa2 : p_a (stp b n s) = at1 b n s := by rw [e2]; rfl
    have := loop N (stp b n s) sg2 ln2 (at1 b n s) nu2 hBH (by rw [hTe]; exact g1) g2 (by rw [← pa2]; exact i2.1.1) (by rw [pa2]) (by omega)
    rw [show p_v (stp b n s) = p_v s + 1 by rw [e2]; rfl] at this
    exact this
end MT2
