/-! the reference reads a rule: sums -/
section MSU
variable {N n : Nat} {b : Nat → Int} {bt : Nat → Int32} {t : Nat}
theorem wk_9 {x : pS} (hx : Inv n x) : wk 9 (p_p x) := by
  intro o q z
  have := (p_len hx).2 o (by rw [z]; exact List.mem_cons_self ..)
  have := str_lt (o := o) (by omega)
  omega
theorem inC_1 {x : pS} (h : p_s x = 1 ∨ p_s x = 2 ∨ p_s x = 3 ∨ p_s x = 4) : inC x = 1 := by unfold inC; rw [if_neg (by omega)]
theorem wk_up {m m' : Nat} {p : List Nat} (h : wk m p) (hm : m ≤ m') : wk m' p := fun o q z => by have := h o q z; omega
/-- what is laid down is not too much -/
theorem TM_len {m : Nat} {s : pS} (hI : Inv n s) (hn : n ≤ 400) (hin : inC s = 1) : (TM m s).length + (popG m (p_p s) (p_w s)).1.length < 400 := by
  have := T0_len hI hn hin
  have h2 := popG_len (m := m) (p := p_p s) (c := p_w s)
  unfold TM
  simp only [List.length_append] at *
  omega
theorem wm_sum {s : pS} {a : Nat} {Q : Int32 → (Nat → Int32) → (Nat → Int32) → Int32 → Int32 → Int32 → Int32 → Prop} {tx nx nu md : Int32} {sg ln : Nat → Int32} (hN : 500 ≤ N) (hn : n ≤ 400) (hB : ∀ i, i < n → bt i = jn (b i)) (bB : ∀ i, -128 ≤ b i ∧ b i ≤ 127) (ht : t < 6) (htx : tx = jn t) (ha : a ≤ n) (hnx : nx = jn a) (hsa : skp b n a = skp b n (p_a s)) (hmd : md = jn (p_v s)) (hI : Inv n s) (hf : p_f s = 0) (hst : p_s s = 1) (hwk : wk 5 (p_p s)) (hC : mC t sg ln (TM 9 s))
    (hF : ∀ s', RnS b n s s' → p_f s' ≠ 0 → ∀ sg' ln' nx nu md, mFr t sg ln sg' ln' → Q 0 sg' ln' nx (jn (p_f s')) nu md)
    (hO : ∀ s', BH b n 5 s s' → wrk (sg0 b n s') = 18 → ∀ sg' ln' a' nu, mC t sg' ln' (TM 5 s') → mFr t sg ln sg' ln' → a' ≤ n → skp b n a' = skp b n (p_a s') → Q 1 sg' ln' (jn a') 0 nu (jn (p_v s'))) : wp_X12_sum N bt (jn n) tx Q sg ln nx 0 nu md := by
  have loop : ∀ (m : Nat) (s' : pS) (sg' ln' : Nat → Int32) (a' : Nat) (nu : Int32), BH b n 5 s s' → str (wrk (sg0 b n s')) ≠ 6 → mC t sg' ln' (TM 5 s') → mFr t sg ln sg' ln' → a' ≤ n → skp b n a' = skp b n (p_a s') → n - p_a s' < m → wp_X12_sum_9 N bt (jn n) tx Q m sg' ln' (jn a') 0 nu (jn (p_v s')) := by
    intro m
    induction m with
    | zero => intro s' sg' ln' a' nu _ _ _ _ _ _ h2; omega
    | succ m ih =>
      intro s' sg' ln' a' nu hBH hn6 hC' hFr ha' hsa' hm
      have hsk := skp_le (b := b) ha'
      have hss := skp_skp (b := b) ha'
      rw [hsa'] at hsk hss
      have hI' := hBH.2.1
      have hen := en_le (b := b) hsk.2
      have go : ∀ (w : Nat) (x : Int32), wrk (sg0 b n s') = w → w ≠ 18 → str w = 5 → x = jn (mo w) → 2 ≤ w ∧ w ≤ 6 → wp_X12_sum_46 N bt (jn n) tx (wp_X12_sum_9 N bt (jn n) tx Q m) Q x sg' ln' (jn (skp b n (p_a s'))) 0 nu (jn (p_v s')) := by
        intro w x ew nw sw hx hw26
        have hop := BH_op hBH (by omega) (by rw [ew]; exact sw)
        obtain ⟨e1, i1, t1, a1⟩ := hop
        have hmark : en b n (skp b n (p_a s')) = skp b n (p_a s') + 1 := by
          rcases wrk_mo (g := sg0 b n s') (by omega) with z | z | z | z | z
          · exact en_mark bB (by omega) (by omega) (by omega) (by omega) z.1
          · exact en_mark bB (by omega) (by omega) (by omega) (by omega) z.1
          · exact en_mark bB (by omega) (by omega) (by omega) (by omega) z.1
          · exact en_mark bB (by omega) (by omega) (by omega) (by omega) z.1
          · exact en_mark bB (by omega) (by omega) (by omega) (by omega) z.1
        have pa1 : p_a (stp b n s') = en b n (skp b n (p_a s')) := by rw [e1]; rfl
        have pv1 : p_v (stp b n s') = p_v s' := by rw [e1]; rfl
        have ps1 : p_s (stp b n s') = 1 := by rw [e1]; rfl
        have pf1 : p_f (stp b n s') = 0 := by rw [e1]; rfl
        have pp1 : p_p (stp b n s') = w :: p_p s := by rw [e1, ew]; rfl
        have pk1 : p_k (stp b n s') = p_k s := by rw [e1]; rfl
        have hwk1 : wk 6 (p_p (stp b n s')) := by rw [pp1]; intro o q z; cases z; omega
        rw [← t1] at hC'
        have r1 : RnS b n s (stp b n s') := RnS_step hBH.1
        unfold wp_X12_sum_46
        refine wm_term (s := stp b n s') (a := en b n (skp b n (p_a s'))) hN hn hB bB ht htx hen.2 (by rw [hmark]; exact by (first | rfl | (simp (disch := omega) only [jn_add, jn_sub, jn_mul, jn_neg, li_0, li_1, li_2, li_3, li_4, li_5, li_6, li_7, li_8, li_9, li_10, li_11, li_12, li_13, li_14, li_15, li_16, li_17, li_18, li_20, li_24, li_29, li_30, li_31, li_32, li_37, li_39, li_40, li_42, li_43, li_45, li_46, li_47, li_48, li_53, li_57, li_59, li_60, li_61, li_62, li_63, li_80, li_81, li_91, li_93, li_97, li_100, li_122, li_200, li_255, li_256, li_257, li_258, li_259, li_260, li_300, li_314, li_400, li_580, li_999, li_5040, li_9999, li_65536, li_99999, li_7654321] <;> first | rfl | exact congrArg jn (by omega)) | exact congrArg jn (by omega))) (by rw [pa1]) (by rw [pv1]) i1 pf1 ps1 hwk1 hC' (fun s2 r2 z sg2 ln2 nx2 nu2 md2 g => ?_) (fun s2 hB2 h62 sg2 ln2 a2 nu2 g1 g2 g3 g4 => ?_)
        · exact ⟨fun _ => hF s2 (RnS_trans r1 r2) z sg2 ln2 nx2 nu2 md2 (mFr_trans hFr g), fun y => absurd rfl y⟩
        · refine ⟨fun y => absurd y (by decide), fun _ => ?_⟩
          obtain ⟨j1, j2, j3, j4, j5, j6, j7, j8, j9, j10⟩ := hB2
          rw [pp1] at j10
          have pop2 : popG 5 (p_p s2) (p_w s2) = (p_p s, (popG 6 (p_p s2) (p_w s2)).2 ++ [w]) := by
            rw [popG_two (m := 6) (by omega), j10, popG, if_pos (by omega), popG_wk hwk]
          have hBH2 : BH b n 5 s s2 := by
            refine ⟨RnS_trans r1 j1, j2, j3, j4, ?_, ?_, ?_, ?_, ?_, ?_⟩
            · rw [j5, pk1]
            · rw [j6, e1]; rfl
            · rw [j7, e1]; rfl
            · rw [j8, e1]; rfl
            · rw [j9, e1]; rfl
            · rw [pop2]
          have hTe : TM 5 s2 = TM 6 s2 ++ [w] := by
            unfold TM
            rw [pop2, List.append_assoc (fm (p_d s2) ++ p_u s2)]
          have hl2 := TM_len (m := 6) j2 hn (inC_1 (by omega))
          refine wm_puts (v := w) ht htx g1 (by omega) ?_ (fun sg3 ln3 k1 k2 => ?_)
          · rw [hx, show (16 : Int32) = jn 16 from rfl, li_0, jn_mul, jn_add]
            have : mt w = mo w := by
              unfold mt
              rw [if_neg (by omega)]
            rw [this]; exact congrArg jn (by omega)
          · have hmore : p_a s' < p_a s2 := by
              obtain ⟨i, hi⟩ := j1
              -- a step of the machine goes on in the text
              have mono : ∀ (i : Nat) (x : pS), Inv n x → p_f x = 0 → p_f (itr b n i x) = 0 → p_a x ≤ p_a (itr b n i x) := by
                intro i
                induction i with
                | zero => intro x _ _ _; exact Nat.le_refl _
                | succ i ih2 =>
                  intro x hx1 hx2 hx3
                  by_cases h5 : p_s x = 5
                  · have := itr_fix (b := b) (n := n) (s := x) (Or.inr h5) (i + 1)
                    rw [this]; exact Nat.le_refl _
                  · by_cases hxf : p_f (stp b n x) = 0
                    · have hy := stp_Inv hx1 hx2 h5 hxf
                      have := ih2 (stp b n x) hy.1 hxf hx3
                      have hle : p_a x ≤ p_a (stp b n x) := by
                        have hal := at_le (b := b) (n := n) (s := x) hx1.1
                        have : p_a (stp b n x) = at1 b n x := by
                          have aV : ∀ k, p_a (tkV b n x k) = at1 b n x := by
                            intro k; unfold tkV; repeat' split
                            all_goals rfl
                          have aE : p_a (tkE b n x) = at1 b n x := by
                            unfold tkE; by_cases e : sg0 b n x ≠ 59 ∧ sg0 b n x ≠ 256
                            · rw [if_pos e]; rfl
                            · rw [if_neg e]; rfl
                          have aF : p_a (tkF b n x) = at1 b n x := by
                            unfold tkF; repeat' split
                            all_goals first | rfl | exact aE
                          have aB : p_a (tkB b n x) = at1 b n x := by
                            unfold tkB; repeat' split
                            all_goals first | rfl | exact aE | exact aF
                          have aX : p_a (tkX b n x) = at1 b n x := by
                            unfold tkX; split
                            · split <;> rfl
                            · exact aV 1
                          have aC : p_a (tkC b n x) = at1 b n x := by
                            unfold tkC; repeat' split
                            all_goals rfl
                          unfold stp
                          rw [if_neg (by omega)]
                          repeat' split
                          all_goals first | exact aC | exact aV _ | exact aX | exact aB | exact aF
                        omega
                      have e : itr b n (i + 1) x = itr b n i (stp b n x) := rfl
                      rw [e] at hx3 ⊢
                      omega
                    · have := itr_fix (b := b) (n := n) (s := stp b n x) (Or.inl hxf) i
                      have e : itr b n (i + 1) x = itr b n i (stp b n x) := rfl
                      rw [e, this] at hx3
                      exact absurd hx3 hxf
              have := mono i (stp b n s') i1 pf1 (by rw [hi]; exact j3)
              rw [hi, pa1] at this
              unfold at1 at a1
              omega
            have hle2 := j2.1
            exact ih s2 sg3 ln3 a2 nu2 hBH2 h62 (by rw [hTe]; exact k1) (mFr_trans hFr (mFr_trans g2 k2)) g3 g4 (by omega)
      have go27 : str (wrk (sg0 b n s')) = 5 → wp_X12_sum_27 N bt (jn n) tx (wp_X12_sum_9 N bt (jn n) tx Q m) Q sg' ln' (jn (skp b n (p_a s'))) 0 nu (jn (p_v s')) := by
        intro h5
        have hw18 : wrk (sg0 b n s') ≠ 18 := by intro z; rw [z] at h5; cases h5
        have hb := bB (skp b n (p_a s'))
        unfold wp_X12_sum_27
        have inb : ∀ m : Nat, (m = 43 ∨ m = 45) → sg0 b n s' = m → skp b n (p_a s') < n ∧ b (skp b n (p_a s')) = m := by
          intro m hm hs
          exact (sgn_mark bB (by omega) (by omega) (by omega) (by omega)).mp hs
        have cs : (sg0 b n s' = 43 ∧ wrk (sg0 b n s') = 5) ∨ (sg0 b n s' = 45 ∧ wrk (sg0 b n s') = 6) := by
          rcases wrk_mo hw18 with z | z | z | z | z
          · omega
          · omega
          · omega
          · exact Or.inl ⟨z.1, z.2.1⟩
          · exact Or.inr ⟨z.1, z.2.1⟩
        have hlt : skp b n (p_a s') < n := by
          rcases cs with z | z
          · exact (inb 43 (by omega) z.1).1
          · exact (inb 45 (by omega) z.1).1
        rw [jn_cln (by omega), hB _ hlt, show (43 : Int32) = jn 43 from rfl, jn_eq (by omega) (by omega)]
        refine ⟨by simp (disch := omega) only [jn_le, jn_lt, jn_eq, jn_in, jn_add, jn_sub, jn_mul, jn_neg, li_0, li_1, li_2, li_3, li_4, li_5, li_6, li_7, li_8, li_9, li_10, li_11, li_12, li_13, li_14, li_15, li_16, li_17, li_18, li_20, li_24, li_29, li_30, li_31, li_32, li_37, li_39, li_40, li_42, li_43, li_45, li_46, li_47, li_48, li_53, li_57, li_59, li_60, li_61, li_62, li_63, li_80, li_81, li_91, li_93, li_97, li_100, li_122, li_200, li_255, li_256, li_257, li_258, li_259, li_260, li_300, li_314, li_400, li_580, li_999, li_5040, li_9999, li_65536, li_99999, li_7654321] <;> omega, fun z => ?_, fun z => ?_⟩
        · rcases cs with c | c
          · exact go 5 _ c.2 (by omega) rfl rfl (by omega)
          · have := (inb 45 (by omega) c.1).2; omega
        · rcases cs with c | c
          · have := (inb 43 (by omega) c.1).2; omega
          · exact go 6 _ c.2 (by omega) rfl rfl (by omega)
      unfold wp_X12_sum_9
      have tk : ∀ g : Nat, (g = 43 ∨ g = 45) → sgn b n (skp b n (p_a s')) = g → str (wrk (sg0 b n s')) = 5 := by
        intro g hg hs
        have hs : sg0 b n s' = g := hs
        rcases hg with z | z <;> subst z <;> rw [hs] <;> rfl
      refine wm_see hN hn hB bB ha' rfl ?_
      rw [hsa', show (43 : Int32) = jn (43 : Nat) from rfl, see_mark bB (by omega) (by omega) (by omega) (by omega)]
      refine ⟨fun z => go27 (tk 43 (by omega) z), fun z1 => ?_⟩
      refine wm_see hN hn hB bB hsk.2 rfl ?_
      rw [hss, show (45 : Int32) = jn (45 : Nat) from rfl, see_mark bB (by omega) (by omega) (by omega) (by omega)]
      refine ⟨fun z => go27 (tk 45 (by omega) z), fun z2 => ?_⟩
      refine hO s' hBH ?_ sg' ln' _ nu hC' hFr hsk.2 hss
      by_cases hw18 : wrk (sg0 b n s') = 18
      · exact hw18
      · exfalso
        rcases wrk_mo hw18 with z | z | z | z | z
        · omega
        · omega
        · omega
        · exact z1 z.1
        · exact z2 z.1
  unfold wp_X12_sum
  refine wm_term (s := s) hN hn hB bB ht htx ha hnx hsa hmd hI hf hst (wk_up hwk (by omega)) hC (fun s2 r2 z sg2 ln2 nx2 nu2 md2 g => ?_) (fun s2 hB2 h62 sg2 ln2 a2 nu2 g1 g2 g3 g4 => ?_)
  · exact ⟨fun _ => hF s2 r2 z sg2 ln2 nx2 nu2 md2 g, fun y => absurd rfl y⟩
  · refine ⟨fun y => absurd y (by decide), fun _ => ?_⟩
    obtain ⟨j1, j2, j3, j4, j5, j6, j7, j8, j9, j10⟩ := hB2
    have pop2 : popG 5 (p_p s2) (p_w s2) = (p_p s, (popG 6 (p_p s2) (p_w s2)).2) := by
      rw [popG_two (m := 6) (by omega), j10, popG_wk hwk]
    have hTe : TM 5 s2 = TM 6 s2 := by unfold TM; rw [pop2]
    exact loop N s2 sg2 ln2 a2 nu2 ⟨j1, j2, j3, j4, j5, j6, j7, j8, j9, by rw [pop2]⟩ h62 (by rw [hTe]; exact g1) g2 g3 g4 (by omega)
end MSU
