/-! the class: images, and a rule that is told -/
def pW (s : pS) : Nat := (fl (p_d s)).length + (p_u s).length + (p_w s).length + (p_p s).length + inC s
def pD (s s' : pS) : Prop := p_f s' ≠ 0 ∨ (pW s' ≤ pW s + 1 ∧ p_s s' ≠ 5) ∨ (pW s' ≤ pW s ∧ p_a s ≤ p_a s')
section PWS
variable {b : Nat → Int} {n : Nat} {s : pS}
theorem pD_f {kd : Nat} : pD s (flt b n s kd) := Or.inl flt_f
theorem pD_m {a st k c v : Nat} {t : Bool} {d : List cS1} {u w p : List Nat} {f : Nat} (h0 : st ≠ 5) (h1 : inC s = 1) (h : (fl d).length + u.length + w.length + p.length ≤ (fl (p_d s)).length + (p_u s).length + (p_w s).length + (p_p s).length + 1) : pD s (mkP a st k c v t d u w p f) := by
  refine Or.inr (Or.inl ⟨?_, h0⟩)
  show (fl d).length + u.length + w.length + p.length + (if st = 0 ∨ st = 5 then 0 else 1) ≤ (fl (p_d s)).length + (p_u s).length + (p_w s).length + (p_p s).length + inC s + 1
  split <;> omega
theorem ite_D {c : Prop} [Decidable c] {x y : pS} (hx : pD s x) (hy : pD s y) : pD s (if c then x else y) := by split <;> assumption
theorem pD_p {m x a st k c v : Nat} {t : Bool} {f : Nat} (h0 : st ≠ 5) (h1 : inC s = 1) : pD s (mkP a st k c v t (p_d s) (p_u s) (popG m (p_p s) (p_w s)).2 (x :: (popG m (p_p s) (p_w s)).1) f) := by
  refine pD_m h0 h1 ?_
  have := popG_len (m := m) (p := p_p s) (c := p_w s)
  simp only [List.length_cons]; omega
theorem tkV_D {k : Nat} (hi : inC s = 1) : pD s (tkV b n s k) := ite_D pD_f (ite_D pD_f (ite_D pD_f (pD_m (by omega) hi (by simp only [List.length_append, List.length_cons, List.length_nil]; omega))))
theorem tkE_D (hi : inC s = 1) (ha : p_a s ≤ n) : pD s (tkE b n s) := by
  refine ite_D pD_f (Or.inr (Or.inr ⟨?_, (at_le ha).1⟩))
  have hl := popG_len (m := 1) (p := p_p s) (c := p_w s)
  have hi2 : ∀ (x : pS), (p_s x = 0 ∨ p_s x = 5) → inC x = 0 := fun x hx => by unfold inC; rw [if_pos hx]
  show (fl (p_d s ++ [_])).length + 0 + 0 + (popG 1 (p_p s) (p_w s)).1.length + inC _ ≤ (fl (p_d s)).length + (p_u s).length + (p_w s).length + (p_p s).length + inC s
  rw [hi2 _ (by show (if sg0 b n s = 59 then 0 else 5) = 0 ∨ (if sg0 b n s = 59 then 0 else 5) = 5; split <;> omega), fl_app, fl_one]
  cases ht : p_t s with
  | false =>
    rw [if_neg (by decide)]
    unfold flc
    simp only [List.length_append, List.length_cons, List.length_nil]
    omega
  | true =>
    rw [if_pos rfl]
    unfold flc
    simp only [List.length_append, List.length_cons, List.length_nil]
    omega
theorem tkF_D (hi : inC s = 1) (ha : p_a s ≤ n) : pD s (tkF b n s) := by
  refine ite_D (pD_p (by omega) hi) (ite_D (pD_p (by omega) hi) (ite_D (tkE_D hi ha) (ite_D (pD_m (by omega) hi ?_) pD_f)))
  have := popG_len (m := 1) (p := p_p s) (c := p_w s)
  rw [List.length_tail]; omega
theorem tkB_D (hi : inC s = 1) (ha : p_a s ≤ n) : pD s (tkB b n s) := by
  refine ite_D (pD_p (by omega) hi) (ite_D (ite_D pD_f (ite_D pD_f (pD_p (by omega) hi))) (ite_D (tkF_D hi ha) (ite_D (pD_m (by omega) hi ?_) (tkE_D hi ha))))
  have := popG_len (m := 1) (p := p_p s) (c := p_w s)
  simp only [List.length_nil]; omega
theorem tkX_D (hi : inC s = 1) : pD s (tkX b n s) := ite_D (ite_D pD_f (pD_m (by omega) hi (by simp only [List.length_cons]; omega))) (tkV_D hi)
theorem stp_D (h0 : p_s s ≠ 0) (ha : p_a s ≤ n) : pD s (stp b n s) := by
  by_cases h5 : p_s s = 5
  · have : stp b n s = s := by unfold stp; rw [if_pos (Or.inr h5)]
    rw [this]; exact Or.inr (Or.inr ⟨Nat.le_refl _, Nat.le_refl _⟩)
  · have hi : inC s = 1 := by unfold inC; rw [if_neg (by omega)]
    unfold stp
    refine ite_D (Or.inr (Or.inr ⟨Nat.le_refl _, Nat.le_refl _⟩)) ?_
    rw [if_neg h0]
    exact ite_D (tkV_D hi) (ite_D (tkX_D hi) (ite_D (tkB_D hi ha) (tkF_D hi ha)))
theorem leap_4 {p : Nat} (h : sgn b n p = 303) : p + 4 ≤ en b n p := by
  have h : sgn b n p = 300 + 3 := h
  rw [en_word (by omega) h]
  obtain ⟨-, -, -, h4⟩ := (sgn_word (by omega)).mp h
  have h5 : (112 : Int) = wle b n p 3 := wmt_iff.mp h4 3 (by omega)
  unfold wle at h5
  split at h5
  · omega
  · omega
def pJ (s : pS) : Prop := p_c s = 0 ∨ pW s + 3 ≤ p_a s
theorem itr_J : ∀ m, p_f (itr b n m s00) ≠ 0 ∨ pJ (itr b n m s00)
  | 0 => Or.inr (Or.inl rfl)
  | m + 1 => by
    rw [itr_succ]
    have hI := itr_Inv (b := b) (n := n) m
    have hJ := itr_J m
    generalize itr b n m s00 = s at hI hJ ⊢
    by_cases hx : p_f s ≠ 0 ∨ p_s s = 5
    · have : stp b n s = s := by unfold stp; rw [if_pos hx]
      rw [this]; exact hJ
    · have hf : p_f s = 0 := by omega
      have h5 : p_s s ≠ 5 := by omega
      rcases hI with hI | ⟨hI, -⟩
      · exact absurd hf hI
      rcases hJ with hJ | hJ
      · exact absurd hf hJ
      by_cases hf' : p_f (stp b n s) = 0
      · right
        have hst := stp_Inv hI hf h5 hf'
        obtain ⟨ha, hw, hd, hv, hc, hct, hdl, hsh⟩ := hI
        by_cases h0 : p_s s = 0
        · have hp : p_p s = [] ∧ p_w s = [] ∧ p_u s = [] := by
            rcases hsh with ⟨-, h1⟩ | ⟨h1, -⟩ | ⟨h1, -⟩ | ⟨h1, -⟩ | ⟨h1, -⟩
            · exact h1
            · omega
            · omega
            · omega
            · omega
          have hi : inC s = 0 := by unfold inC; rw [if_pos (Or.inl h0)]
          have e : stp b n s = tkC b n s := by unfold stp; rw [if_neg hx, if_pos h0]
          rw [e] at hf' ⊢
          unfold tkC at hf' ⊢
          by_cases e1 : sg0 b n s ≠ 303
          · rw [if_pos e1] at hf'; exact absurd hf' flt_f
          · rw [if_neg e1] at hf' ⊢
            by_cases e2 : 12 ≤ p_c s
            · rw [if_pos e2] at hf'; exact absurd hf' flt_f
            · rw [if_neg e2]
              have h4 : skp b n (p_a s) + 4 ≤ at1 b n s := leap_4 (by unfold sg0 at e1; omega)
              have hk := skp_le (b := b) ha
              right
              show (fl (p_d s)).length + 0 + 0 + (p_p s).length + 1 + 3 ≤ at1 b n s
              unfold pJ pW at hJ
              rcases hJ with hJ | hJ
              · have hz : p_d s = [] := List.eq_nil_of_length_eq_zero (by omega)
                rw [hz, hp.1]
                show 0 + 0 + 0 + 0 + 1 + 3 ≤ _
                omega
              · omega
        · have hD := stp_D (b := b) (n := n) h0 ha
          rcases hJ with hJ | hJ
          · exfalso
            unfold inC at hdl
            rw [if_neg (by omega)] at hdl
            omega
          · right
            rcases hD with hD | hD | hD
            · exact absurd hf' hD
            · rcases hst.2 with h | h
              · omega
              · exact absurd h hD.2
            · omega
      · exact Or.inl hf'
theorem told_400 {a : aS} (hA : AOk a) (hf : p_f (told a) = 0) : (fl (p_d (told a))).length < 400 ∧ ∀ c, c ∈ p_d (told a) → ctO c := by
  have hn := hA.1
  unfold told at hf ⊢
  rcases itr_end (b := a_b a) hn with h | ⟨-, h5, hI⟩
  · exact absurd hf h
  rcases itr_J (b := a_b a) (n := a_n a) 401 with h | h
  · exact absurd hf h
  obtain ⟨ha, hw, hd, hv, hc, hct, hdl, hsh⟩ := hI
  refine ⟨?_, hct⟩
  rcases h with h | h
  · have hz : p_d (itr (a_b a) (a_n a) 401 s00) = [] := List.eq_nil_of_length_eq_zero (by omega)
    rw [hz]; decide
  · unfold pW at h; omega
end PWS
section CIM
variable {N : Nat} {a : aS} {t s m tn nm inf x rm am : Int32} {lb lv lr od bk br lp nt nc : Nat → Int32} {t' s' m' tn' nm' inf' x' : Int32} {lb' lv' lr' od' bk' br' lp' nt' nc' : Nat → Int32} {ci : Nat → Option Nat} {σ : sS}
theorem wl_takeS {rm : Nat} {Q : Int32 → Int32 → Int32 → (Nat → Int32) → (Nat → Int32) → (Nat → Int32) → Int32 → (Nat → Int32) → (Nat → Int32) → (Nat → Int32) → (Nat → Int32) → Int32 → (Nat → Int32) → (Nat → Int32) → Int32 → Int32 → Prop} (hO : SOk rm σ) (hS : cSt t s m lb lv lr tn od bk br lp nm nt nc inf x σ) (h : ∀ t s m lb lv lr tn od bk br lp nm nt nc inf x, cSt t s m lb lv lr tn od bk br lp nm nt nc inf x σ → Q t s m lb lv lr tn od bk br lp nm nt nc inf x) : wp_X8_takeFrom N t s m lb lv lr tn od bk br lp nm nt nc inf x Q t' s' m' lb' lv' lr' tn' od' bk' br' lp' nm' nt' nc' inf' x' := by
  obtain ⟨o1, o2, o3, -⟩ := hO
  obtain ⟨hL, hG, hM, hf, hx⟩ := hS
  have hk := o1.2.2.1
  have ht := o1.1
  unfold wp_X8_takeFrom
  refine wl_takeL (by rw [hL.1]; rcases (by omega : l_t (s_l σ) = 0 ∨ l_t (s_l σ) = 1) with e | e <;> rw [e]; exact Or.inl rfl; exact Or.inr rfl) (fun b l r e1 e2 e3 => wl_takeG (fun o b' r' l' e4 e5 e6 e7 => wl_takeN (fun t c e8 e9 => ?_)))
  exact h _ _ _ _ _ _ _ _ _ _ _ _ _ _ _ _ ⟨⟨hL.1, hL.2.1, hL.2.2.1, fun c hc => by rw [e1 c (by omega)]; exact hL.2.2.2.1 c hc, fun c hc => by rw [e2 c (by omega)]; exact hL.2.2.2.2.1 c hc, fun c hc => by rw [e3 c (by omega)]; exact hL.2.2.2.2.2 c hc⟩, cG_of hk hG e4 e5 e6 e7, ⟨hM.1, fun i hi => by rw [e8 i (by have := o3.1; omega)]; exact hM.2.1 i hi, fun i hi => by rw [e9 i (by have := o3.1; omega)]; exact hM.2.2 i hi⟩, hf, hx⟩
theorem cm_image_0 {p : Int32} {Q : Int32 → Prop} (hno : ¬ (0 ≤ p.toInt ∧ p.toInt ≤ 3)) (h : Q (-1)) : wp_X11_image_N_0 N Q p := by
  obtain ⟨y, rfl, hy⟩ := jn_of p
  rw [jn_toInt hy] at hno
  unfold wp_X11_image_N_0 wp_X11_image_N_0_9
  refine ⟨fun _ => h, fun z => ⟨fun z1 => ?_, fun _ => h⟩⟩
  rw [li_0, jn_lt hy (by omega)] at z
  rw [li_4, jn_lt hy (by omega)] at z1
  exact hno ⟨by omega, by omega⟩
theorem cm_image_A {k : Nat} {Q : Int32 → (Nat → Option Nat) → Int32 → Int32 → Int32 → (Nat → Int32) → (Nat → Int32) → (Nat → Int32) → Int32 → (Nat → Int32) → (Nat → Int32) → (Nat → Int32) → (Nat → Int32) → Int32 → (Nat → Int32) → (Nat → Int32) → Int32 → Int32 → Prop} (hA : AOk a) (hS : cSt t s m lb lv lr tn od bk br lp nm nt nc inf x (a_s a)) (hk : k ≤ 3) (hc : ci k = none)
    (h : ∀ ci' t s m lb lv lr tn' od bk br lp nm nt nc inf x, ci' = va_up ci k (some 39) → cSt t s m lb lv lr tn' od bk br lp nm nt nc inf x (a_s a) → Q (jn (g_t (a_g a) : Int)) ci' t s m lb lv lr tn' od bk br lp nm nt nc inf x) : wp_X11_image_N_A N t s m lb lv lr tn od bk br lp nm nt nc inf x Q (jn (k : Int)) ci t' s' m' lb' lv' lr' tn' od' bk' br' lp' nm' nt' nc' inf' x' := by
  unfold wp_X11_image_N_A wp_X11_image_N_A_33
  rw [li_0, li_4, jn_lt (by omega) (by omega), jn_lt (by omega) (by omega), jn_cln (by omega)]
  refine ⟨fun q => absurd q (by omega), fun _ => ⟨fun _ => ⟨by simp (disch := omega) only [jn_le, jn_lt, jn_eq, jn_in, jn_add, jn_sub, jn_mul, jn_neg, li_0, li_1, li_2, li_3, li_4, li_5, li_6, li_7, li_8, li_9, li_10, li_11, li_12, li_13, li_14, li_15, li_16, li_17, li_18, li_20, li_24, li_29, li_30, li_31, li_32, li_37, li_39, li_40, li_42, li_43, li_45, li_46, li_47, li_48, li_53, li_57, li_59, li_60, li_61, li_62, li_63, li_80, li_81, li_91, li_93, li_97, li_100, li_122, li_200, li_255, li_256, li_257, li_258, li_259, li_260, li_300, li_314, li_400, li_580, li_999, li_5040, li_9999, li_65536, li_99999, li_7654321] <;> omega, hc, by simp (disch := omega) only [jn_le, jn_lt, jn_eq, jn_in, jn_add, jn_sub, jn_mul, jn_neg, li_0, li_1, li_2, li_3, li_4, li_5, li_6, li_7, li_8, li_9, li_10, li_11, li_12, li_13, li_14, li_15, li_16, li_17, li_18, li_20, li_24, li_29, li_30, li_31, li_32, li_37, li_39, li_40, li_42, li_43, li_45, li_46, li_47, li_48, li_53, li_57, li_59, li_60, li_61, li_62, li_63, li_80, li_81, li_91, li_93, li_97, li_100, li_122, li_200, li_255, li_256, li_257, li_258, li_259, li_260, li_300, li_314, li_400, li_580, li_999, li_5040, li_9999, li_65536, li_99999, li_7654321] <;> omega, fun c1 e1 => ⟨by simp (disch := omega) only [jn_le, jn_lt, jn_eq, jn_in, jn_add, jn_sub, jn_mul, jn_neg, li_0, li_1, li_2, li_3, li_4, li_5, li_6, li_7, li_8, li_9, li_10, li_11, li_12, li_13, li_14, li_15, li_16, li_17, li_18, li_20, li_24, li_29, li_30, li_31, li_32, li_37, li_39, li_40, li_42, li_43, li_45, li_46, li_47, li_48, li_53, li_57, li_59, li_60, li_61, li_62, li_63, li_80, li_81, li_91, li_93, li_97, li_100, li_122, li_200, li_255, li_256, li_257, li_258, li_259, li_260, li_300, li_314, li_400, li_580, li_999, li_5040, li_9999, li_65536, li_99999, li_7654321] <;> omega, by rw [e1]; exact if_pos rfl, ?_⟩⟩, fun q => absurd q (by omega)⟩⟩
  refine wl_takeS hA.2.2.2.2.1 hS (fun t s m lb lv lr tn' od bk br lp nm nt nc inf x hS' => ?_)
  rw [hS.2.1.1]
  exact h _ _ _ _ _ _ _ _ _ _ _ _ _ _ _ _ _ e1 hS'
theorem cm_image_P {k : Nat} {Q : Int32 → Int32 → Int32 → Int32 → (Nat → Int32) → (Nat → Int32) → (Nat → Int32) → Int32 → (Nat → Int32) → (Nat → Int32) → (Nat → Int32) → (Nat → Int32) → Int32 → (Nat → Int32) → (Nat → Int32) → Int32 → Int32 → Prop} (hA : AOk a) (hS : cSt t s m lb lv lr tn od bk br lp nm nt nc inf x (a_s a)) (hk : k ≤ 3) (hc : ci k = some 39)
    (h : ∀ t s m lb lv lr tn' od bk br lp nm nt nc inf x, cSt t s m lb lv lr tn' od bk br lp nm nt nc inf x (a_s a) → Q (jn (g_t (a_g a) : Int)) t s m lb lv lr tn' od bk br lp nm nt nc inf x) : wp_X11_image_N_P N t s m lb lv lr tn od bk br lp nm nt nc inf x ci Q (jn (k : Int)) t' s' m' lb' lv' lr' tn' od' bk' br' lp' nm' nt' nc' inf' x' := by
  unfold wp_X11_image_N_P wp_X11_image_N_P_33
  rw [li_0, li_4, jn_lt (by omega) (by omega), jn_lt (by omega) (by omega), jn_cln (by omega)]
  refine ⟨fun q => absurd q (by omega), fun _ => ⟨fun _ => ⟨by simp (disch := omega) only [jn_le, jn_lt, jn_eq, jn_in, jn_add, jn_sub, jn_mul, jn_neg, li_0, li_1, li_2, li_3, li_4, li_5, li_6, li_7, li_8, li_9, li_10, li_11, li_12, li_13, li_14, li_15, li_16, li_17, li_18, li_20, li_24, li_29, li_30, li_31, li_32, li_37, li_39, li_40, li_42, li_43, li_45, li_46, li_47, li_48, li_53, li_57, li_59, li_60, li_61, li_62, li_63, li_80, li_81, li_91, li_93, li_97, li_100, li_122, li_200, li_255, li_256, li_257, li_258, li_259, li_260, li_300, li_314, li_400, li_580, li_999, li_5040, li_9999, li_65536, li_99999, li_7654321] <;> omega, hc, by simp (disch := omega) only [jn_le, jn_lt, jn_eq, jn_in, jn_add, jn_sub, jn_mul, jn_neg, li_0, li_1, li_2, li_3, li_4, li_5, li_6, li_7, li_8, li_9, li_10, li_11, li_12, li_13, li_14, li_15, li_16, li_17, li_18, li_20, li_24, li_29, li_30, li_31, li_32, li_37, li_39, li_40, li_42, li_43, li_45, li_46, li_47, li_48, li_53, li_57, li_59, li_60, li_61, li_62, li_63, li_80, li_81, li_91, li_93, li_97, li_100, li_122, li_200, li_255, li_256, li_257, li_258, li_259, li_260, li_300, li_314, li_400, li_580, li_999, li_5040, li_9999, li_65536, li_99999, li_7654321] <;> omega, hc, ?_⟩, fun q => absurd q (by omega)⟩⟩
  refine wl_takeS hA.2.2.2.2.1 hS (fun t s m lb lv lr tn' od bk br lp nm nt nc inf x hS' => ?_)
  rw [hS.2.1.1]
  exact h _ _ _ _ _ _ _ _ _ _ _ _ _ _ _ _ hS'
theorem cm_back_0 {p : Int32} {Q : Int32 → Prop} (hno : ∀ k : Nat, k ≤ 3 → p = jn (k : Int) → ci k = none) (h : Q (-1)) : wp_X11_back_N_0 N ci Q p := by
  obtain ⟨y, rfl, hy⟩ := jn_of p
  unfold wp_X11_back_N_0 wp_X11_back_N_0_18
  rw [li_0, li_4, jn_lt hy (by omega), jn_le (by omega) hy]
  refine ⟨fun _ => h, fun z => ⟨fun _ => h, fun z1 => ?_⟩⟩
  obtain ⟨k, rfl⟩ : ∃ k : Nat, y = k := ⟨y.toNat, by omega⟩
  rw [jn_cln (by omega)]
  exact ⟨by simp (disch := omega) only [jn_le, jn_lt, jn_eq, jn_in, jn_add, jn_sub, jn_mul, jn_neg, li_0, li_1, li_2, li_3, li_4, li_5, li_6, li_7, li_8, li_9, li_10, li_11, li_12, li_13, li_14, li_15, li_16, li_17, li_18, li_20, li_24, li_29, li_30, li_31, li_32, li_37, li_39, li_40, li_42, li_43, li_45, li_46, li_47, li_48, li_53, li_57, li_59, li_60, li_61, li_62, li_63, li_80, li_81, li_91, li_93, li_97, li_100, li_122, li_200, li_255, li_256, li_257, li_258, li_259, li_260, li_300, li_314, li_400, li_580, li_999, li_5040, li_9999, li_65536, li_99999, li_7654321] <;> omega, hno k (by omega) rfl, h⟩
theorem cm_back_P {k : Nat} {Q : Int32 → Int32 → Int32 → Int32 → (Nat → Int32) → (Nat → Int32) → (Nat → Int32) → Int32 → (Nat → Int32) → (Nat → Int32) → (Nat → Int32) → (Nat → Int32) → Int32 → (Nat → Int32) → (Nat → Int32) → Int32 → Int32 → Int32 → Prop} {rm : Nat} (hO : SOk rm σ) (hS : cSt t s m lb lv lr tn od bk br lp nm nt nc inf x σ) (hk : k ≤ 3) (hc : ci k = some 39)
    (h : ∀ t s m lb lv lr tn' od bk br lp nm nt nc inf x, cSt t s m lb lv lr tn' od bk br lp nm nt nc inf x σ → Q (jn (g_t (s_g σ) : Int)) t s m lb lv lr tn' od bk br lp nm nt nc inf x 0) : wp_X11_back_N_P N ci t s m lb lv lr tn od bk br lp nm nt nc inf x Q (jn (k : Int)) t' s' m' lb' lv' lr' tn' od' bk' br' lp' nm' nt' nc' inf' x' am := by
  unfold wp_X11_back_N_P
  rw [li_0, li_4, jn_lt (by omega) (by omega), jn_le (by omega) (by omega), jn_cln (by omega)]
  refine ⟨fun q => absurd q (by omega), fun _ => ⟨fun q => absurd q (by omega), fun _ => ⟨by simp (disch := omega) only [jn_le, jn_lt, jn_eq, jn_in, jn_add, jn_sub, jn_mul, jn_neg, li_0, li_1, li_2, li_3, li_4, li_5, li_6, li_7, li_8, li_9, li_10, li_11, li_12, li_13, li_14, li_15, li_16, li_17, li_18, li_20, li_24, li_29, li_30, li_31, li_32, li_37, li_39, li_40, li_42, li_43, li_45, li_46, li_47, li_48, li_53, li_57, li_59, li_60, li_61, li_62, li_63, li_80, li_81, li_91, li_93, li_97, li_100, li_122, li_200, li_255, li_256, li_257, li_258, li_259, li_260, li_300, li_314, li_400, li_580, li_999, li_5040, li_9999, li_65536, li_99999, li_7654321] <;> omega, hc, by simp (disch := omega) only [jn_le, jn_lt, jn_eq, jn_in, jn_add, jn_sub, jn_mul, jn_neg, li_0, li_1, li_2, li_3, li_4, li_5, li_6, li_7, li_8, li_9, li_10, li_11, li_12, li_13, li_14, li_15, li_16, li_17, li_18, li_20, li_24, li_29, li_30, li_31, li_32, li_37, li_39, li_40, li_42, li_43, li_45, li_46, li_47, li_48, li_53, li_57, li_59, li_60, li_61, li_62, li_63, li_80, li_81, li_91, li_93, li_97, li_100, li_122, li_200, li_255, li_256, li_257, li_258, li_259, li_260, li_300, li_314, li_400, li_580, li_999, li_5040, li_9999, li_65536, li_99999, li_7654321] <;> omega, hc, ?_⟩⟩⟩
  refine wl_takeS hO hS (fun t s m lb lv lr tn' od bk br lp nm nt nc inf x hS' => ?_)
  have := h _ _ _ _ _ _ _ _ _ _ _ _ _ _ _ _ hS'
  rw [← hS'.2.1.1] at this
  exact this
theorem cm_rule_0 {Q : Int32 → Prop} (hr : a_r a = 6) (hm : rm = jn (a_r a : Int)) (h : Q (-1)) : wp_X11_rule_0 N rm Q := by
  unfold wp_X11_rule_0
  rw [hm, hr]
  exact ⟨fun q => absurd q (by decide), fun _ => h⟩
theorem cm_rule_F {Q : Int32 → Int32 → Int32 → Int32 → Int32 → Int32 → Int32 → Int32 → Int32 → Int32 → Int32 → Int32 → (Nat → Int32) → Int32 → (Nat → Int32) → Int32 → Int32 → Int32 → Prop} {pb cd pl : Nat → Int32} {pn at' sg pc nu ft st sm cl vl td ln tp dp op : Int32} (hN : 700 ≤ N) (hA : AOk a) (hT : mTp a pb pn) (hr : a_r a ≠ 6) (hm : rm = jn (a_r a : Int)) (hf : p_f (told a) ≠ 0)
    (h : ∀ at' sg pc nu ft st sm cl vl td cd ln pl tp dp op, Q (jn (-2 - (p_f (told a) : Int))) 0 at' sg pc nu ft st sm cl vl td cd ln pl tp dp op) : wp_X11_rule_F N rm pb Q pn at' sg pc nu ft st sm cl vl td cd ln pl tp dp op := by
  have h6 := hA.2.2.1
  have hn := hA.1
  have hlt : p_f (told a) < 4000 := itr_fr hn 401
  unfold wp_X11_rule_F
  rw [hm, hT.1]
  refine ⟨fun _ => wl_ruleRead (b := a_b a) (by omega) hn hT.2 hA.2.1 (fun st sm cl vl td cd ln pl tp dp op at' sg pc nu _ => ⟨fun q => absurd q ?_, fun _ => ?_⟩), fun q => absurd (by rw [show (6 : Int32) = jn ((6 : Nat) : Int) from rfl, jn_lt (by omega) (by omega)]; omega) q⟩
  · show ¬ (jn (p_f (told a) : Int) = 0)
    rw [li_0, jn_eq (by omega) (by omega)]; omega
  · rw [show (-2 : Int32) - jn (p_f (itr (a_b a) (a_n a) 401 s00) : Int) = jn (-2 - (p_f (told a) : Int)) from by rw [show (-2 : Int32) = jn (-2) from rfl, jn_sub]; rfl]
    exact h _ _ _ _ _ _ _ _ _ _ _ _ _ _ _ _
theorem cm_rule_M {Q : Int32 → Int32 → Int32 → Int32 → Int32 → Int32 → Int32 → Int32 → Int32 → Int32 → Int32 → Int32 → Int32 → (Nat → Int32) → Int32 → (Nat → Int32) → Int32 → Int32 → Int32 → (Nat → Option Nat) → (Nat → Int32) → Prop} {pb cd pl rc : Nat → Int32} {rl : Nat → Option Nat} {pn at' sg pc nu ft st sm cl vl td ln tp dp op : Int32} (hN : 700 ≤ N) (hA : AOk a) (hT : mTp a pb pn) (hr : a_r a ≠ 6) (hm : rm = jn (a_r a : Int)) (hf : p_f (told a) = 0)
    (h : ∀ at' sg pc nu ft st sm cl vl td cd ln pl tp dp op rl' rc, rl' = va_up rl (a_r a) (some 39) → lA rc (fl (p_d (told a))) → ln = jn ((fl (p_d (told a))).length : Int) → Q (jn (a_r a : Int)) (jn ((a_r a + 1 : Nat) : Int)) 0 at' sg pc nu ft st sm cl vl td cd ln pl tp dp op rl' rc) : wp_X11_rule_M N pb Q rm pn at' sg pc nu ft st sm cl vl td cd ln pl tp dp op rl rc := by
  have h6 := hA.2.2.1
  have hn := hA.1
  obtain ⟨h4, hct⟩ := told_400 hA hf
  unfold wp_X11_rule_M
  rw [hm, hT.1]
  refine ⟨fun _ => wl_ruleRead (b := a_b a) (by omega) hn hT.2 hA.2.1 (fun st sm cl vl td cd ln pl tp dp op at' sg pc nu hc => ⟨fun _ => ?_, fun q => absurd (by rw [show p_f (itr (a_b a) (a_n a) 401 s00) = 0 from hf]; rfl) q⟩), fun q => absurd (by rw [show (6 : Int32) = jn ((6 : Nat) : Int) from rfl, jn_lt (by omega) (by omega)]; omega) q⟩
  obtain ⟨hc1, hc2⟩ := hc hf
  have hc1 : lA cd (fl (p_d (told a))) := hc1
  have hc2 : ln = jn ((fl (p_d (told a))).length : Int) := hc2
  generalize hL : fl (p_d (told a)) = L at hc1 hc2 h h4
  unfold wp_X7_made wp_J7_copyOf_59c91
  rw [show (Int32.ofNat 400) = jn ((400 : Nat) : Int) from rfl, hc2, jn_eq (by omega) (by omega)]
  refine ⟨fun q => absurd q (by omega), fun _ => ⟨⟨?_, ?_⟩, wl_min (a := 400) (b := L.length) rfl rfl (by omega) (by omega) ⟨?_, fun c1 e1 => ⟨by simp (disch := omega) only [jn_le, jn_lt, jn_eq, jn_in, jn_add, jn_sub, jn_mul, jn_neg, li_0, li_1, li_2, li_3, li_4, li_5, li_6, li_7, li_8, li_9, li_10, li_11, li_12, li_13, li_14, li_15, li_16, li_17, li_18, li_20, li_24, li_29, li_30, li_31, li_32, li_37, li_39, li_40, li_42, li_43, li_45, li_46, li_47, li_48, li_53, li_57, li_59, li_60, li_61, li_62, li_63, li_80, li_81, li_91, li_93, li_97, li_100, li_122, li_200, li_255, li_256, li_257, li_258, li_259, li_260, li_300, li_314, li_400, li_580, li_999, li_5040, li_9999, li_65536, li_99999, li_7654321] <;> omega, fun rl' e2 => ?_⟩⟩⟩⟩
  · rw [li_0, jn_lt (by omega) (by omega)]; omega
  · rw [jn_cln (by omega)]; omega
  · rw [show min 400 L.length = L.length by omega, li_0, jn_lt (by omega) (by omega), jn_lt (by omega) (by omega), jn_cln (by omega), show (jn 0).toNatClampNeg = 0 from by decide]
    omega
  · rw [show jn (a_r a : Int) + 1 = jn ((a_r a + 1 : Nat) : Int) from by (first | rfl | (simp (disch := omega) only [jn_add, jn_sub, jn_mul, jn_neg, li_0, li_1, li_2, li_3, li_4, li_5, li_6, li_7, li_8, li_9, li_10, li_11, li_12, li_13, li_14, li_15, li_16, li_17, li_18, li_20, li_24, li_29, li_30, li_31, li_32, li_37, li_39, li_40, li_42, li_43, li_45, li_46, li_47, li_48, li_53, li_57, li_59, li_60, li_61, li_62, li_63, li_80, li_81, li_91, li_93, li_97, li_100, li_122, li_200, li_255, li_256, li_257, li_258, li_259, li_260, li_300, li_314, li_400, li_580, li_999, li_5040, li_9999, li_65536, li_99999, li_7654321] <;> first | rfl | exact congrArg jn (by omega)) | exact congrArg jn (by omega)), show jn ((a_r a + 1 : Nat) : Int) - 1 = jn (a_r a : Int) from by (first | rfl | (simp (disch := omega) only [jn_add, jn_sub, jn_mul, jn_neg, li_0, li_1, li_2, li_3, li_4, li_5, li_6, li_7, li_8, li_9, li_10, li_11, li_12, li_13, li_14, li_15, li_16, li_17, li_18, li_20, li_24, li_29, li_30, li_31, li_32, li_37, li_39, li_40, li_42, li_43, li_45, li_46, li_47, li_48, li_53, li_57, li_59, li_60, li_61, li_62, li_63, li_80, li_81, li_91, li_93, li_97, li_100, li_122, li_200, li_255, li_256, li_257, li_258, li_259, li_260, li_300, li_314, li_400, li_580, li_999, li_5040, li_9999, li_65536, li_99999, li_7654321] <;> first | rfl | exact congrArg jn (by omega)) | exact congrArg jn (by omega))]
    rw [jn_cln (by omega)] at e2
    refine h _ _ _ _ _ _ _ _ _ _ _ _ _ _ _ _ _ _ e2 ?_ rfl
    intro i v hv
    have hi : i < L.length := by
      rcases Nat.lt_or_ge i L.length with z | z
      · exact z
      · rw [List.getElem?_eq_none z] at hv; cases hv
    rw [e1, show min 400 L.length = L.length by omega, jn_cln (by omega), show (0 : Int32).toNatClampNeg = 0 from by decide, cpy_at hi]
    exact hc1 i v hv
end CIM
