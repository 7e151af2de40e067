/-! orders that can be: the class -/
section CRE
variable {N : Nat} {a : aS} {t s m tn : Int32} {lb lv lr od bk br lp : Nat → Int32} {em es fo : Int32} {el wh rw' fr de eo ep ee : Nat → Int32}
theorem Lg_64 {a l b : Nat} {m sp : Nat} {cl : Nat → Nat → Bool} (hm : m ≤ 7) (h : Lg m sp cl a l b) : l < 64 := by
  obtain ⟨r, -, -, ho, -⟩ := h
  have := ho.1
  omega
theorem Gp_64 {E : Nat → Nat → Nat → Prop} {T : Nat} (hE : ∀ a l b, E a l b → l < 64) : ∀ {i a d l : Nat}, Gp E T i a d l → l < 64
  | 0, _, _, _, ⟨b, d', _, h⟩ => hE _ _ _ h.1
  | _ + 1, _, _, _, ⟨_, _, _, _, _, h⟩ => Gp_64 hE h
theorem cX_0 {F : Nat} {Qo : Nat → Nat → Nat} {pa la dp : Nat → Nat} (hA : AOk a) (h : cX (l_k (a_l a)) (l_s (a_l a)) (clf (l_l (a_l a)) (g_b (a_g a))) (g_o (a_g a)) F Qo pa la dp em es el fo wh rw' fr de) : cX0 em es el fo wh rw' fr de := by
  obtain ⟨s1, s2, s3, s4, s5, s6⟩ := AOk_s hA
  have := s1.2.1
  exact Or.inr ⟨_, _, _, _, F, Qo, pa, la, dp, s1.2.2.1, by omega, s2.1, h⟩
theorem cl_exp_A {K : Int32 → Int32 → (Nat → Int32) → Int32 → (Nat → Int32) → (Nat → Int32) → (Nat → Int32) → (Nat → Int32) → (Nat → Int32) → (Nat → Int32) → (Nat → Int32) → Prop} (hN : 6000 ≤ N) (hA : AOk a) (hL : cL t s m lb lv lr (a_l a)) (hG : cG (l_k (a_l a)) tn od bk br lp (a_g a))  (h : ∀ F Qo pa la dp em es el fo wh rw' fr de eo ep ee, cX (l_k (a_l a)) (l_s (a_l a)) (clf (l_l (a_l a)) (g_b (a_g a))) (g_o (a_g a)) F Qo pa la dp em es el fo wh rw' fr de → K em es el fo wh rw' fr de eo ep ee) : wp_X11_explored_N_A N s m lv od bk K em es el fo wh rw' fr de eo ep ee := by
  obtain ⟨s1, s2, s3, s4, s5, s6⟩ := AOk_s hA
  obtain ⟨l1, l2, l3, l4, l5, l6⟩ := hL
  have := s1.2.1
  unfold wp_X11_explored_N_A wp_X11_explored_N_A_18
  rw [l2, l3]
  exact wl_explore hN s1.2.2.1 (by omega) l5 hG.2.1 hG.2.2.1 (fun c _ => by have := s1.2.2.2.2.2.1 c; omega) (fun c _ => by have := s2.2.1 c; omega) s2.1 (Or.inl rfl) h
theorem cm_fewest_A {p : Int32} {o : Nat → Nat} {Q : Int32 → Int32 → Int32 → (Nat → Int32) → Int32 → (Nat → Int32) → (Nat → Int32) → (Nat → Int32) → (Nat → Int32) → (Nat → Int32) → (Nat → Int32) → (Nat → Int32) → Prop} (hN : 6000 ≤ N) (hA : AOk a) (hL : cL t s m lb lv lr (a_l a)) (hG : cG (l_k (a_l a)) tn od bk br lp (a_g a))  (ho : isO a p o) (h : ∀ r em es el fo wh rw' fr de eo ep ee, A_fewest a p r → cX0 em es el fo wh rw' fr de → Q r em es el fo wh rw' fr de eo ep ee) : wp_X11_fewest_N_A N t s m lv od bk Q p em es el fo wh rw' fr de eo ep ee := by
  obtain ⟨s1, s2, s3, s4, s5, s6⟩ := AOk_s hA
  have hk := s1.2.2.1
  unfold wp_X11_fewest_N_A wp_X11_fewest_N_A_36
  rw [show t = 1 from by rw [hL.1, ho.1]; rfl, show m = jn (l_k (a_l a) : Int) from hL.2.2.1]
  refine wl_isOrder (by omega) hk (fun o' _ => ⟨fun q => absurd q (by decide), fun _ => ?_⟩) (fun hno => absurd ho.2 (hno o))
  rw [← hL.2.2.1]
  refine cl_exp_A hN hA hL hG (fun F Qo pa la dp em es el fo wh rw' fr de eo ep ee hX => ?_)
  have hX0 := cX_0 hA hX
  have hF : F ≤ 5040 := hX.2.2.2.1.2.1
  refine wl_aFw hN hk hX ho.2 (fun i hi e hD hd hde hg eo ee => ⟨fun _ => ⟨by simp (disch := omega) only [jn_le, jn_lt, jn_eq, jn_in, jn_add, jn_sub, jn_mul, jn_neg, li_0, li_1, li_2, li_3, li_4, li_5, li_6, li_7, li_8, li_9, li_10, li_11, li_12, li_13, li_14, li_15, li_16, li_17, li_18, li_20, li_24, li_29, li_30, li_31, li_32, li_37, li_39, li_40, li_42, li_43, li_45, li_46, li_47, li_48, li_53, li_57, li_59, li_60, li_61, li_62, li_63, li_80, li_81, li_91, li_93, li_97, li_100, li_122, li_200, li_255, li_256, li_257, li_258, li_259, li_260, li_300, li_314, li_400, li_580, li_999, li_5040, li_9999, li_65536, li_99999, li_7654321] <;> omega, ?_⟩, fun q => absurd (by rw [li_0, jn_le (by omega) (by omega)]; omega) q⟩) (fun hno eo ee => ⟨fun q => absurd q (by decide), fun _ => h _ _ _ _ _ _ _ _ _ _ _ _ (Or.inl ⟨o, ho, -2, Or.inr ⟨hno, rfl⟩, rfl⟩) hX0⟩)
  rw [jn_cln (by omega), hde]
  exact h _ _ _ _ _ _ _ _ _ _ _ _ (Or.inl ⟨o, ho, _, Or.inl ⟨dp i, hD, hd, rfl⟩, rfl⟩) hX0
theorem cm_step_A {p q z : Int32} {o : Nat → Nat} {Q : Int32 → Int32 → Int32 → (Nat → Int32) → Int32 → (Nat → Int32) → (Nat → Int32) → (Nat → Int32) → (Nat → Int32) → (Nat → Int32) → (Nat → Int32) → (Nat → Int32) → Prop} (hN : 6000 ≤ N) (hA : AOk a) (hL : cL t s m lb lv lr (a_l a)) (hG : cG (l_k (a_l a)) tn od bk br lp (a_g a))  (ho : isO a p o) (hq : 0 ≤ q.toInt) (hz : z = 0 ∨ z = 1) (h : ∀ r em es el fo wh rw' fr de eo ep ee, A_step a p q z r → cX0 em es el fo wh rw' fr de → Q r em es el fo wh rw' fr de eo ep ee) : wp_X11_step_N_A N t s m lv od bk Q p q z em es el fo wh rw' fr de eo ep ee := by
  obtain ⟨s1, s2, s3, s4, s5, s6⟩ := AOk_s hA
  have hk := s1.2.2.1
  have hA' : ∀ r, ((∃ D l : Nat, Ds (gE a) (gS0 a) (rk (l_k (a_l a)) o) D ∧ q.toInt < D ∧ Gp (gE a) (rk (l_k (a_l a)) o) q.toInt.toNat (gS0 a) D l ∧ r = if z = 0 then jn ((l / 8 : Nat) : Int) else jn ((l % 8 : Nat) : Int)) ∨ ((∀ D : Nat, Ds (gE a) (gS0 a) (rk (l_k (a_l a)) o) D → (D : Int) ≤ q.toInt) ∧ r = -2)) → A_step a p q z r := fun r hr => Or.inl ⟨o, ho, hq, hz, hr⟩
  obtain ⟨i0, rfl, hi0⟩ := jn_of q
  rw [jn_toInt hi0] at hq hA'
  obtain ⟨i, rfl⟩ : ∃ i : Nat, i0 = i := ⟨i0.toNat, by omega⟩
  unfold wp_X11_step_N_A wp_X11_step_N_A_83 wp_X11_step_N_A_54
  rw [show t = 1 from by rw [hL.1, ho.1]; rfl, show m = jn (l_k (a_l a) : Int) from hL.2.2.1]
  refine wl_isOrder (by omega) hk (fun o' _ => ⟨fun q => absurd q (by decide), fun _ => ⟨fun q => absurd q (by rw [li_0, jn_lt (by omega) (by omega)]; omega), fun _ => ⟨fun q => ?_, fun _ => ⟨fun _ => ?_, fun q => ?_⟩⟩⟩⟩) (fun hno => absurd ho.2 (hno o))
  · rcases hz with rfl | rfl <;> exact absurd q (by decide)
  · rw [← hL.2.2.1]
    refine cl_exp_A hN hA hL hG (fun F Qo pa la dp em es el fo wh rw' fr de eo ep ee hX => ?_)
    have hX0 := cX_0 hA hX
    have hF : F ≤ 5040 := hX.2.2.2.1.2.1
    refine wl_aFw hN hk hX ho.2 (fun j hj e hD hd hde hg eo ee => ⟨fun q => absurd q (by rw [li_0, jn_lt (by omega) (by omega)]; omega), fun _ => ⟨by simp (disch := omega) only [jn_le, jn_lt, jn_eq, jn_in, jn_add, jn_sub, jn_mul, jn_neg, li_0, li_1, li_2, li_3, li_4, li_5, li_6, li_7, li_8, li_9, li_10, li_11, li_12, li_13, li_14, li_15, li_16, li_17, li_18, li_20, li_24, li_29, li_30, li_31, li_32, li_37, li_39, li_40, li_42, li_43, li_45, li_46, li_47, li_48, li_53, li_57, li_59, li_60, li_61, li_62, li_63, li_80, li_81, li_91, li_93, li_97, li_100, li_122, li_200, li_255, li_256, li_257, li_258, li_259, li_260, li_300, li_314, li_400, li_580, li_999, li_5040, li_9999, li_65536, li_99999, li_7654321] <;> omega, ?_⟩⟩) (fun hno eo ee => ⟨fun _ => h _ _ _ _ _ _ _ _ _ _ _ _ (hA' _ (Or.inr ⟨fun D hD => absurd hD (hno D), rfl⟩)) hX0, fun q => absurd (by decide) q⟩)
    rw [jn_cln (by omega), hde, jn_lt (by omega) (by omega)]
    refine ⟨fun y => ?_, fun y => h _ _ _ _ _ _ _ _ _ _ _ _ (hA' _ (Or.inr ⟨fun D hD' => by rw [← Ds_un hD hD']; omega, rfl⟩)) hX0⟩
    have hGi := hg i (by omega)
    have h64 := Gp_64 (fun a l b q => Lg_64 hk q) hGi
    refine wl_leapOf (t := j) (i := i) hN hX.2.2.2.1 hX.2.2.2.2 hj (by omega) rfl rfl ?_
    generalize la (up pa j (dp j - (i + 1))) = l at hGi h64 ⊢
    have hAs := fun r hr => h r em es el fo wh rw' fr de eo ep ee (hA' r (Or.inl ⟨dp j, l, hD, by omega, by rw [Int.toNat_natCast]; exact hGi, hr⟩)) hX0
    refine ⟨fun z0 => ?_, fun z0 => ?_⟩
    · rw [show jn (l : Int) >>> ((3 : Int32) &&& 31) = jn ((l / 8 : Nat) : Int) from jn_shr (k := 3) (by omega) (by decide)]
      exact hAs _ (if_pos z0).symm
    · rw [show (7 : Int32) = jn ((7 : Nat) : Int) from rfl, jn_and, show l &&& 7 = l % 8 from Nat.and_two_pow_sub_one_eq_mod l 3]
      exact hAs _ (if_neg z0).symm
  · rcases hz with rfl | rfl <;> exact absurd (by decide) q
theorem cm_orders_A {n : Nat} {Q : Int32 → Int32 → Int32 → (Nat → Int32) → Int32 → (Nat → Int32) → (Nat → Int32) → (Nat → Int32) → (Nat → Int32) → (Nat → Int32) → (Nat → Int32) → (Nat → Int32) → Prop} (hN : 6000 ≤ N) (hA : AOk a) (hL : cL t s m lb lv lr (a_l a)) (hG : cG (l_k (a_l a)) tn od bk br lp (a_g a))  (ho : l_t (a_l a) = 1) (hn : n ≤ 30) (h : ∀ r em es el fo wh rw' fr de eo ep ee, A_orders a (jn (n : Int)) r → cX0 em es el fo wh rw' fr de → Q r em es el fo wh rw' fr de eo ep ee) : wp_X11_orders_N_A N t s m lv od bk Q (jn (n : Int)) em es el fo wh rw' fr de eo ep ee := by
  obtain ⟨s1, s2, s3, s4, s5, s6⟩ := AOk_s hA
  have hk := s1.2.2.1
  have en : (jn (n : Int)).toInt = n := jn_toInt (by omega)
  unfold wp_X11_orders_N_A
  rw [show t = 1 from by rw [hL.1, ho]; rfl]
  refine ⟨fun q => absurd q (by decide), fun _ => ⟨fun q => absurd q (by rw [li_0, jn_lt (by omega) (by omega)]; omega), fun _ => ⟨fun _ => ?_, fun q => absurd (by rw [li_30, jn_le (by omega) (by omega)]; omega) q⟩⟩⟩
  refine cl_exp_A hN hA hL hG (fun F Qo pa la dp em es el fo wh rw' fr de eo ep ee hX => ?_)
  refine wl_aOr (n := n) hN hk hX (by omega) rfl (fun y hy => h _ _ _ _ _ _ _ _ _ _ _ _ (Or.inl ⟨⟨ho, by rw [en]; omega, by rw [en]; omega⟩, y, by rw [en, Int.toNat_natCast]; exact hy, rfl⟩) (cX_0 hA hX))
theorem cm_farthest_A {p : Int32} {Q : Int32 → Int32 → Int32 → (Nat → Int32) → Int32 → (Nat → Int32) → (Nat → Int32) → (Nat → Int32) → (Nat → Int32) → (Nat → Int32) → (Nat → Int32) → (Nat → Int32) → Prop} (hN : 6000 ≤ N) (hA : AOk a) (hL : cL t s m lb lv lr (a_l a)) (hG : cG (l_k (a_l a)) tn od bk br lp (a_g a))  (ho : l_t (a_l a) = 1) (hp : p = 0 ∨ p = 1) (h : ∀ r em es el fo wh rw' fr de eo ep ee, A_farthest a p r → cX0 em es el fo wh rw' fr de → Q r em es el fo wh rw' fr de eo ep ee) : wp_X11_farthest_N_A N t s m lv od bk Q p em es el fo wh rw' fr de eo ep ee := by
  obtain ⟨s1, s2, s3, s4, s5, s6⟩ := AOk_s hA
  have hk := s1.2.2.1
  unfold wp_X11_farthest_N_A wp_X11_farthest_N_A_44
  rw [show t = 1 from by rw [hL.1, ho]; rfl]
  refine ⟨fun q => absurd q (by decide), fun _ => ⟨fun q => ?_, fun _ => ⟨fun _ => ?_, fun q => ?_⟩⟩⟩
  · rcases hp with rfl | rfl <;> exact absurd q (by decide)
  · refine cl_exp_A hN hA hL hG (fun F Qo pa la dp em es el fo wh rw' fr de eo ep ee hX => ?_)
    refine ⟨fun z => wl_aMo hX (fun y hy => h _ _ _ _ _ _ _ _ _ _ _ _ (Or.inl ⟨ho, z, y, hy, rfl⟩) (cX_0 hA hX)), fun z => wl_aFo hN hk hX (fun y hy => h _ _ _ _ _ _ _ _ _ _ _ _ (Or.inr (Or.inl ⟨ho, ?_, y, hy, rfl⟩)) (cX_0 hA hX))⟩
    rcases hp with hp | hp
    · exact absurd hp z
    · exact hp
  · rcases hp with rfl | rfl <;> exact absurd (by decide) q
theorem cm_first_A {p : Int32} {c : Nat} {Q : Int32 → Int32 → Int32 → (Nat → Int32) → Int32 → (Nat → Int32) → (Nat → Int32) → (Nat → Int32) → (Nat → Int32) → (Nat → Int32) → (Nat → Int32) → (Nat → Int32) → Prop} (hN : 6000 ≤ N) (hA : AOk a) (hL : cL t s m lb lv lr (a_l a)) (hG : cG (l_k (a_l a)) tn od bk br lp (a_g a))  (hs : asC (l_k (a_l a)) p = some c) (h : ∀ r em es el fo wh rw' fr de eo ep ee, A_first a p r → cX0 em es el fo wh rw' fr de → Q r em es el fo wh rw' fr de eo ep ee) : wp_X11_first_N_A N s m lv od bk Q p em es el fo wh rw' fr de eo ep ee := by
  obtain ⟨s1, s2, s3, s4, s5, s6⟩ := AOk_s hA
  have hk := s1.2.2.1
  unfold wp_X11_first_N_A wp_X11_first_N_A_20
  rw [show m = jn (l_k (a_l a) : Int) from hL.2.2.1]
  refine wl_isCh_N hk (fun hno => by rw [hs] at hno; cases hno) (fun c' hcc hs' hx' => ⟨fun q => absurd q (by decide), fun _ => ?_⟩)
  rw [hs] at hs'
  cases hs'
  rw [← hL.2.2.1]
  refine cl_exp_A hN hA hL hG (fun F Qo pa la dp em es el fo wh rw' fr de eo ep ee hX => ?_)
  exact wl_aFi hN hk hX hcc hx' (fun y hy => h _ _ _ _ _ _ _ _ _ _ _ _ (Or.inl ⟨c, hs, y, hy, rfl⟩) (cX_0 hA hX))
theorem cm_behind_A {p : Int32} {c : Nat} {Q : Int32 → Int32 → Int32 → (Nat → Int32) → Int32 → (Nat → Int32) → (Nat → Int32) → (Nat → Int32) → (Nat → Int32) → (Nat → Int32) → (Nat → Int32) → (Nat → Int32) → Prop} (hN : 6000 ≤ N) (hA : AOk a) (hL : cL t s m lb lv lr (a_l a)) (hG : cG (l_k (a_l a)) tn od bk br lp (a_g a))  (hs : asC (l_k (a_l a)) p = some c) (h : ∀ r em es el fo wh rw' fr de eo ep ee, A_behind a p r → cX0 em es el fo wh rw' fr de → Q r em es el fo wh rw' fr de eo ep ee) : wp_X11_behind_N_A N s m lv od bk Q p em es el fo wh rw' fr de eo ep ee := by
  obtain ⟨s1, s2, s3, s4, s5, s6⟩ := AOk_s hA
  have hk := s1.2.2.1
  unfold wp_X11_behind_N_A wp_X11_behind_N_A_20
  rw [show m = jn (l_k (a_l a) : Int) from hL.2.2.1]
  refine wl_isCh_N hk (fun hno => by rw [hs] at hno; cases hno) (fun c' hcc hs' hx' => ⟨fun q => absurd q (by decide), fun _ => ?_⟩)
  rw [hs] at hs'
  cases hs'
  rw [← hL.2.2.1]
  refine cl_exp_A hN hA hL hG (fun F Qo pa la dp em es el fo wh rw' fr de eo ep ee hX => ?_)
  exact wl_aBe hN hk hX hcc hx' (fun y hy => h _ _ _ _ _ _ _ _ _ _ _ _ (Or.inl ⟨c, hs, y, hy, rfl⟩) (cX_0 hA hX))
theorem cl_exp_P {K : Int32 → Int32 → (Nat → Int32) → Int32 → (Nat → Int32) → (Nat → Int32) → (Nat → Int32) → (Nat → Int32) → (Nat → Int32) → (Nat → Int32) → (Nat → Int32) → Prop} (hN : 6000 ≤ N) (hA : AOk a) (hL : cL t s m lb lv lr (a_l a)) (hG : cG (l_k (a_l a)) tn od bk br lp (a_g a)) (hx : cX0 em es el fo wh rw' fr de) (h : ∀ F Qo pa la dp em es el fo wh rw' fr de eo ep ee, cX (l_k (a_l a)) (l_s (a_l a)) (clf (l_l (a_l a)) (g_b (a_g a))) (g_o (a_g a)) F Qo pa la dp em es el fo wh rw' fr de → K em es el fo wh rw' fr de eo ep ee) : wp_X11_explored_N_P N s m lv od bk K em es el fo wh rw' fr de eo ep ee := by
  obtain ⟨s1, s2, s3, s4, s5, s6⟩ := AOk_s hA
  obtain ⟨l1, l2, l3, l4, l5, l6⟩ := hL
  have := s1.2.1
  unfold wp_X11_explored_N_P wp_X11_explored_N_P_18
  rw [l2, l3]
  exact wl_explore hN s1.2.2.1 (by omega) l5 hG.2.1 hG.2.2.1 (fun c _ => by have := s1.2.2.2.2.2.1 c; omega) (fun c _ => by have := s2.2.1 c; omega) s2.1 (hx) h
theorem cm_fewest_P {p : Int32} {o : Nat → Nat} {Q : Int32 → Int32 → Int32 → (Nat → Int32) → Int32 → (Nat → Int32) → (Nat → Int32) → (Nat → Int32) → (Nat → Int32) → (Nat → Int32) → (Nat → Int32) → (Nat → Int32) → Prop} (hN : 6000 ≤ N) (hA : AOk a) (hL : cL t s m lb lv lr (a_l a)) (hG : cG (l_k (a_l a)) tn od bk br lp (a_g a)) (hx : cX0 em es el fo wh rw' fr de) (ho : isO a p o) (h : ∀ r em es el fo wh rw' fr de eo ep ee, A_fewest a p r → cX0 em es el fo wh rw' fr de → Q r em es el fo wh rw' fr de eo ep ee) : wp_X11_fewest_N_P N t s m lv od bk Q p em es el fo wh rw' fr de eo ep ee := by
  obtain ⟨s1, s2, s3, s4, s5, s6⟩ := AOk_s hA
  have hk := s1.2.2.1
  unfold wp_X11_fewest_N_P wp_X11_fewest_N_P_36
  rw [show t = 1 from by rw [hL.1, ho.1]; rfl, show m = jn (l_k (a_l a) : Int) from hL.2.2.1]
  refine wl_isOrder (by omega) hk (fun o' _ => ⟨fun q => absurd q (by decide), fun _ => ?_⟩) (fun hno => absurd ho.2 (hno o))
  rw [← hL.2.2.1]
  refine cl_exp_P hN hA hL hG hx (fun F Qo pa la dp em es el fo wh rw' fr de eo ep ee hX => ?_)
  have hX0 := cX_0 hA hX
  have hF : F ≤ 5040 := hX.2.2.2.1.2.1
  refine wl_aFw hN hk hX ho.2 (fun i hi e hD hd hde hg eo ee => ⟨fun _ => ⟨by simp (disch := omega) only [jn_le, jn_lt, jn_eq, jn_in, jn_add, jn_sub, jn_mul, jn_neg, li_0, li_1, li_2, li_3, li_4, li_5, li_6, li_7, li_8, li_9, li_10, li_11, li_12, li_13, li_14, li_15, li_16, li_17, li_18, li_20, li_24, li_29, li_30, li_31, li_32, li_37, li_39, li_40, li_42, li_43, li_45, li_46, li_47, li_48, li_53, li_57, li_59, li_60, li_61, li_62, li_63, li_80, li_81, li_91, li_93, li_97, li_100, li_122, li_200, li_255, li_256, li_257, li_258, li_259, li_260, li_300, li_314, li_400, li_580, li_999, li_5040, li_9999, li_65536, li_99999, li_7654321] <;> omega, ?_⟩, fun q => absurd (by rw [li_0, jn_le (by omega) (by omega)]; omega) q⟩) (fun hno eo ee => ⟨fun q => absurd q (by decide), fun _ => h _ _ _ _ _ _ _ _ _ _ _ _ (Or.inl ⟨o, ho, -2, Or.inr ⟨hno, rfl⟩, rfl⟩) hX0⟩)
  rw [jn_cln (by omega), hde]
  exact h _ _ _ _ _ _ _ _ _ _ _ _ (Or.inl ⟨o, ho, _, Or.inl ⟨dp i, hD, hd, rfl⟩, rfl⟩) hX0
theorem cm_step_P {p q z : Int32} {o : Nat → Nat} {Q : Int32 → Int32 → Int32 → (Nat → Int32) → Int32 → (Nat → Int32) → (Nat → Int32) → (Nat → Int32) → (Nat → Int32) → (Nat → Int32) → (Nat → Int32) → (Nat → Int32) → Prop} (hN : 6000 ≤ N) (hA : AOk a) (hL : cL t s m lb lv lr (a_l a)) (hG : cG (l_k (a_l a)) tn od bk br lp (a_g a)) (hx : cX0 em es el fo wh rw' fr de) (ho : isO a p o) (hq : 0 ≤ q.toInt) (hz : z = 0 ∨ z = 1) (h : ∀ r em es el fo wh rw' fr de eo ep ee, A_step a p q z r → cX0 em es el fo wh rw' fr de → Q r em es el fo wh rw' fr de eo ep ee) : wp_X11_step_N_P N t s m lv od bk Q p q z em es el fo wh rw' fr de eo ep ee := by
  obtain ⟨s1, s2, s3, s4, s5, s6⟩ := AOk_s hA
  have hk := s1.2.2.1
  have hA' : ∀ r, ((∃ D l : Nat, Ds (gE a) (gS0 a) (rk (l_k (a_l a)) o) D ∧ q.toInt < D ∧ Gp (gE a) (rk (l_k (a_l a)) o) q.toInt.toNat (gS0 a) D l ∧ r = if z = 0 then jn ((l / 8 : Nat) : Int) else jn ((l % 8 : Nat) : Int)) ∨ ((∀ D : Nat, Ds (gE a) (gS0 a) (rk (l_k (a_l a)) o) D → (D : Int) ≤ q.toInt) ∧ r = -2)) → A_step a p q z r := fun r hr => Or.inl ⟨o, ho, hq, hz, hr⟩
  obtain ⟨i0, rfl, hi0⟩ := jn_of q
  rw [jn_toInt hi0] at hq hA'
  obtain ⟨i, rfl⟩ : ∃ i : Nat, i0 = i := ⟨i0.toNat, by omega⟩
  unfold wp_X11_step_N_P wp_X11_step_N_P_83 wp_X11_step_N_P_54
  rw [show t = 1 from by rw [hL.1, ho.1]; rfl, show m = jn (l_k (a_l a) : Int) from hL.2.2.1]
  refine wl_isOrder (by omega) hk (fun o' _ => ⟨fun q => absurd q (by decide), fun _ => ⟨fun q => absurd q (by rw [li_0, jn_lt (by omega) (by omega)]; omega), fun _ => ⟨fun q => ?_, fun _ => ⟨fun _ => ?_, fun q => ?_⟩⟩⟩⟩) (fun hno => absurd ho.2 (hno o))
  · rcases hz with rfl | rfl <;> exact absurd q (by decide)
  · rw [← hL.2.2.1]
    refine cl_exp_P hN hA hL hG hx (fun F Qo pa la dp em es el fo wh rw' fr de eo ep ee hX => ?_)
    have hX0 := cX_0 hA hX
    have hF : F ≤ 5040 := hX.2.2.2.1.2.1
    refine wl_aFw hN hk hX ho.2 (fun j hj e hD hd hde hg eo ee => ⟨fun q => absurd q (by rw [li_0, jn_lt (by omega) (by omega)]; omega), fun _ => ⟨by simp (disch := omega) only [jn_le, jn_lt, jn_eq, jn_in, jn_add, jn_sub, jn_mul, jn_neg, li_0, li_1, li_2, li_3, li_4, li_5, li_6, li_7, li_8, li_9, li_10, li_11, li_12, li_13, li_14, li_15, li_16, li_17, li_18, li_20, li_24, li_29, li_30, li_31, li_32, li_37, li_39, li_40, li_42, li_43, li_45, li_46, li_47, li_48, li_53, li_57, li_59, li_60, li_61, li_62, li_63, li_80, li_81, li_91, li_93, li_97, li_100, li_122, li_200, li_255, li_256, li_257, li_258, li_259, li_260, li_300, li_314, li_400, li_580, li_999, li_5040, li_9999, li_65536, li_99999, li_7654321] <;> omega, ?_⟩⟩) (fun hno eo ee => ⟨fun _ => h _ _ _ _ _ _ _ _ _ _ _ _ (hA' _ (Or.inr ⟨fun D hD => absurd hD (hno D), rfl⟩)) hX0, fun q => absurd (by decide) q⟩)
    rw [jn_cln (by omega), hde, jn_lt (by omega) (by omega)]
    refine ⟨fun y => ?_, fun y => h _ _ _ _ _ _ _ _ _ _ _ _ (hA' _ (Or.inr ⟨fun D hD' => by rw [← Ds_un hD hD']; omega, rfl⟩)) hX0⟩
    have hGi := hg i (by omega)
    have h64 := Gp_64 (fun a l b q => Lg_64 hk q) hGi
    refine wl_leapOf (t := j) (i := i) hN hX.2.2.2.1 hX.2.2.2.2 hj (by omega) rfl rfl ?_
    generalize la (up pa j (dp j - (i + 1))) = l at hGi h64 ⊢
    have hAs := fun r hr => h r em es el fo wh rw' fr de eo ep ee (hA' r (Or.inl ⟨dp j, l, hD, by omega, by rw [Int.toNat_natCast]; exact hGi, hr⟩)) hX0
    refine ⟨fun z0 => ?_, fun z0 => ?_⟩
    · rw [show jn (l : Int) >>> ((3 : Int32) &&& 31) = jn ((l / 8 : Nat) : Int) from jn_shr (k := 3) (by omega) (by decide)]
      exact hAs _ (if_pos z0).symm
    · rw [show (7 : Int32) = jn ((7 : Nat) : Int) from rfl, jn_and, show l &&& 7 = l % 8 from Nat.and_two_pow_sub_one_eq_mod l 3]
      exact hAs _ (if_neg z0).symm
  · rcases hz with rfl | rfl <;> exact absurd (by decide) q
theorem cm_orders_P {n : Nat} {Q : Int32 → Int32 → Int32 → (Nat → Int32) → Int32 → (Nat → Int32) → (Nat → Int32) → (Nat → Int32) → (Nat → Int32) → (Nat → Int32) → (Nat → Int32) → (Nat → Int32) → Prop} (hN : 6000 ≤ N) (hA : AOk a) (hL : cL t s m lb lv lr (a_l a)) (hG : cG (l_k (a_l a)) tn od bk br lp (a_g a)) (hx : cX0 em es el fo wh rw' fr de) (ho : l_t (a_l a) = 1) (hn : n ≤ 30) (h : ∀ r em es el fo wh rw' fr de eo ep ee, A_orders a (jn (n : Int)) r → cX0 em es el fo wh rw' fr de → Q r em es el fo wh rw' fr de eo ep ee) : wp_X11_orders_N_P N t s m lv od bk Q (jn (n : Int)) em es el fo wh rw' fr de eo ep ee := by
  obtain ⟨s1, s2, s3, s4, s5, s6⟩ := AOk_s hA
  have hk := s1.2.2.1
  have en : (jn (n : Int)).toInt = n := jn_toInt (by omega)
  unfold wp_X11_orders_N_P
  rw [show t = 1 from by rw [hL.1, ho]; rfl]
  refine ⟨fun q => absurd q (by decide), fun _ => ⟨fun q => absurd q (by rw [li_0, jn_lt (by omega) (by omega)]; omega), fun _ => ⟨fun _ => ?_, fun q => absurd (by rw [li_30, jn_le (by omega) (by omega)]; omega) q⟩⟩⟩
  refine cl_exp_P hN hA hL hG hx (fun F Qo pa la dp em es el fo wh rw' fr de eo ep ee hX => ?_)
  refine wl_aOr (n := n) hN hk hX (by omega) rfl (fun y hy => h _ _ _ _ _ _ _ _ _ _ _ _ (Or.inl ⟨⟨ho, by rw [en]; omega, by rw [en]; omega⟩, y, by rw [en, Int.toNat_natCast]; exact hy, rfl⟩) (cX_0 hA hX))
theorem cm_farthest_P {p : Int32} {Q : Int32 → Int32 → Int32 → (Nat → Int32) → Int32 → (Nat → Int32) → (Nat → Int32) → (Nat → Int32) → (Nat → Int32) → (Nat → Int32) → (Nat → Int32) → (Nat → Int32) → Prop} (hN : 6000 ≤ N) (hA : AOk a) (hL : cL t s m lb lv lr (a_l a)) (hG : cG (l_k (a_l a)) tn od bk br lp (a_g a)) (hx : cX0 em es el fo wh rw' fr de) (ho : l_t (a_l a) = 1) (hp : p = 0 ∨ p = 1) (h : ∀ r em es el fo wh rw' fr de eo ep ee, A_farthest a p r → cX0 em es el fo wh rw' fr de → Q r em es el fo wh rw' fr de eo ep ee) : wp_X11_farthest_N_P N t s m lv od bk Q p em es el fo wh rw' fr de eo ep ee := by
  obtain ⟨s1, s2, s3, s4, s5, s6⟩ := AOk_s hA
  have hk := s1.2.2.1
  unfold wp_X11_farthest_N_P wp_X11_farthest_N_P_44
  rw [show t = 1 from by rw [hL.1, ho]; rfl]
  refine ⟨fun q => absurd q (by decide), fun _ => ⟨fun q => ?_, fun _ => ⟨fun _ => ?_, fun q => ?_⟩⟩⟩
  · rcases hp with rfl | rfl <;> exact absurd q (by decide)
  · refine cl_exp_P hN hA hL hG hx (fun F Qo pa la dp em es el fo wh rw' fr de eo ep ee hX => ?_)
    refine ⟨fun z => wl_aMo hX (fun y hy => h _ _ _ _ _ _ _ _ _ _ _ _ (Or.inl ⟨ho, z, y, hy, rfl⟩) (cX_0 hA hX)), fun z => wl_aFo hN hk hX (fun y hy => h _ _ _ _ _ _ _ _ _ _ _ _ (Or.inr (Or.inl ⟨ho, ?_, y, hy, rfl⟩)) (cX_0 hA hX))⟩
    rcases hp with hp | hp
    · exact absurd hp z
    · exact hp
  · rcases hp with rfl | rfl <;> exact absurd (by decide) q
theorem cm_first_P {p : Int32} {c : Nat} {Q : Int32 → Int32 → Int32 → (Nat → Int32) → Int32 → (Nat → Int32) → (Nat → Int32) → (Nat → Int32) → (Nat → Int32) → (Nat → Int32) → (Nat → Int32) → (Nat → Int32) → Prop} (hN : 6000 ≤ N) (hA : AOk a) (hL : cL t s m lb lv lr (a_l a)) (hG : cG (l_k (a_l a)) tn od bk br lp (a_g a)) (hx : cX0 em es el fo wh rw' fr de) (hs : asC (l_k (a_l a)) p = some c) (h : ∀ r em es el fo wh rw' fr de eo ep ee, A_first a p r → cX0 em es el fo wh rw' fr de → Q r em es el fo wh rw' fr de eo ep ee) : wp_X11_first_N_P N s m lv od bk Q p em es el fo wh rw' fr de eo ep ee := by
  obtain ⟨s1, s2, s3, s4, s5, s6⟩ := AOk_s hA
  have hk := s1.2.2.1
  unfold wp_X11_first_N_P wp_X11_first_N_P_20
  rw [show m = jn (l_k (a_l a) : Int) from hL.2.2.1]
  refine wl_isCh_N hk (fun hno => by rw [hs] at hno; cases hno) (fun c' hcc hs' hx' => ⟨fun q => absurd q (by decide), fun _ => ?_⟩)
  rw [hs] at hs'
  cases hs'
  rw [← hL.2.2.1]
  refine cl_exp_P hN hA hL hG hx (fun F Qo pa la dp em es el fo wh rw' fr de eo ep ee hX => ?_)
  exact wl_aFi hN hk hX hcc hx' (fun y hy => h _ _ _ _ _ _ _ _ _ _ _ _ (Or.inl ⟨c, hs, y, hy, rfl⟩) (cX_0 hA hX))
theorem cm_behind_P {p : Int32} {c : Nat} {Q : Int32 → Int32 → Int32 → (Nat → Int32) → Int32 → (Nat → Int32) → (Nat → Int32) → (Nat → Int32) → (Nat → Int32) → (Nat → Int32) → (Nat → Int32) → (Nat → Int32) → Prop} (hN : 6000 ≤ N) (hA : AOk a) (hL : cL t s m lb lv lr (a_l a)) (hG : cG (l_k (a_l a)) tn od bk br lp (a_g a)) (hx : cX0 em es el fo wh rw' fr de) (hs : asC (l_k (a_l a)) p = some c) (h : ∀ r em es el fo wh rw' fr de eo ep ee, A_behind a p r → cX0 em es el fo wh rw' fr de → Q r em es el fo wh rw' fr de eo ep ee) : wp_X11_behind_N_P N s m lv od bk Q p em es el fo wh rw' fr de eo ep ee := by
  obtain ⟨s1, s2, s3, s4, s5, s6⟩ := AOk_s hA
  have hk := s1.2.2.1
  unfold wp_X11_behind_N_P wp_X11_behind_N_P_20
  rw [show m = jn (l_k (a_l a) : Int) from hL.2.2.1]
  refine wl_isCh_N hk (fun hno => by rw [hs] at hno; cases hno) (fun c' hcc hs' hx' => ⟨fun q => absurd q (by decide), fun _ => ?_⟩)
  rw [hs] at hs'
  cases hs'
  rw [← hL.2.2.1]
  refine cl_exp_P hN hA hL hG hx (fun F Qo pa la dp em es el fo wh rw' fr de eo ep ee hX => ?_)
  exact wl_aBe hN hk hX hcc hx' (fun y hy => h _ _ _ _ _ _ _ _ _ _ _ _ (Or.inl ⟨c, hs, y, hy, rfl⟩) (cX_0 hA hX))
theorem cm_isO {p : Int32} {Q : Int32 → Prop} (hN : 20 ≤ N) (hA : AOk a) (hL : cL t s m lb lv lr (a_l a)) (hno : ∀ o, ¬ isO a p o) (h : Q 0) : wp_X11_isOrder_N N t m Q p := by
  have hk := (AOk_s hA).1.2.2.1
  rcases lt_of hA with e | e
  · unfold wp_X11_isOrder_N
    rw [hL.1, e]
    exact ⟨fun _ => h, fun q => absurd rfl q⟩
  · rw [show t = 1 from by rw [hL.1, e]; rfl, show m = jn (l_k (a_l a) : Int) from hL.2.2.1]
    exact wl_isOrder hN hk (fun o ho => absurd ⟨e, ho⟩ (hno o)) (fun _ => h)
theorem cm_fewest_0 {p : Int32} {Q : Int32 → Prop} (hN : 20 ≤ N) (hA : AOk a) (hL : cL t s m lb lv lr (a_l a)) (hno : ∀ o, ¬ isO a p o) (h : Q (-1)) : wp_X11_fewest_N_0 N t m Q p := cm_isO hN hA hL hno ⟨fun _ => h, fun q => absurd rfl q⟩
theorem cm_step_0 {p q z : Int32} {Q : Int32 → Prop} (hN : 20 ≤ N) (hA : AOk a) (hL : cL t s m lb lv lr (a_l a)) (hno : ∀ o, ¬ (isO a p o ∧ 0 ≤ q.toInt ∧ (z = 0 ∨ z = 1))) (h : Q (-1)) : wp_X11_step_N_0 N t m Q p q z := by
  have hk := (AOk_s hA).1.2.2.1
  by_cases ho : ∃ o, isO a p o
  · obtain ⟨o, ho⟩ := ho
    unfold wp_X11_step_N_0 wp_X11_step_N_0_21
    rw [show t = 1 from by rw [hL.1, ho.1]; rfl, show m = jn (l_k (a_l a) : Int) from hL.2.2.1]
    obtain ⟨i, rfl, hi⟩ := jn_of q
    obtain ⟨w, rfl, hw⟩ := jn_of z
    rw [jn_toInt hi] at hno
    refine wl_isOrder hN hk (fun o' _ => ⟨fun q => absurd q (by decide), fun _ => ⟨fun _ => h, fun z1 => ⟨fun _ => h, fun z2 => ⟨fun z3 => ?_, fun _ => h⟩⟩⟩⟩) (fun hno => absurd ho.2 (hno o))
    rw [li_0, jn_lt hi (by omega)] at z1
    rw [li_0, jn_lt hw (by omega)] at z2
    rw [li_1, jn_le hw (by omega)] at z3
    refine hno o ⟨ho, by omega, ?_⟩
    rw [li_0, li_1, jn_eq hw (by omega), jn_eq hw (by omega)]; omega
  · exact cm_isO hN hA hL (fun o q => ho ⟨o, q⟩) ⟨fun _ => h, fun q => absurd rfl q⟩
theorem cm_orders_0 {p : Int32} {Q : Int32 → Prop} (hA : AOk a) (hL : cL t s m lb lv lr (a_l a)) (hno : ¬ (l_t (a_l a) = 1 ∧ 0 ≤ p.toInt ∧ p.toInt ≤ 30)) (h : Q (-1)) : wp_X11_orders_N_0 N t Q p := by
  obtain ⟨i, rfl, hi⟩ := jn_of p
  rw [jn_toInt hi] at hno
  unfold wp_X11_orders_N_0 wp_X11_orders_N_0_23
  rcases lt_of hA with e | e
  · rw [hL.1, e]
    exact ⟨fun _ => h, fun q => absurd rfl q⟩
  · refine ⟨fun _ => h, fun _ => ⟨fun _ => h, fun z1 => ⟨fun z2 => ?_, fun _ => h⟩⟩⟩
    rw [li_0, jn_lt hi (by omega)] at z1
    rw [li_30, jn_le hi (by omega)] at z2
    exact hno ⟨e, by omega, by omega⟩
theorem cm_farthest_0 {p : Int32} {Q : Int32 → Prop} (hA : AOk a) (hL : cL t s m lb lv lr (a_l a)) (hno : ¬ (l_t (a_l a) = 1 ∧ (p = 0 ∨ p = 1))) (h : Q (-1)) : wp_X11_farthest_N_0 N t Q p := by
  obtain ⟨i, rfl, hi⟩ := jn_of p
  unfold wp_X11_farthest_N_0 wp_X11_farthest_N_0_22
  rcases lt_of hA with e | e
  · rw [hL.1, e]
    exact ⟨fun _ => h, fun q => absurd rfl q⟩
  · refine ⟨fun _ => h, fun _ => ⟨fun _ => h, fun z1 => ⟨fun z2 => ?_, fun _ => h⟩⟩⟩
    rw [li_0, jn_lt hi (by omega)] at z1
    rw [li_1, jn_le hi (by omega)] at z2
    refine hno ⟨e, ?_⟩
    rw [li_0, li_1, jn_eq hi (by omega), jn_eq hi (by omega)]; omega
theorem cm_first_0 {p : Int32} {Q : Int32 → Prop} (hA : AOk a) (hL : cL t s m lb lv lr (a_l a)) (hno : asC (l_k (a_l a)) p = none) (h : Q (-1)) : wp_X11_first_N_0 N m Q p := by
  unfold wp_X11_first_N_0 wp_X11_first_N_0_20
  rw [hL.2.2.1]
  exact wl_isCh_N (AOk_s hA).1.2.2.1 (fun _ => ⟨fun _ => h, fun q => absurd rfl q⟩) (fun c _ hs _ => by rw [hno] at hs; cases hs)
theorem cm_behind_0 {p : Int32} {Q : Int32 → Prop} (hA : AOk a) (hL : cL t s m lb lv lr (a_l a)) (hno : asC (l_k (a_l a)) p = none) (h : Q (-1)) : wp_X11_behind_N_0 N m Q p := by
  unfold wp_X11_behind_N_0 wp_X11_behind_N_0_20
  rw [hL.2.2.1]
  exact wl_isCh_N (AOk_s hA).1.2.2.1 (fun _ => ⟨fun _ => h, fun q => absurd rfl q⟩) (fun c _ hs _ => by rw [hno] at hs; cases hs)
end CRE
