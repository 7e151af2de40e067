/-! the class: calls over the whole state -/
def cSt (t s m : Int32) (lb lv lr : Nat → Int32) (tn : Int32) (od bk br lp : Nat → Int32) (nm : Int32) (nt nc : Nat → Int32) (inf x : Int32) (σ : sS) : Prop := cL t s m lb lv lr (s_l σ) ∧ cG (l_k (s_l σ)) tn od bk br lp (s_g σ) ∧ cN nm nt nc (s_n σ) ∧ inf = jn (s_f σ) ∧ x = jn (s_x σ : Int)
theorem lnP_e {b : Nat → Int} {n : Nat} (hn : n ≤ 400) : ∀ {f c a : Nat} {l : lS} {e : Nat}, a ≤ n → l_k l ≤ 7 → lnP b n f c a l = .inl e → 0 < e ∧ e < 4000
  | 0, c, a, l, e, _, _, h => by
    have h : (Sum.inl 1 : Nat ⊕ lS) = .inl e := h
    cases h; omega
  | f + 1, c, a, l, e, ha, hk, h => by
    unfold lnP at h
    have hcs := cS_r (b := b) (c := c) ha hn hk
    cases q : cS b n c a l with
    | inl e' =>
      rw [q] at h hcs
      cases h; exact hcs
    | inr x =>
      rw [q] at h hcs
      dsimp only at h hcs
      have h1 := skp_le (b := b) hcs.1
      have h2 := en_le (b := b) h1.2
      split at h
      · exact lnP_e hn h2.2 hcs.2 h
      · split at h
        · cases h
        · cases h; omega
section CCA
variable {N : Nat} {a : aS} {pb lb lv lr od bk br lp nt nc : Nat → Int32} {pl t s m tn nm inf x rm am : Int32}
theorem cm_feed {v0 v1 v2 v3 v4 : Int32} {Q : Int32 → (Nat → Int32) → Int32 → Prop} (hN : 700 ≤ N) (hA : AOk a) (hT : mTp a pb pl) (h : ∀ pb pl, mTp (F_feed a v0 v1 v2 v3 v4).2 pb pl → Q (F_feed a v0 v1 v2 v3 v4).1 pb pl) : wp_X11_feed_N N Q v0 v1 v2 v3 v4 pb pl := by
  obtain ⟨t1, t2⟩ := hT
  have hn := hA.1
  unfold wp_X11_feed_N
  unfold F_feed at h
  subst t1
  rw [show jn (a_n a : Int) + 20 = jn ((a_n a + 20 : Nat) : Int) from by (first | rfl | (simp (disch := omega) only [jn_add, jn_sub, jn_mul, jn_neg, li_0, li_1, li_2, li_3, li_4, li_5, li_6, li_7, li_8, li_9, li_10, li_11, li_12, li_13, li_14, li_15, li_16, li_17, li_18, li_20, li_24, li_29, li_30, li_31, li_32, li_37, li_39, li_40, li_42, li_43, li_45, li_46, li_47, li_48, li_53, li_57, li_59, li_60, li_61, li_62, li_63, li_80, li_81, li_91, li_93, li_97, li_100, li_122, li_200, li_255, li_256, li_257, li_258, li_259, li_260, li_300, li_314, li_400, li_580, li_999, li_5040, li_9999, li_65536, li_99999, li_7654321] <;> first | rfl | exact congrArg jn (by omega)) | exact congrArg jn (by omega)), show (jn ((a_n a + 20 : Nat) : Int) ≤ 400) = (a_n a + 20 ≤ 400) from by rw [li_400, jn_le (by omega) (by omega)]; exact propext ⟨fun q => by omega, fun q => by omega⟩]
  refine ⟨fun z => ?_, fun z => ?_⟩
  · rw [if_pos z] at h
    refine wl_put (by omega) (by omega) t2 rfl (fun tp1 h1 => ?_)
    refine wl_put (by omega) (by omega) h1 rfl (fun tp2 h2 => ?_)
    refine wl_put (by omega) (by omega) h2 rfl (fun tp3 h3 => ?_)
    refine wl_put (by omega) (by omega) h3 rfl (fun tp4 h4 => ?_)
    refine wl_put (by omega) (by omega) h4 rfl (fun tp5 h5 => ?_)
    exact h tp5 (jn ((a_n a + 20 : Nat) : Int)) ⟨rfl, h5⟩
  · rw [if_neg z] at h
    exact h pb _ ⟨rfl, t2⟩
theorem cm_end {p : Int32} {Q : Int32 → Int32 → Prop} (hA : AOk a) (hT : mTp a pb pl) (h : ∀ pl, mTp (F_end a p).2 pb pl → Q (F_end a p).1 pl) : wp_X11_end_N N Q p pl := by
  obtain ⟨t1, t2⟩ := hT
  have hn := hA.1
  obtain ⟨y, rfl, hy⟩ := jn_of p
  unfold wp_X11_end_N wp_X11_end_N_15
  unfold F_end at h
  rw [jn_toInt hy] at h
  subst t1
  rw [li_0, jn_lt hy (by omega), jn_le hy (by omega)]
  refine ⟨fun z => ?_, fun z => ⟨fun z1 => ?_, fun z1 => ?_⟩⟩
  · rw [if_neg (by omega)] at h; exact h _ ⟨rfl, t2⟩
  · rw [if_pos (by omega)] at h
    refine h _ ⟨?_, fun i hi => t2 i ?_⟩
    · show jn y = jn ((y.toNat : Nat) : Int)
      exact congrArg jn (by omega)
    · have hi : i < y.toNat := hi
      omega
  · rw [if_neg (by omega)] at h; exact h _ ⟨rfl, t2⟩
theorem cm_force {p : Int32} {Q : Int32 → Int32 → Prop} (hA : AOk a) (hrm : rm = jn (a_r a : Int)) (hf : inf = jn (s_f (a_s a))) (h : ∀ inf, inf = jn (s_f (a_s (F_force a p).2)) → Q (F_force a p).1 inf) : wp_X11_force_N N rm Q p inf := by
  have h6 := hA.2.2.1
  obtain ⟨y, rfl, hy⟩ := jn_of p
  unfold wp_X11_force_N wp_X11_force_N_13
  unfold F_force at h
  rw [jn_toInt hy] at h
  rw [hrm, show (-1 : Int32) = jn (-1) from rfl, jn_lt hy (by omega), jn_lt hy (by omega)]
  refine ⟨fun z => ?_, fun z => ⟨fun z1 => ?_, fun z1 => ?_⟩⟩
  · rw [if_neg (by omega)] at h; exact h _ hf
  · rw [if_pos (by omega)] at h
    rw [hf]
    exact h _ rfl
  · rw [if_neg (by omega)] at h; exact h _ hf
theorem cm_seed {p : Int32} {Q : Int32 → Int32 → Prop} (hx : x = jn (s_x (a_s a) : Int)) (h : ∀ x, x = jn (s_x (a_s (F_seed a p).2) : Int) → Q (F_seed a p).1 x) : wp_X11_seed_N N Q p x := by
  obtain ⟨y, rfl, hy⟩ := jn_of p
  unfold wp_X11_seed_N
  unfold F_seed at h
  rw [jn_toInt hy] at h
  rw [show (0 ≤ jn y) = (0 ≤ y) from by rw [li_0, jn_le (by omega) hy]]
  refine ⟨fun z => ?_, fun z => ?_⟩
  · rw [if_pos z] at h
    rw [hx]
    refine h _ ?_
    show jn y = jn ((y.toNat : Nat) : Int)
    exact congrArg jn (by omega)
  · rw [if_neg z] at h; exact h _ hx
theorem cm_note {p q : Int32} {Q : Int32 → Int32 → (Nat → Int32) → (Nat → Int32) → Prop} (hA : AOk a) (hm : m = jn (l_k (a_l a) : Int)) (hn : cN nm nt nc (a_v a)) (h : ∀ nm nt nc, cN nm nt nc (a_v (F_note a p q).2) → Q (F_note a p q).1 nm nt nc) : wp_X11_note_N N m Q p q nm nt nc := by
  obtain ⟨s1, s2, s3, s4, s5, s6⟩ := AOk_s hA
  obtain ⟨y, rfl, hy⟩ := jn_of p
  unfold F_note at h
  rw [jn_toInt hy] at h
  rw [hm]
  refine wl_note (v := a_v a) s1 s3 hn (fun z => ?_) (fun z hno => ?_) (fun n c hq nm nt nc b2 => ?_)
  · rw [if_pos z] at h
    exact h _ _ _ ⟨rfl, fun i hi => absurd hi (Nat.not_lt_zero _), fun i hi => absurd hi (Nat.not_lt_zero _)⟩
  · rw [if_neg z] at h
    cases e : asC (l_k (a_l a)) q with
    | none => rw [e] at h; exact h _ _ _ hn
    | some c =>
      rw [e] at h
      dsimp only at h
      by_cases q1 : 0 ≤ y ∧ y ≤ 60 ∧ n_m (a_v a) < 10
      · exact absurd ⟨congrArg jn (by omega), by omega, e, q1.2.2⟩ (hno y.toNat c)
      · rw [if_neg q1] at h; exact h _ _ _ hn
  · obtain ⟨q1, q2, q3, q4⟩ := hq
    rw [jn_eq hy (by omega)] at q1
    subst q1
    rw [if_neg (by rw [show (-1 : Int32) = jn (-1) from rfl, jn_eq (by omega) (by omega)]; omega), q3] at h
    dsimp only at h
    rw [if_pos (by omega), Int.toNat_natCast] at h
    exact h _ _ _ b2
theorem cm_child {p w : Int32} {Q : Int32 → Prop} (hN : 20 ≤ N) (hA : AOk a) (hL : cL t s m lb lv lr (a_l a)) (hG : cG (l_k (a_l a)) tn od bk br lp (a_g a)) (h : Q (F_child a p w).1) : wp_X11_child_N N s m lv od bk br lp Q p w := by
  obtain ⟨s1, s2, s3, s4, s5, s6⟩ := AOk_s hA
  have hk := s1.2.2.1
  obtain ⟨l1, l2, l3, l4, l5, l6⟩ := hL
  unfold wp_X11_child_N
  unfold F_child at h
  rw [l2, l3]
  refine wl_isCh_N hk (fun hno => ⟨fun _ => ?_, fun q => absurd rfl q⟩) (fun c hc hs hx => ⟨fun q => absurd q (by decide), fun _ => ?_⟩)
  · rw [hno] at h; exact h
  rw [hs] at h
  dsimp only at h
  subst hx
  have hp : plc (a_l a) (a_g a) c < l_k (a_l a) := iv_lt s2.1 hc
  refine wl_placeOf hk (by omega) hG.2.1 s2.1 hp (by rw [show g_o (a_g a) (plc (a_l a) (a_g a) c) = c from iv_at s2.1 hc]) ?_
  rw [jn_cln (by omega)]
  refine ⟨fun z => ?_, fun z => ⟨fun z1 => ?_, fun z1 => ⟨fun z2 => ?_, fun z2 => ⟨fun z3 => ?_, fun z3 => ⟨fun z4 => ?_, fun z4 => ⟨fun z5 => ?_, fun z5 => ?_⟩⟩⟩⟩⟩⟩
  · rw [if_pos z] at h
    rw [hG.2.2.1 c hc]; exact ⟨by simp (disch := omega) only [jn_le, jn_lt, jn_eq, jn_in, jn_add, jn_sub, jn_mul, jn_neg, li_0, li_1, li_2, li_3, li_4, li_5, li_6, li_7, li_8, li_9, li_10, li_11, li_12, li_13, li_14, li_15, li_16, li_17, li_18, li_20, li_24, li_29, li_30, li_31, li_32, li_37, li_39, li_40, li_42, li_43, li_45, li_46, li_47, li_48, li_53, li_57, li_59, li_60, li_61, li_62, li_63, li_80, li_81, li_91, li_93, li_97, li_100, li_122, li_200, li_255, li_256, li_257, li_258, li_259, li_260, li_300, li_314, li_400, li_580, li_999, li_5040, li_9999, li_65536, li_99999, li_7654321] <;> omega, h⟩
  · rw [if_neg z, if_pos z1] at h
    rw [l5 c hc]; exact ⟨by simp (disch := omega) only [jn_le, jn_lt, jn_eq, jn_in, jn_add, jn_sub, jn_mul, jn_neg, li_0, li_1, li_2, li_3, li_4, li_5, li_6, li_7, li_8, li_9, li_10, li_11, li_12, li_13, li_14, li_15, li_16, li_17, li_18, li_20, li_24, li_29, li_30, li_31, li_32, li_37, li_39, li_40, li_42, li_43, li_45, li_46, li_47, li_48, li_53, li_57, li_59, li_60, li_61, li_62, li_63, li_80, li_81, li_91, li_93, li_97, li_100, li_122, li_200, li_255, li_256, li_257, li_258, li_259, li_260, li_300, li_314, li_400, li_580, li_999, li_5040, li_9999, li_65536, li_99999, li_7654321] <;> omega, h⟩
  · rw [if_neg z, if_neg z1, if_pos z2] at h
    rw [hG.2.2.2.1 c hc]; exact ⟨by simp (disch := omega) only [jn_le, jn_lt, jn_eq, jn_in, jn_add, jn_sub, jn_mul, jn_neg, li_0, li_1, li_2, li_3, li_4, li_5, li_6, li_7, li_8, li_9, li_10, li_11, li_12, li_13, li_14, li_15, li_16, li_17, li_18, li_20, li_24, li_29, li_30, li_31, li_32, li_37, li_39, li_40, li_42, li_43, li_45, li_46, li_47, li_48, li_53, li_57, li_59, li_60, li_61, li_62, li_63, li_80, li_81, li_91, li_93, li_97, li_100, li_122, li_200, li_255, li_256, li_257, li_258, li_259, li_260, li_300, li_314, li_400, li_580, li_999, li_5040, li_9999, li_65536, li_99999, li_7654321] <;> omega, h⟩
  · rw [if_neg z, if_neg z1, if_neg z2, if_pos z3] at h; exact h
  · rw [if_neg z, if_neg z1, if_neg z2, if_neg z3, if_pos z4] at h
    exact wl_overFrom hk s1.2.1 (by omega) hG.2.1 hG.2.2.1 l5 s2.1 s2.2.1 s1.2.2.2.2.2.1 hp rfl h
  · rw [if_neg z, if_neg z1, if_neg z2, if_neg z3, if_neg z4, if_pos z5] at h
    rw [hG.2.2.2.2 c hc]; exact ⟨by simp (disch := omega) only [jn_le, jn_lt, jn_eq, jn_in, jn_add, jn_sub, jn_mul, jn_neg, li_0, li_1, li_2, li_3, li_4, li_5, li_6, li_7, li_8, li_9, li_10, li_11, li_12, li_13, li_14, li_15, li_16, li_17, li_18, li_20, li_24, li_29, li_30, li_31, li_32, li_37, li_39, li_40, li_42, li_43, li_45, li_46, li_47, li_48, li_53, li_57, li_59, li_60, li_61, li_62, li_63, li_80, li_81, li_91, li_93, li_97, li_100, li_122, li_200, li_255, li_256, li_257, li_258, li_259, li_260, li_300, li_314, li_400, li_580, li_999, li_5040, li_9999, li_65536, li_99999, li_7654321] <;> omega, h⟩
  · rw [if_neg z, if_neg z1, if_neg z2, if_neg z3, if_neg z4, if_neg z5] at h; exact h
theorem cm_order {Q : Int32 → Prop} (hN : 20 ≤ N) (hA : AOk a) (hL : cL t s m lb lv lr (a_l a)) (hG : cG (l_k (a_l a)) tn od bk br lp (a_g a)) (h : Q (F_order a).1) : wp_X11_order_N N t m od Q := by
  obtain ⟨s1, s2, s3, s4, s5, s6⟩ := AOk_s hA
  have hl1 := s1.1
  obtain ⟨l1, l2, l3, l4, l5, l6⟩ := hL
  unfold wp_X11_order_N wp_X11_order_N_34
  unfold F_order at h
  rw [l1, l3, li_0, jn_eq (by omega) (by omega)]
  refine ⟨fun z => ?_, fun z => ?_⟩
  · rw [if_pos (by omega)] at h; exact h
  · rw [if_neg (by omega)] at h
    exact wl_orderNumber s1.2.2.1 (by omega) hG.2.1 h
theorem cm_count {p : Int32} {Q : Int32 → Prop} (hN : 20 ≤ N) (hA : AOk a) (hT : mTp a pb pl) (hrm : rm = jn (a_r a : Int)) (hS : cSt t s m lb lv lr tn od bk br lp nm nt nc inf x (a_s a)) (ham : am = jn (a_m a : Int)) (h : Q (F_count a p).1) : wp_X11_count_N N rm pl s m lv tn od bk br lp nm inf x am Q p := by
  obtain ⟨s1, s2, s3, s4, s5, s6⟩ := AOk_s hA
  have hk := s1.2.2.1
  obtain ⟨⟨l1, l2, l3, l4, l5, l6⟩, hG, hn, hi, hx⟩ := hS
  unfold wp_X11_count_N
  unfold F_count at h
  dsimp only at h
  refine ⟨fun z => ?_, fun z => ⟨fun z1 => ?_, fun z1 => ⟨fun z2 => ?_, fun z2 => ⟨fun z3 => ?_, fun z3 => ⟨fun z4 => ?_, fun z4 => ⟨fun z5 => ?_, fun z5 => ⟨fun z6 => ?_, fun z6 => ⟨fun z7 => ?_, fun z7 => ⟨fun z8 => ?_, fun z8 => ⟨fun z9 => ?_, fun z9 => ⟨fun z10 => ?_, fun z10 => ⟨fun z11 => ?_, fun z11 => ?_⟩⟩⟩⟩⟩⟩⟩⟩⟩⟩⟩⟩
  · rw [if_pos z] at h; rw [l2]; exact h
  · rw [if_neg z, if_pos z1] at h; rw [l3]; exact h
  · rw [if_neg z, if_neg z1, if_pos z2] at h; rw [hrm]; exact h
  · rw [if_neg z, if_neg z1, if_neg z2, if_pos z3] at h; rw [hi]; exact h
  · rw [if_neg z, if_neg z1, if_neg z2, if_neg z3, if_pos z4] at h; rw [hG.1]; exact h
  · rw [if_neg z, if_neg z1, if_neg z2, if_neg z3, if_neg z4, if_pos z5] at h
    rw [l3]
    exact wl_whoCan hk (by omega) hG.2.1 hG.2.2.1 l5 hG.2.2.2.1 s2.1 s2.2.1 s1.2.2.2.2.2.1 s2.2.2.1 h
  · rw [if_neg z, if_neg z1, if_neg z2, if_neg z3, if_neg z4, if_neg z5, if_pos z6] at h
    rw [l3]
    refine wl_whoIsFirst hk hG.2.1 ?_
    rw [show (if l_k (s_l (a_s a)) = 0 then (-1 : Int32) else jn (g_o (s_g (a_s a)) 0 : Int)) = jn (fi (a_l a) (a_g a)) from fi_jn]; exact h
  · rw [if_neg z, if_neg z1, if_neg z2, if_neg z3, if_neg z4, if_neg z5, if_neg z6, if_pos z7] at h
    rw [l3]
    exact wl_allLeapt hk (by omega) hG.2.2.2.2 h
  · rw [if_neg z, if_neg z1, if_neg z2, if_neg z3, if_neg z4, if_neg z5, if_neg z6, if_neg z7, if_pos z8] at h; rw [hn.1]; exact h
  · rw [if_neg z, if_neg z1, if_neg z2, if_neg z3, if_neg z4, if_neg z5, if_neg z6, if_neg z7, if_neg z8, if_pos z9] at h; rw [ham]; exact h
  · rw [if_neg z, if_neg z1, if_neg z2, if_neg z3, if_neg z4, if_neg z5, if_neg z6, if_neg z7, if_neg z8, if_neg z9, if_pos z10] at h; rw [hx]; exact h
  · rw [if_neg z, if_neg z1, if_neg z2, if_neg z3, if_neg z4, if_neg z5, if_neg z6, if_neg z7, if_neg z8, if_neg z9, if_neg z10, if_pos z11] at h; rw [hT.1]; exact h
  · rw [if_neg z, if_neg z1, if_neg z2, if_neg z3, if_neg z4, if_neg z5, if_neg z6, if_neg z7, if_neg z8, if_neg z9, if_neg z10, if_neg z11] at h; exact h
theorem cm_lane {Q : Int32 → Int32 → Int32 → Int32 → Int32 → Int32 → Int32 → Int32 → Int32 → Int32 → (Nat → Int32) → (Nat → Int32) → (Nat → Int32) → Int32 → (Nat → Int32) → (Nat → Int32) → (Nat → Int32) → (Nat → Int32) → Int32 → Int32 → Int32 → Int32 → Int32 → (Nat → Int32) → (Nat → Int32) → (Nat → Int32) → Prop} {p1 p2 p3 p4 p5 kt ks km : Int32} {kb kl kr : Nat → Int32} (hN : 700 ≤ N) (hA : AOk a) (hT : mTp a pb pl) (hS : cSt t s m lb lv lr tn od bk br lp nm nt nc inf x (a_s a)) (ham : am = jn (a_m a : Int))
    (h : ∀ pl p1 p2 p3 p4 p5 t s m lb lv lr tn od bk br lp nm am kt ks km kb kl kr, mTp (F_lane a).2 pb pl → cSt t s m lb lv lr tn od bk br lp nm nt nc inf x (a_s (F_lane a).2) → am = jn (a_m (F_lane a).2 : Int) → Q (F_lane a).1 pl p1 p2 p3 p4 p5 t s m lb lv lr tn od bk br lp nm am kt ks km kb kl kr) : wp_X11_lane_N N pb Q pl p1 p2 p3 p4 p5 t s m lb lv lr tn od bk br lp nm am kt ks km kb kl kr := by
  unfold wp_X11_lane_N
  rw [hT.1]
  refine wl_laneRead (by omega) hA.1 hT.2 hA.2.1 ?_
  unfold F_lane at h
  cases e : lnP (a_b a) (a_n a) 41 0 0 l0 with
  | inl er =>
    rw [e] at h
    have her := lnP_e (b := a_b a) hA.1 (Nat.zero_le _) (by decide) e
    intro z1 z2 z3 z4 z5 z6 z7 z8 z9
    refine ⟨fun q => ?_, fun _ => ?_⟩
    · rw [li_0, jn_eq (by omega) (by omega)] at q; omega
    · rw [show (-2 : Int32) - jn (er : Int) = jn (-2 - (er : Int)) from by rw [show (-2 : Int32) = jn (-2) from rfl, jn_sub]]
      exact h _ _ _ _ _ _ _ _ _ _ _ _ _ _ _ _ _ _ _ _ _ _ _ _ _ ⟨rfl, fun i hi => absurd hi (Nat.not_lt_zero _)⟩ hS ham
  | inr v =>
    rw [e] at h
    have hl := lnP_ok (b := a_b a) hA.1 (Nat.zero_le _) rfl (by decide) (fun q => absurd q (by omega)) (fun _ => rfl) (fun _ => Nat.zero_le _) (fun _ => Nat.zero_le _) (fun _ => Nat.zero_le _) e
    have hk := hl.1.2.2.1
    intro z1 z2 z3 z4 lb' ll' lr' q1 q2 q3
    refine ⟨fun _ => ?_, fun q => absurd rfl q⟩
    refine wl_takeL (Or.inr rfl) (fun b l r e1 e2 e3 => ?_)
    refine wl_begin (by omega) (fun o b2 r2 p2 f1 f2 f3 f4 => ?_)
    have c1 : ar (l_k v) b (l_b v) := ar_of hk q1 e1
    have c2 : ar (l_k v) l (l_l v) := ar_of hk q2 e2
    have c3 : ar (l_k v) r (l_r v) := ar_of hk q3 e3
    refine h _ _ _ _ _ _ _ _ _ _ _ _ _ _ _ _ _ _ _ _ _ _ _ _ _ ⟨rfl, fun i hi => absurd hi (Nat.not_lt_zero _)⟩ ⟨⟨by show (1 : Int32) = jn (l_t v : Int); rw [hl.2]; rfl, rfl, rfl, c1, c2, c3⟩, ⟨rfl, fun c hc => f1 c (by have hc : c < l_k v := hc; omega), fun c hc => ?_, fun c hc => ?_, fun c hc => f4 c (by have hc : c < l_k v := hc; omega)⟩, ⟨rfl, fun i hi => absurd hi (Nat.not_lt_zero _), fun i hi => absurd hi (Nat.not_lt_zero _)⟩, hS.2.2.2.1, hS.2.2.2.2⟩ rfl
    · have hc : c < l_k v := hc
      rw [f2 c (by omega)]; exact c1 c hc
    · have hc : c < l_k v := hc
      rw [f3 c (by omega)]; exact c3 c hc
end CCA
