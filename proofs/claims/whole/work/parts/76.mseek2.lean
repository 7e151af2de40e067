/-! the reference's search, one way or the other -/
def WY (N m sp : Nat) (sd : Nat → Int32) (w : Int32) (E : Nat → Nat → Nat → Prop) (ok : (Nat → Nat) → Nat → Nat → Prop) (nx : (Nat → Nat) → Nat → Nat → Nat → Nat) : Prop :=
  (∀ (rw' : Nat → Int32) (r : Nat → Nat) (p k : Nat) (Q : Int32 → Prop), Pm m r → ar m rw' r → p < m → 1 ≤ k → k ≤ sp → (ok r p k → Q 1) → (¬ ok r p k → Q 0) → wp_X12_isLeap N sd rw' Q (jn p) (jn p + jn k * w) w) ∧
  (∀ (rw' rt' : Nat → Int32) (r : Nat → Nat) (p k : Nat) (Q : Int32 → (Nat → Int32) → Prop), Pm m r → ar m rw' r → p < m → 1 ≤ k → ok r p k → (∀ rt2, Q (jn (rk m (nx r p k) : Int)) rt2) → wp_X12_rankBy N sd rw' Q (jn p) (jn p + jn k * w) rt') ∧
  (∀ r l b, Pm m r → (E (rk m r) l b ↔ (l / 8 < m ∧ 1 ≤ l % 8 ∧ l % 8 ≤ sp ∧ ok r (iv r (l / 8) m) (l % 8)) ∧ b = rk m (nx r (iv r (l / 8) m) (l % 8)))) ∧
  (∀ r p k, Pm m r → p < m → ok r p k → Pm m (nx r p k)) ∧ (∀ a l b b', E a l b → E a l b' → b = b')
/-- the steps that were taken: by those ahead of a place, and there by fewer backs -/
def Dn (m : Nat) (r : Nat → Nat) (p k l : Nat) : Prop := l / 8 < m ∧ (iv r (l / 8) m < p ∨ (iv r (l / 8) m = p ∧ l % 8 < k))
section MSK
variable {N m sp : Nat} {sd : Nat → Int32} {w : Int32} {E : Nat → Nat → Nat → Prop} {ok : (Nat → Nat) → Nat → Nat → Prop} {nx : (Nat → Nat) → Nat → Nat → Nat → Nat}
theorem wm_seeks {r0 : Nat → Nat} {Q : (Nat → Int32) → (Nat → Int32) → (Nat → Int32) → (Nat → Int32) → Int32 → Prop} {x re : Int32} {rw' rt' fa qu : Nat → Int32} (hN : 6000 ≤ N) (hm : m ≤ 7) (hs6 : sp ≤ 6) (hsd : sd 2 = jn m) (hsd1 : sd 1 = jn sp) (hW : WY N m sp sd w E ok nx) (h0 : Pm m r0) (hx : x = jn (rk m r0 : Int))
    (h : ∀ F ro dp rw' rt' fa qu re, mB m F ro dp fa qu re → FB E (rk m r0) F ro dp → Q rw' rt' fa qu re) : wp_X12_seeks N sd Q x w rw' rt' fa qu re := by
  obtain ⟨w1, w2, w3, w4, w5⟩ := hW
  have k35 : ∀ (n i F : Nat) (ro dp : Nat → Nat) (v3 re : Int32) (rw' rt' fa qu : Nat → Int32), v3 = jn i → mB m F ro dp fa qu re → FI E (rk m r0) i (fun _ => False) F ro dp → i ≤ F → 5050 < n + i → wp_X12_seeks_35 N sd Q n w v3 rw' rt' fa qu re := by
    intro n
    induction n with
    | zero => intro i F ro dp v3 re rw' rt' fa qu _ h1 _ h2 h3; have := h1.2.1; omega
    | succ n ih =>
      intro i F ro dp v3 re rw' rt' fa qu e3 hB hI hiF hn
      have hB' := hB
      obtain ⟨c1, c2, c3, c4⟩ := hB'
      unfold wp_X12_seeks_35
      subst e3
      rw [c1, jn_le (by omega) (by omega)]
      refine ⟨fun z => ?_, fun z => ?_⟩
      · have := h F ro dp rw' rt' fa qu re hB (FI_end hI (by omega))
        rw [c1] at this; exact this
      · have hi : i < F := by omega
        obtain ⟨g1, g2, g3, g4, r, hr, hrk⟩ := c3 i hi
        rw [jn_cln (by omega), g1, jn_cln (by omega), g3]
        refine ⟨by simp (disch := omega) only [jn_le, jn_lt, jn_eq, jn_in, jn_add, jn_sub, jn_mul, jn_neg, li_0, li_1, li_2, li_3, li_4, li_5, li_6, li_7, li_8, li_9, li_10, li_11, li_12, li_13, li_14, li_15, li_16, li_17, li_18, li_20, li_24, li_29, li_30, li_31, li_32, li_37, li_39, li_40, li_42, li_43, li_45, li_46, li_47, li_48, li_53, li_57, li_59, li_60, li_61, li_62, li_63, li_80, li_81, li_91, li_93, li_97, li_100, li_122, li_200, li_255, li_256, li_257, li_258, li_259, li_260, li_300, li_314, li_400, li_580, li_999, li_5040, li_9999, li_65536, li_99999, li_7654321] <;> omega, by simp (disch := omega) only [jn_le, jn_lt, jn_eq, jn_in, jn_add, jn_sub, jn_mul, jn_neg, li_0, li_1, li_2, li_3, li_4, li_5, li_6, li_7, li_8, li_9, li_10, li_11, li_12, li_13, li_14, li_15, li_16, li_17, li_18, li_20, li_24, li_29, li_30, li_31, li_32, li_37, li_39, li_40, li_42, li_43, li_45, li_46, li_47, li_48, li_53, li_57, li_59, li_60, li_61, li_62, li_63, li_80, li_81, li_91, li_93, li_97, li_100, li_122, li_200, li_255, li_256, li_257, li_258, li_259, li_260, li_300, li_314, li_400, li_580, li_999, li_5040, li_9999, li_65536, li_99999, li_7654321] <;> omega, fun x5 e5 => ⟨by simp (disch := omega) only [jn_le, jn_lt, jn_eq, jn_in, jn_add, jn_sub, jn_mul, jn_neg, li_0, li_1, li_2, li_3, li_4, li_5, li_6, li_7, li_8, li_9, li_10, li_11, li_12, li_13, li_14, li_15, li_16, li_17, li_18, li_20, li_24, li_29, li_30, li_31, li_32, li_37, li_39, li_40, li_42, li_43, li_45, li_46, li_47, li_48, li_53, li_57, li_59, li_60, li_61, li_62, li_63, li_80, li_81, li_91, li_93, li_97, li_100, li_122, li_200, li_255, li_256, li_257, li_258, li_259, li_260, li_300, li_314, li_400, li_580, li_999, li_5040, li_9999, li_65536, li_99999, li_7654321] <;> omega, ?_⟩⟩
        subst e5
        refine wm_rowOf (r := r) (by omega) hm hsd hr (by rw [hrk]) (fun rw2 hR => ?_)
        have k83 : ∀ (p : Nat), p < m → ∀ (n2 : Nat), (∀ F2 ro2 dp2 rt2 fa2 qu2 re2, mB m F2 ro2 dp2 fa2 qu2 re2 → FI E (rk m r0) i (Dn m r (p + 1) 0) F2 ro2 dp2 → i < F2 → ro2 i = rk m r → dp2 i = dp i → wp_X12_seeks_69 N sd (wp_X12_seeks_35 N sd Q n) Q n2 w (jn i) (jn (dp i)) (jn ((p + 1 : Nat) : Int)) rw2 rt2 fa2 qu2 re2) → ∀ (k3 k F2 : Nat) (ro2 dp2 : Nat → Nat) (v6 re2 : Int32) (rt2 fa2 qu2 : Nat → Int32), v6 = jn k → 1 ≤ k → k ≤ sp + 1 → mB m F2 ro2 dp2 fa2 qu2 re2 → FI E (rk m r0) i (Dn m r p k) F2 ro2 dp2 → i < F2 → ro2 i = rk m r → dp2 i = dp i → sp + 1 < k3 + k → wp_X12_seeks_83 N sd (wp_X12_seeks_69 N sd (wp_X12_seeks_35 N sd Q n) Q n2) Q k3 w (jn i) (jn (dp i)) (jn p) v6 rw2 rt2 fa2 qu2 re2 := by
          intro p hp n2 hK k3
          have hrp := hr.1 p hp
          have hiv := iv_eq hr hp
          induction k3 with
          | zero => intro k F2 ro2 dp2 v6 re2 rt2 fa2 qu2 _ h1 h2 _ _ _ _ _ h3; omega
          | succ k3 ih3 =>
            intro k F2 ro2 dp2 v6 re2 rt2 fa2 qu2 e6 hk1 hk2 hB2 hI2 hi2 hro hdp hk3
            unfold wp_X12_seeks_83 wp_X12_seeks_132
            subst e6
            rw [show (1 : Int32).toNatClampNeg = 1 from rfl, hsd1, jn_lt (by omega) (by omega)]
            refine ⟨by unfold vp_in; decide, fun z2 => ?_, fun z2 => ?_⟩
            · rw [show jn (p : Int) + 1 = jn ((p + 1 : Nat) : Int) from by (first | rfl | (simp (disch := omega) only [jn_add, jn_sub, jn_mul, jn_neg, li_0, li_1, li_2, li_3, li_4, li_5, li_6, li_7, li_8, li_9, li_10, li_11, li_12, li_13, li_14, li_15, li_16, li_17, li_18, li_20, li_24, li_29, li_30, li_31, li_32, li_37, li_39, li_40, li_42, li_43, li_45, li_46, li_47, li_48, li_53, li_57, li_59, li_60, li_61, li_62, li_63, li_80, li_81, li_91, li_93, li_97, li_100, li_122, li_200, li_255, li_256, li_257, li_258, li_259, li_260, li_300, li_314, li_400, li_580, li_999, li_5040, li_9999, li_65536, li_99999, li_7654321] <;> first | rfl | exact congrArg jn (by omega)) | exact congrArg jn (by omega))]
              refine hK F2 ro2 dp2 rt2 fa2 qu2 re2 hB2 (FI_skip hI2 (fun l b d1 d2 e => ?_)) hi2 hro hdp
              rw [hro, w3 r l b hr] at e
              obtain ⟨⟨q1, q2, q3, q4⟩, -⟩ := e
              unfold Dn at d1 d2
              rcases d1.2 with d | d
              · by_cases y : iv r (l / 8) m = p
                · exact d2 ⟨q1, Or.inr ⟨y, by omega⟩⟩
                · exact d2 ⟨q1, Or.inl (by omega)⟩
              · omega
            · have hl8 : (8 * r p + k) / 8 = r p ∧ (8 * r p + k) % 8 = k := by omega
              have hDD : ∀ l', Dn m r p (k + 1) l' → Dn m r p k l' ∨ l' = 8 * r p + k := by
                rintro l' ⟨d1, d2⟩
                rcases d2 with d2 | d2
                · exact Or.inl ⟨d1, Or.inl d2⟩
                · by_cases y : l' % 8 < k
                  · exact Or.inl ⟨d1, Or.inr ⟨d2.1, y⟩⟩
                  · have := iv_at hr d1
                    rw [d2.1] at this
                    exact Or.inr (by omega)
              have next : ∀ F3 ro3 dp3 rt3 fa3 qu3 re3, mB m F3 ro3 dp3 fa3 qu3 re3 → FI E (rk m r0) i (Dn m r p (k + 1)) F3 ro3 dp3 → i < F3 → ro3 i = rk m r → dp3 i = dp i → wp_X12_seeks_83 N sd (wp_X12_seeks_69 N sd (wp_X12_seeks_35 N sd Q n) Q n2) Q k3 w (jn i) (jn (dp i)) (jn p) (jn k + 1) rw2 rt3 fa3 qu3 re3 := by
                intro F3 ro3 dp3 rt3 fa3 qu3 re3 a1 a2 a3 a4 a5
                exact ih3 (k + 1) F3 ro3 dp3 _ _ _ _ _ (by (first | rfl | (simp (disch := omega) only [jn_add, jn_sub, jn_mul, jn_neg, li_0, li_1, li_2, li_3, li_4, li_5, li_6, li_7, li_8, li_9, li_10, li_11, li_12, li_13, li_14, li_15, li_16, li_17, li_18, li_20, li_24, li_29, li_30, li_31, li_32, li_37, li_39, li_40, li_42, li_43, li_45, li_46, li_47, li_48, li_53, li_57, li_59, li_60, li_61, li_62, li_63, li_80, li_81, li_91, li_93, li_97, li_100, li_122, li_200, li_255, li_256, li_257, li_258, li_259, li_260, li_300, li_314, li_400, li_580, li_999, li_5040, li_9999, li_65536, li_99999, li_7654321] <;> first | rfl | exact congrArg jn (by omega)) | exact congrArg jn (by omega))) (by omega) (by omega) a1 a2 a3 a4 a5 (by omega)
              refine w1 rw2 r p k _ hr hR hp hk1 (by omega) (fun hok => ⟨fun y => absurd y (by decide), fun _ => ?_⟩) (fun hno => ⟨fun _ => ?_, fun y => absurd rfl y⟩)
              · have hsP := w4 r p k hr hp hok
                have hE : E (ro2 i) (8 * r p + k) (rk m (nx r p k)) := by
                  rw [hro, w3 r _ _ hr, hl8.1, hl8.2, hiv]
                  exact ⟨⟨hrp, hk1, by omega, hok⟩, rfl⟩
                have hdF : dp i + 1 ≤ F2 := by
                  have := (hB2.2.2.1 i hi2).2.2.2.1
                  omega
                refine w2 rw2 rt2 r p k _ hr hR hp hk1 hok (fun rt3 => ?_)
                refine wm_comesTo (s := nx r p k) (d := dp i + 1) hm hB2 hI2.2.2.2.2.2.1 hsP hdF rfl (by rw [li_1, jn_add]; rfl) (fun hex => ?_) (fun hnew fa3 qu3 re3 hB3 => ?_)
                · exact next F2 ro2 dp2 rt3 fa2 qu2 re2 hB2 (FI_old w5 hI2 hi2 hE hex hDD) hi2 hro hdp
                · rw [← hdp] at hB3
                  refine next (F2 + 1) _ _ rt3 fa3 qu3 re3 hB3 (FI_add w5 hI2 hi2 hE hnew hDD) (by omega) ?_ ?_
                  · rw [un_ne (by omega)]; exact hro
                  · rw [un_ne (by omega)]; exact hdp
              · refine next F2 ro2 dp2 rt2 fa2 qu2 re2 hB2 (FI_skip hI2 (fun l b d1 d2 e => ?_)) hi2 hro hdp
                rcases hDD l d1 with y | y
                · exact d2 y
                · subst y
                  rw [hro, w3 r _ _ hr, hl8.1, hl8.2, hiv] at e
                  exact hno e.1.2.2.2
        have k69 : ∀ (n2 p F2 : Nat) (ro2 dp2 : Nat → Nat) (v5 re2 : Int32) (rt2 fa2 qu2 : Nat → Int32), v5 = jn p → p ≤ m → mB m F2 ro2 dp2 fa2 qu2 re2 → FI E (rk m r0) i (Dn m r p 0) F2 ro2 dp2 → i < F2 → ro2 i = rk m r → dp2 i = dp i → m < n2 + p → wp_X12_seeks_69 N sd (wp_X12_seeks_35 N sd Q n) Q n2 w (jn i) (jn (dp i)) v5 rw2 rt2 fa2 qu2 re2 := by
          intro n2
          induction n2 with
          | zero => intro p F2 ro2 dp2 v5 re2 rt2 fa2 qu2 _ h1 _ _ _ _ _ h2; omega
          | succ n2 ih2 =>
            intro p F2 ro2 dp2 v5 re2 rt2 fa2 qu2 e5 hp hB2 hI2 hi2 hro hdp hn2
            unfold wp_X12_seeks_69
            subst e5
            rw [show (2 : Int32).toNatClampNeg = 2 from rfl, hsd, jn_le (by omega) (by omega)]
            refine ⟨by unfold vp_in; decide, fun y => ?_, fun y => ?_⟩
            · refine ih (i + 1) F2 ro2 dp2 _ _ _ _ _ _ (by (first | rfl | (simp (disch := omega) only [jn_add, jn_sub, jn_mul, jn_neg, li_0, li_1, li_2, li_3, li_4, li_5, li_6, li_7, li_8, li_9, li_10, li_11, li_12, li_13, li_14, li_15, li_16, li_17, li_18, li_20, li_24, li_29, li_30, li_31, li_32, li_37, li_39, li_40, li_42, li_43, li_45, li_46, li_47, li_48, li_53, li_57, li_59, li_60, li_61, li_62, li_63, li_80, li_81, li_91, li_93, li_97, li_100, li_122, li_200, li_255, li_256, li_257, li_258, li_259, li_260, li_300, li_314, li_400, li_580, li_999, li_5040, li_9999, li_65536, li_99999, li_7654321] <;> first | rfl | exact congrArg jn (by omega)) | exact congrArg jn (by omega))) hB2 (FI_next hI2 (fun l b d e => ?_)) (by omega) (by omega)
              rw [hro, w3 r l b hr] at e
              exact d ⟨e.1.1, Or.inl (by have := iv_lt hr e.1.1; omega)⟩
            · refine k83 p (by omega) n2 (fun F3 ro3 dp3 rt3 fa3 qu3 re3 a1 a2 a3 a4 a5 => ih2 (p + 1) F3 ro3 dp3 _ _ _ _ _ rfl (by omega) a1 a2 a3 a4 a5 (by omega)) N 1 F2 ro2 dp2 _ _ _ _ _ rfl (by omega) (by omega) hB2 (FI_skip hI2 (fun l b d1 d2 e => ?_)) hi2 hro hdp (by omega)
              rw [hro, w3 r l b hr] at e
              rcases d1.2 with d | d
              · exact d2 ⟨d1.1, Or.inl d⟩
              · have := e.1.2.1; omega
        refine k69 N 0 F ro dp _ _ _ _ _ rfl (by omega) ?_ (FI_skip hI (fun l b d1 d2 e => ?_)) hi hrk.symm rfl (by omega)
        · rw [c1] at hB; exact hB
        · rcases d1.2 with d | d
          · omega
          · omega
  have k2 : ∀ (n k : Nat) (v3 : Int32) (fa : Nat → Int32), v3 = jn k → k ≤ 5040 → (∀ j, j < k → fa j = -1) → 5040 < n + k → wp_X12_seeks_2 N sd Q n x w v3 rw' rt' fa qu re := by
    intro n
    induction n with
    | zero => intro k v3 fa _ h1 _ h2; omega
    | succ n ih =>
      intro k v3 fa e3 hk hf hn
      unfold wp_X12_seeks_2
      subst e3
      refine ⟨fun z => ?_, fun z => ?_⟩
      · simp (disch := omega) only [jn_le, jn_lt, jn_eq, jn_in, jn_add, jn_sub, jn_mul, jn_neg, li_0, li_1, li_2, li_3, li_4, li_5, li_6, li_7, li_8, li_9, li_10, li_11, li_12, li_13, li_14, li_15, li_16, li_17, li_18, li_20, li_24, li_29, li_30, li_31, li_32, li_37, li_39, li_40, li_42, li_43, li_45, li_46, li_47, li_48, li_53, li_57, li_59, li_60, li_61, li_62, li_63, li_80, li_81, li_91, li_93, li_97, li_100, li_122, li_200, li_255, li_256, li_257, li_258, li_259, li_260, li_300, li_314, li_400, li_580, li_999, li_5040, li_9999, li_65536, li_99999, li_7654321] at z
        have hB0 : mB m 0 (fun _ => 0) (fun _ => 0) fa qu 0 := ⟨rfl, by omega, fun j hj => by omega, fun k hk _ => hf k (by omega)⟩
        refine wm_comesTo (s := r0) (d := 0) hm hB0 (fun i j a b _ => by omega) h0 (by omega) hx rfl (fun hex => ?_) (fun _ fa' qu' re' hB => ?_)
        · obtain ⟨j, j1, -⟩ := hex; omega
        · refine k35 N 0 1 _ _ _ _ _ _ _ _ rfl hB ⟨by omega, un_at, un_at, fun j a b => by omega, fun i' l b a c => ?_, fun i j a b _ => by omega, fun i j a b => ?_, fun a j c => ?_⟩ (by omega) (by omega)
          · rcases c with c | c
            · omega
            · exact c.2.elim
          · have e1 : i = 0 := by omega
            have e2 : j = 0 := by omega
            rw [e1, e2]; exact Nat.le_refl _
          · have e2 : j = 0 := by omega
            rw [e2]; omega
      · simp (disch := omega) only [jn_le, jn_lt, jn_eq, jn_in, jn_add, jn_sub, jn_mul, jn_neg, li_0, li_1, li_2, li_3, li_4, li_5, li_6, li_7, li_8, li_9, li_10, li_11, li_12, li_13, li_14, li_15, li_16, li_17, li_18, li_20, li_24, li_29, li_30, li_31, li_32, li_37, li_39, li_40, li_42, li_43, li_45, li_46, li_47, li_48, li_53, li_57, li_59, li_60, li_61, li_62, li_63, li_80, li_81, li_91, li_93, li_97, li_100, li_122, li_200, li_255, li_256, li_257, li_258, li_259, li_260, li_300, li_314, li_400, li_580, li_999, li_5040, li_9999, li_65536, li_99999, li_7654321] at z
        refine ⟨by simp (disch := omega) only [jn_le, jn_lt, jn_eq, jn_in, jn_add, jn_sub, jn_mul, jn_neg, li_0, li_1, li_2, li_3, li_4, li_5, li_6, li_7, li_8, li_9, li_10, li_11, li_12, li_13, li_14, li_15, li_16, li_17, li_18, li_20, li_24, li_29, li_30, li_31, li_32, li_37, li_39, li_40, li_42, li_43, li_45, li_46, li_47, li_48, li_53, li_57, li_59, li_60, li_61, li_62, li_63, li_80, li_81, li_91, li_93, li_97, li_100, li_122, li_200, li_255, li_256, li_257, li_258, li_259, li_260, li_300, li_314, li_400, li_580, li_999, li_5040, li_9999, li_65536, li_99999, li_7654321] <;> omega, fun a4 e4 => ?_⟩
        rw [jn_cln (by omega)] at e4
        refine ih (k + 1) _ a4 (by (first | rfl | (simp (disch := omega) only [jn_add, jn_sub, jn_mul, jn_neg, li_0, li_1, li_2, li_3, li_4, li_5, li_6, li_7, li_8, li_9, li_10, li_11, li_12, li_13, li_14, li_15, li_16, li_17, li_18, li_20, li_24, li_29, li_30, li_31, li_32, li_37, li_39, li_40, li_42, li_43, li_45, li_46, li_47, li_48, li_53, li_57, li_59, li_60, li_61, li_62, li_63, li_80, li_81, li_91, li_93, li_97, li_100, li_122, li_200, li_255, li_256, li_257, li_258, li_259, li_260, li_300, li_314, li_400, li_580, li_999, li_5040, li_9999, li_65536, li_99999, li_7654321] <;> first | rfl | exact congrArg jn (by omega)) | exact congrArg jn (by omega))) (by omega) (fun j hj => ?_) (by omega)
        by_cases e : j = k
        · rw [e4, e, upd_at]
        · rw [e4, upd_ne e]; exact hf j (by omega)
  unfold wp_X12_seeks
  exact k2 N 0 _ fa rfl (by omega) (fun j hj => by omega) (by omega)
end MSK
