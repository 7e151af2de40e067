/-! ahead, leads, stuck: the reference -/
section MAH
variable {N : Nat} {l : lS} {g : gS} {r : rS} {sg cl cs sd kp : Nat → Int32} {fc tp : Int32} {st wd : Nat → Int64}
theorem wm_isCh {k : Nat} {Q : Int32 → Prop} {x : Int32} (hk : k ≤ 7) (h2 : sd 2 = jn k) (h0 : asC k x = none → Q 0) (h1 : ∀ c, c < k → asC k x = some c → x = jn (c : Int) → Q 1) : wp_X12_isChild N sd Q x := by
  refine wm_isChild hk h2 ?_
  cases h : asC k x with
  | none => exact h0 h
  | some c => exact h1 c (asC_some h).1 h (asC_some h).2
theorem wm_inC {Q : Int32 → Prop} {x : Int32} {y z : Int64} {a b c : Int} (hx : x = jn a) (hy : y = jl b) (hz : z = jl c) (ra : -2147483648 ≤ a ∧ a < 2147483648) (rb : -2147483648 ≤ b ∧ b < 2147483648) (rc : -2147483648 ≤ c ∧ c < 2147483648) (h1 : b ≤ a ∧ a ≤ c → Q 1) (h0 : ¬ (b ≤ a ∧ a ≤ c) → Q 0) : wp_X12_in N Q x.toInt64 y z := by
  subst hx
  refine wm_in (jn_l ra) hy hz ra rb rc ?_
  by_cases q : b ≤ a ∧ a ≤ c
  · rw [if_pos q]; exact h1 q
  · rw [if_neg q]; exact h0 q
theorem mF_7 {k : Nat} {sd sd' : Nat → Int32} (hk : k ≤ 7) (h : mF k sd sd') : mF 7 sd sd' := fun j hj => h j (by omega)
theorem back7 {sd kp sd1 sd2 : Nat → Int32} (h1 : ∀ j, j < 29 → kp j = sd (10 + j)) (h2 : mF 7 sd sd1) (h3 : ∀ j, j < 29 → sd2 (10 + j) = kp j) (h4 : ∀ j, ¬ (10 ≤ j ∧ j < 39) → sd2 j = sd1 j) : sd2 = sd := kept_back (Nat.le_refl 7) h1 h2 h3 h4
theorem wm_back {sd1 : Nat → Int32} {Q : (Nat → Int32) → Prop} (hN : 40 ≤ N) (h1 : ∀ j, j < 29 → kp j = sd (10 + j)) (h2 : mF 7 sd sd1) (h : Q sd) : wp_X12_laysBack N kp Q sd1 := by
  refine wm_laysBack hN (fun sd' a1 a2 => ?_)
  rwa [back7 h1 h2 a1 a2]
theorem wm_ahead {Q : Int32 → (Nat → Int64) → Int32 → (Nat → Int64) → (Nat → Int32) → (Nat → Int32) → Prop} {x y w : Int32} (hN : 500 ≤ N) (hl : LOk l) (hg : GOk (l_k l) g) (hL : mL sd l) (hG : mG (l_k l) sd g) (ht : g_t g < 10000) (hf : ROk r) (hR : mR N sg cl cs fc r)
    (h0 : (∀ n, ¬ qAh l x y w n) → ∀ s t v kp, Q (-1) s t v sd kp) (h1 : ∀ n, qAh l x y w n → ∀ s t v kp, Q (aAh l r g x n w) s t v sd kp) : wp_X12_ahead N sg cl cs fc Q x y w st tp wd sd kp := by
  have hk := hl.2.2.1
  have hl1 := hl.1
  obtain ⟨b, rfl, hb⟩ := jn_of y
  obtain ⟨d, rfl, hd⟩ := jn_of w
  unfold wp_X12_ahead wp_X12_ahead_44
  have qb : ∀ n, qAh l x (jn b) (jn d) n → l_t l = 1 ∧ b = n ∧ n ≤ 100 ∧ 0 ≤ d ∧ d ≤ 2 ∧ (d = 1 → ∃ c, asC (l_k l) x = some c) := by
    rintro n ⟨q1, q2, q3, q4, q5⟩
    rw [jn_eq hb (by omega)] at q2
    rw [li_0, li_1, li_2, jn_eq hd (by omega), jn_eq hd (by omega), jn_eq hd (by omega)] at q4
    rw [li_1, jn_eq hd (by omega)] at q5
    exact ⟨q1, q2, q3, by omega, by omega, q5⟩
  have go : l_t l = 1 → 0 ≤ b → b ≤ 100 → 0 ≤ d → d ≤ 2 → (d = 1 → ∃ c, asC (l_k l) x = some c) → wp_X12_ahead_46 N sg cl cs fc Q x (jn b) (jn d) st tp wd sd kp := by
    intro ht1 hn0 hn h3 h4 h5
    obtain ⟨n, rfl⟩ : ∃ n : Nat, b = n := ⟨b.toNat, by omega⟩
    have hq : qAh l x (jn (n : Int)) (jn d) n := ⟨ht1, rfl, by omega, by
      rw [li_0, li_1, li_2, jn_eq (by omega) (by omega), jn_eq (by omega) (by omega), jn_eq (by omega) (by omega)]; omega, fun z => h5 (by rw [li_1, jn_eq (by omega) (by omega)] at z; exact z)⟩
    have hQ := h1 n hq
    unfold wp_X12_ahead_46
    refine wm_keeps (by omega) (fun kp' hkp => ?_)
    refine wm_passesAll hN (by omega) rfl hl hg hL hG (by omega) hf hR (fun s t v sd' a1 a2 => ?_)
    have hL' := mF_L hl a2 hL
    have hgi := tI_ok (r := r) hl (n := n) hg
    unfold aAh at hQ
    have fin : ∀ z, (∀ s t v kp, Q z s t v sd kp) → wp_X12_ahead_83 N sg cl cs fc Q z s t v sd' kp' := by
      intro z hz
      unfold wp_X12_ahead_83
      exact wm_back (by omega) hkp (mF_7 hk a2) (hz _ _ _ _)
    refine ⟨fun z => ?_, fun z => ⟨fun z1 => ?_, fun z1 => ?_⟩⟩
    · rw [if_pos z] at hQ
      exact wm_orderNow (by omega) hl hgi hL' a1 (fin _ hQ)
    · rw [if_neg z, if_pos z1] at hQ
      rw [li_1, jn_eq (by omega) (by omega)] at z1
      obtain ⟨c, hc⟩ := h5 z1
      rw [hc] at hQ
      obtain ⟨c1, c2⟩ := asC_some hc
      subst c2
      refine wm_breathOf rfl (by omega) ?_
      rw [a1.2.2.1 c c1]
      exact fin _ hQ
    · rw [if_neg z, if_neg z1] at hQ
      exact wm_leaptAll (by omega) hl hL' a1 (fin _ hQ)
  refine wm_isLane hl1 hL.1 ⟨fun z => h0 (fun n hq => ?_) _ _ _ _, fun z => ?_⟩
  · rw [li_0, jn_eq (by omega) (by omega)] at z
    have := qb n hq; omega
  · rw [li_0, jn_eq (by omega) (by omega)] at z
    refine wm_inC (b := 0) (c := 100) rfl rfl rfl hb (by decide) (by decide) (fun q1 => ⟨fun u => absurd u (by decide), fun _ => ?_⟩) (fun q1 => ⟨fun _ => h0 (fun n hq => by have := qb n hq; omega) _ _ _ _, fun u => absurd rfl u⟩)
    refine wm_inC (b := 0) (c := 2) rfl rfl rfl hd (by decide) (by decide) (fun q2 => ⟨fun u => absurd u (by decide), fun _ => ?_⟩) (fun q2 => ⟨fun _ => h0 (fun n hq => by have := qb n hq; omega) _ _ _ _, fun u => absurd rfl u⟩)
    rw [li_1, jn_eq hd (by omega), ← li_1]
    refine ⟨fun z5 => ?_, fun z5 => go (by omega) (by omega) (by omega) (by omega) (by omega) (fun q => absurd q z5)⟩
    refine wm_isCh hk hL.2.2.1 (fun hno => ⟨fun _ => h0 (fun n hq => ?_) _ _ _ _, fun q => absurd rfl q⟩) (fun c hc hs _ => ⟨fun q => absurd q (by decide), fun _ => go (by omega) (by omega) (by omega) (by omega) (by omega) (fun _ => ⟨c, hs⟩)⟩)
    obtain ⟨-, -, -, -, -, q6⟩ := qb n hq
    obtain ⟨c, hc⟩ := q6 z5
    rw [hno] at hc; cases hc
theorem a200_no {P : Nat → Bool} (h : ∀ j, j < 200 → P j = false) : a200 g P = -2 := by
  unfold a200
  rw [if_pos (fst_no h)]
theorem a200_is {P : Nat → Bool} {i : Nat} (hi : i < 200) (h1 : P i = true) (h : ∀ j, j < i → P j = false) : a200 g P = jn ((g_t g + i : Nat) : Int) := by
  unfold a200
  rw [fst_is hi h1 h, if_neg (by omega)]
theorem wm_leads {Q : Int32 → (Nat → Int64) → Int32 → (Nat → Int64) → (Nat → Int32) → (Nat → Int32) → Prop} {x : Int32} (hN : 500 ≤ N) (hl : LOk l) (hg : GOk (l_k l) g) (hL : mL sd l) (hG : mG (l_k l) sd g) (ht : g_t g < 10000) (hf : ROk r) (hR : mR N sg cl cs fc r)
    (h0 : asC (l_k l) x = none → ∀ s t v kp, Q (-1) s t v sd kp) (h1 : ∀ c, asC (l_k l) x = some c → ∀ s t v kp, Q (a200 g (pLd l r g c)) s t v sd kp) : wp_X12_leads N sg cl cs fc Q x st tp wd sd kp := by
  have hk := hl.2.2.1
  unfold wp_X12_leads
  refine wm_isCh hk hL.2.2.1 (fun hno => ⟨fun _ => h0 hno _ _ _ _, fun q => absurd rfl q⟩) (fun c hc hs hx => ⟨fun q => absurd q (by decide), fun _ => ?_⟩)
  have hQ := h1 c hs
  subst hx
  refine wm_keeps (by omega) (fun kp' hkp => ?_)
  have fin : ∀ (s v : Nat → Int64) (t : Int32) (sd' : Nat → Int32), mF (l_k l) sd sd' → wp_X12_leads_59 N sg cl cs fc Q (a200 g (pLd l r g c)) s t v sd' kp' := by
    intro s v t sd' hF
    unfold wp_X12_leads_59
    exact wm_back (by omega) hkp (mF_7 hk hF) (hQ _ _ _ _)
  have key : ∀ (k i : Nat) (v3 tp : Int32) (st wd : Nat → Int64) (sd' : Nat → Int32), v3 = jn (i : Int) → i ≤ 200 → mG (l_k l) sd' (tI l r i g) → mF (l_k l) sd sd' → (∀ j, j < i → pLd l r g c j = false) → 201 < k + i → wp_X12_leads_19 N sg cl cs fc Q k (jn (c : Int)) (-2) v3 st tp wd sd' kp' := by
    intro k
    induction k with
    | zero => intro i v3 tp st wd sd' _ h1 _ _ _ h2; omega
    | succ k ih =>
      intro i v3 tp st wd sd' e hi hG' hF' hno hk'
      subst e
      unfold wp_X12_leads_19 wp_X12_leads_53
      have hgi := tI_ok (r := r) hl (n := i) hg
      have hti := tI_t (l := l) (r := r) (n := i) (g := g)
      refine ⟨fun z => ?_, fun z => ⟨fun y => absurd y (by decide), fun _ => ?_⟩⟩
      · simp (disch := omega) only [jn_le, jn_lt, jn_eq, jn_in, jn_add, jn_sub, jn_mul, jn_neg, li_0, li_1, li_2, li_3, li_4, li_5, li_6, li_7, li_8, li_9, li_10, li_11, li_12, li_13, li_14, li_15, li_16, li_17, li_18, li_20, li_24, li_29, li_30, li_31, li_32, li_37, li_39, li_40, li_42, li_43, li_45, li_46, li_47, li_48, li_53, li_57, li_59, li_60, li_61, li_62, li_63, li_80, li_81, li_91, li_93, li_97, li_100, li_122, li_200, li_255, li_256, li_257, li_258, li_259, li_260, li_300, li_314, li_400, li_580, li_999, li_5040, li_9999, li_65536, li_99999, li_7654321] at z
        have e : i = 200 := by omega
        subst e
        have := fin st wd tp sd' hF'
        rwa [a200_no hno] at this
      · simp (disch := omega) only [jn_le, jn_lt, jn_eq, jn_in, jn_add, jn_sub, jn_mul, jn_neg, li_0, li_1, li_2, li_3, li_4, li_5, li_6, li_7, li_8, li_9, li_10, li_11, li_12, li_13, li_14, li_15, li_16, li_17, li_18, li_20, li_24, li_29, li_30, li_31, li_32, li_37, li_39, li_40, li_42, li_43, li_45, li_46, li_47, li_48, li_53, li_57, li_59, li_60, li_61, li_62, li_63, li_80, li_81, li_91, li_93, li_97, li_100, li_122, li_200, li_255, li_256, li_257, li_258, li_259, li_260, li_300, li_314, li_400, li_580, li_999, li_5040, li_9999, li_65536, li_99999, li_7654321] at z
        refine wm_passes (by omega) hl hgi (mF_L hl hF' hL) hG' (by omega) hf hR (fun s t v sd2 a1 a2 => ?_)
        rw [← tI_add] at a1
        have hF2 := mF_trans hF' a2
        have hgs := tI_ok (r := r) hl (n := i + 1) hg
        have hts := tI_t (l := l) (r := r) (n := i + 1) (g := g)
        refine wm_placeOf rfl (by omega) ?_
        rw [mG_plc hgs a1 hc, li_0, jn_eq (by have := iv_lt hgs.1 hc; unfold plc; omega) (by omega)]
        have hp : plc l (tI l r (i + 1) g) c = 0 ↔ g_o (tI l r (i + 1) g) 0 = c := by
          constructor
          · intro q
            have := iv_at hgs.1 hc
            unfold plc at q
            rwa [q] at this
          · intro q
            unfold plc
            rw [← q]
            exact iv_eq hgs.1 (by omega)
        refine ⟨fun y => ⟨by unfold vp_in; decide, fun x9 e9 => ?_⟩, fun y => ?_⟩
        · have hy := hp.mp (by omega)
          rw [show (10 : Int32).toNatClampNeg = 10 from rfl, a1.1, li_1, jn_sub] at e9
          have e9 : x9 = a200 g (pLd l r g c) := by
            rw [a200_is (show i < 200 by omega) (decide_eq_true hy) hno, e9]
            exact congrArg jn (by omega)
          obtain ⟨k, rfl⟩ : ∃ k', k = k' + 1 := ⟨k - 1, by omega⟩
          unfold wp_X12_leads_19
          have h0x : 0 ≤ x9 := by
            rw [e9, a200_is (show i < 200 by omega) (decide_eq_true hy) hno, li_0, jn_le (by omega) (by omega)]; omega
          rw [e9] at h0x ⊢
          exact ⟨fun _ => fin _ _ _ _ hF2, fun _ => ⟨fun _ => fin _ _ _ _ hF2, fun q => absurd h0x q⟩⟩
        · have hy : ¬ g_o (tI l r (i + 1) g) 0 = c := fun q => y (by have := hp.mpr q; omega)
          refine ih (i + 1) _ _ _ _ _ (by (first | rfl | (simp (disch := omega) only [jn_add, jn_sub, jn_mul, jn_neg, li_0, li_1, li_2, li_3, li_4, li_5, li_6, li_7, li_8, li_9, li_10, li_11, li_12, li_13, li_14, li_15, li_16, li_17, li_18, li_20, li_24, li_29, li_30, li_31, li_32, li_37, li_39, li_40, li_42, li_43, li_45, li_46, li_47, li_48, li_53, li_57, li_59, li_60, li_61, li_62, li_63, li_80, li_81, li_91, li_93, li_97, li_100, li_122, li_200, li_255, li_256, li_257, li_258, li_259, li_260, li_300, li_314, li_400, li_580, li_999, li_5040, li_9999, li_65536, li_99999, li_7654321] <;> first | rfl | exact congrArg jn (by omega)) | exact congrArg jn (by omega))) (by omega) a1 hF2 (fun j hj => ?_) (by omega)
          by_cases e : j = i
          · subst e; exact decide_eq_false hy
          · exact hno j (by omega)
  exact key N 0 _ _ _ _ _ rfl (by omega) hG mF_refl (fun j hj => by omega) (by omega)
theorem wm_stuck {Q : Int32 → (Nat → Int64) → Int32 → (Nat → Int64) → (Nat → Int32) → (Nat → Int32) → Prop} (hN : 500 ≤ N) (hl : LOk l) (hg : GOk (l_k l) g) (hL : mL sd l) (hG : mG (l_k l) sd g) (ht : g_t g < 10000) (hf : ROk r) (hR : mR N sg cl cs fc r)
    (h0 : l_t l = 0 → ∀ s t v kp, Q (-1) s t v sd kp) (h1 : l_t l = 1 → ∀ s t v kp, Q (a200 g (pSt l r g)) s t v sd kp) : wp_X12_stuck N sg cl cs fc Q st tp wd sd kp := by
  have hk := hl.2.2.1
  have hl1 := hl.1
  unfold wp_X12_stuck
  refine wm_isLane hl1 hL.1 ⟨fun z => h0 ?_ _ _ _ _, fun z => ?_⟩
  · rw [li_0, jn_eq (by omega) (by omega)] at z; omega
  rw [li_0, jn_eq (by omega) (by omega)] at z
  have hQ := h1 (by omega)
  refine wm_keeps (by omega) (fun kp' hkp => ?_)
  have fin : ∀ (s v : Nat → Int64) (t : Int32) (sd' : Nat → Int32), mF (l_k l) sd sd' → wp_X12_stuck_52 N sg cl cs fc Q (a200 g (pSt l r g)) s t v sd' kp' := by
    intro s v t sd' hF
    unfold wp_X12_stuck_52
    exact wm_back (by omega) hkp (mF_7 hk hF) (hQ _ _ _ _)
  have key : ∀ (k i : Nat) (v3 tp : Int32) (st wd : Nat → Int64) (sd' : Nat → Int32), v3 = jn (i : Int) → i ≤ 200 → mG (l_k l) sd' (tI l r i g) → mF (l_k l) sd sd' → (∀ j, j < i → pSt l r g j = false) → 201 < k + i → wp_X12_stuck_18 N sg cl cs fc Q k (-2) v3 st tp wd sd' kp' := by
    intro k
    induction k with
    | zero => intro i v3 tp st wd sd' _ h1 _ _ _ h2; omega
    | succ k ih =>
      intro i v3 tp st wd sd' e hi hG' hF' hno hk'
      subst e
      unfold wp_X12_stuck_18 wp_X12_stuck_46
      have hgi := tI_ok (r := r) hl (n := i) hg
      have hti := tI_t (l := l) (r := r) (n := i) (g := g)
      refine ⟨fun z => ?_, fun z => ⟨fun y => absurd y (by decide), fun _ => ?_⟩⟩
      · simp (disch := omega) only [jn_le, jn_lt, jn_eq, jn_in, jn_add, jn_sub, jn_mul, jn_neg, li_0, li_1, li_2, li_3, li_4, li_5, li_6, li_7, li_8, li_9, li_10, li_11, li_12, li_13, li_14, li_15, li_16, li_17, li_18, li_20, li_24, li_29, li_30, li_31, li_32, li_37, li_39, li_40, li_42, li_43, li_45, li_46, li_47, li_48, li_53, li_57, li_59, li_60, li_61, li_62, li_63, li_80, li_81, li_91, li_93, li_97, li_100, li_122, li_200, li_255, li_256, li_257, li_258, li_259, li_260, li_300, li_314, li_400, li_580, li_999, li_5040, li_9999, li_65536, li_99999, li_7654321] at z
        have e : i = 200 := by omega
        subst e
        have := fin st wd tp sd' hF'
        rwa [a200_no hno] at this
      · simp (disch := omega) only [jn_le, jn_lt, jn_eq, jn_in, jn_add, jn_sub, jn_mul, jn_neg, li_0, li_1, li_2, li_3, li_4, li_5, li_6, li_7, li_8, li_9, li_10, li_11, li_12, li_13, li_14, li_15, li_16, li_17, li_18, li_20, li_24, li_29, li_30, li_31, li_32, li_37, li_39, li_40, li_42, li_43, li_45, li_46, li_47, li_48, li_53, li_57, li_59, li_60, li_61, li_62, li_63, li_80, li_81, li_91, li_93, li_97, li_100, li_122, li_200, li_255, li_256, li_257, li_258, li_259, li_260, li_300, li_314, li_400, li_580, li_999, li_5040, li_9999, li_65536, li_99999, li_7654321] at z
        refine wm_passes (by omega) hl hgi (mF_L hl hF' hL) hG' (by omega) hf hR (fun s t v sd2 a1 a2 => ?_)
        rw [← tI_add] at a1
        have hF2 := mF_trans hF' a2
        have hts := tI_t (l := l) (r := r) (n := i + 1) (g := g)
        rw [oC_nob hk]
        refine ⟨fun y => ?_, fun y => ⟨by unfold vp_in; decide, fun x9 e9 => ?_⟩⟩
        · refine ih (i + 1) _ _ _ _ _ (by (first | rfl | (simp (disch := omega) only [jn_add, jn_sub, jn_mul, jn_neg, li_0, li_1, li_2, li_3, li_4, li_5, li_6, li_7, li_8, li_9, li_10, li_11, li_12, li_13, li_14, li_15, li_16, li_17, li_18, li_20, li_24, li_29, li_30, li_31, li_32, li_37, li_39, li_40, li_42, li_43, li_45, li_46, li_47, li_48, li_53, li_57, li_59, li_60, li_61, li_62, li_63, li_80, li_81, li_91, li_93, li_97, li_100, li_122, li_200, li_255, li_256, li_257, li_258, li_259, li_260, li_300, li_314, li_400, li_580, li_999, li_5040, li_9999, li_65536, li_99999, li_7654321] <;> first | rfl | exact congrArg jn (by omega)) | exact congrArg jn (by omega))) (by omega) a1 hF2 (fun j hj => ?_) (by omega)
          by_cases e : j = i
          · subst e
            unfold pSt
            cases hw : tW l r (tI l r j g) with
            | none => exact absurd hw y
            | some c => rfl
          · exact hno j (by omega)
        · have hy : pSt l r g i = true := by
            unfold pSt
            cases hw : tW l r (tI l r i g) with
            | none => rfl
            | some c => exact absurd (by rw [hw]; intro q; cases q) y
          rw [show (10 : Int32).toNatClampNeg = 10 from rfl, a1.1, li_1, jn_sub] at e9
          have e9 : x9 = a200 g (pSt l r g) := by
            rw [a200_is (show i < 200 by omega) hy hno, e9]
            exact congrArg jn (by omega)
          obtain ⟨k, rfl⟩ : ∃ k', k = k' + 1 := ⟨k - 1, by omega⟩
          unfold wp_X12_stuck_18
          have h0x : 0 ≤ x9 := by
            rw [e9, a200_is (show i < 200 by omega) hy hno, li_0, jn_le (by omega) (by omega)]; omega
          rw [e9] at h0x ⊢
          exact ⟨fun _ => fin _ _ _ _ hF2, fun _ => ⟨fun _ => fin _ _ _ _ hF2, fun q => absurd h0x q⟩⟩
  exact key N 0 _ _ _ _ _ rfl (by omega) hG mF_refl (fun j hj => by omega) (by omega)
end MAH
