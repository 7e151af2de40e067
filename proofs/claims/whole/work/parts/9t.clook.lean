/-! ruled, look: the class -/
theorem fr_cnt {P : Nat → Bool} : ∀ {n : Nat}, fr P n = -1 ↔ cnt P n = 0
  | 0 => ⟨fun _ => rfl, fun _ => rfl⟩
  | n + 1 => by
    have ih := fr_cnt (P := P) (n := n)
    have hb := fr_b (P := P) (n := n)
    rw [fr_s, cnt_succ]
    by_cases e : P n = true
    · rw [if_pos e, if_pos e]
      split <;> constructor <;> intro q <;> omega
    · rw [if_neg e, if_neg e]; exact ih
def mx (f : Nat → Nat) : Nat → Nat
  | 0 => 0
  | c + 1 => max (mx f c) (f c)
theorem mx_ge {f : Nat → Nat} : ∀ {n c : Nat}, c < n → f c ≤ mx f n
  | n + 1, c, h => by
    unfold mx
    by_cases e : c = n
    · subst e; omega
    · have := mx_ge (f := f) (n := n) (c := c) (by omega); omega
theorem mx_of {f : Nat → Nat} {B : Nat} : ∀ {n : Nat}, (∀ c, c < n → f c ≤ B) → mx f n ≤ B
  | 0, _ => Nat.zero_le _
  | n + 1, h => by
    have h1 := mx_of (f := f) (B := B) (n := n) (fun c hc => h c (by omega))
    have h2 := h n (by omega)
    unfold mx; omega
theorem mA_of {P : Nat → Bool} {F : Nat → Int} {M B : Nat} : ∀ {n : Nat}, (∀ a, a < n → P a = true → cA P F M a ≤ B) → mA P F M n ≤ B
  | 0, _ => Nat.zero_le _
  | n + 1, h => by
    have h1 := mA_of (P := P) (F := F) (M := M) (B := B) (n := n) (fun c hc => h c (by omega))
    unfold mA
    split
    · have h2 := h n (by omega) (by assumption); omega
    · exact h1
def cC (P : Nat → Bool) (F : Nat → Nat → Int) (i n c : Nat) : Nat := cnt (fun j => P j && decide (F j n = (c : Int))) i
theorem cA_cC {P : Nat → Bool} {F : Nat → Nat → Int} {M n a c : Nat} (h : F a n = (c : Int)) : cA P (fun b => F b n) M a = cC P F M n c := by
  refine cnt_congr (fun j _ => ?_)
  congr 1
  show decide (F a n = F j n) = _
  rw [h]
  exact decide_eq_decide.mpr ⟨fun q => q.symm, fun q => q.symm⟩
theorem cnt_ex {f : Nat → Bool} : ∀ {n : Nat}, cnt f n ≠ 0 → ∃ j, j < n ∧ f j = true
  | 0, h => absurd rfl h
  | n + 1, h => by
    by_cases e : f n = true
    · exact ⟨n, by omega, e⟩
    · rw [cnt_succ, if_neg e] at h
      obtain ⟨j, h1, h2⟩ := cnt_ex h
      exact ⟨j, by omega, h2⟩
theorem mx_vA {P : Nat → Bool} {F : Nat → Nat → Int} {M n : Nat} (hF : ∀ j, 0 ≤ F j n ∧ F j n < 7) : mx (cC P F M n) 7 = vA P F M n := by
  refine Nat.le_antisymm (mx_of (fun c hc => ?_)) (mA_of (fun a ha hp => ?_))
  · by_cases e : cC P F M n c = 0
    · omega
    · obtain ⟨j, h1, h2⟩ := cnt_ex e
      rw [Bool.and_eq_true] at h2
      rw [← cA_cC (of_decide_eq_true h2.2)]
      exact mA_ge h2.1 h1
  · have hb := hF a
    rw [cA_cC (c := (F a n).toNat) (by omega)]
    exact mx_ge (by omega)
section CLK
variable {N : Nat} {l : lS} {tn : Int32} {lb lv lr od bk br lp fs : Nat → Int32}
theorem wl_mA7 {n : Nat} {f : Nat → Nat} {p : Int32} {Q : Int32 → Prop} (hN : 10 ≤ N) (hn : n < 61) (hp : p = jn (n : Int)) (hf : ∀ c, c < 7 → fs (7 * n + c) = jn (f c : Int)) (hb : ∀ c, c < 7 → f c ≤ 100) (h : Q (jn (mx f 7 : Int))) : wp_X11_mostAlike_N N fs Q p := by
  subst hp
  unfold wp_X11_mostAlike_N
  have key : ∀ (k i : Nat) (v2 v3 : Int32), v3 = jn (i : Int) → i ≤ 7 → v2 = jn (mx f i : Int) → 7 < k + i → wp_X11_mostAlike_N_4 N fs Q k (jn (n : Int)) v2 v3 := by
    intro k
    induction k with
    | zero => intro i v2 v3 _ _ _ _; omega
    | succ k ih =>
      intro i v2 v3 e3 hi e2 hk
      subst e3 e2
      unfold wp_X11_mostAlike_N_4
      rw [li_7, jn_le (by omega) (by omega)]
      refine ⟨fun z => ?_, fun z => ⟨by simp (disch := omega) only [jn_le, jn_lt, jn_eq, jn_in, jn_add, jn_sub, jn_mul, jn_neg, li_0, li_1, li_2, li_3, li_4, li_5, li_6, li_7, li_8, li_9, li_10, li_11, li_12, li_13, li_14, li_15, li_16, li_17, li_18, li_20, li_24, li_29, li_30, li_31, li_32, li_37, li_39, li_40, li_42, li_43, li_45, li_46, li_47, li_48, li_53, li_57, li_59, li_60, li_61, li_62, li_63, li_80, li_81, li_91, li_93, li_97, li_100, li_122, li_200, li_255, li_256, li_257, li_258, li_259, li_260, li_300, li_314, li_400, li_580, li_999, li_5040, li_9999, li_65536, li_99999, li_7654321] <;> omega, ?_⟩⟩
      · rw [show i = 7 by omega]; exact h
      · have hm : mx f i ≤ 100 := mx_of (fun c hc => hb c (by omega))
        have hfi := hb i (by omega)
        rw [show jn (n : Int) * jn 7 + jn (i : Int) = jn ((7 * n + i : Nat) : Int) from by (first | rfl | (simp (disch := omega) only [jn_add, jn_sub, jn_mul, jn_neg, li_0, li_1, li_2, li_3, li_4, li_5, li_6, li_7, li_8, li_9, li_10, li_11, li_12, li_13, li_14, li_15, li_16, li_17, li_18, li_20, li_24, li_29, li_30, li_31, li_32, li_37, li_39, li_40, li_42, li_43, li_45, li_46, li_47, li_48, li_53, li_57, li_59, li_60, li_61, li_62, li_63, li_80, li_81, li_91, li_93, li_97, li_100, li_122, li_200, li_255, li_256, li_257, li_258, li_259, li_260, li_300, li_314, li_400, li_580, li_999, li_5040, li_9999, li_65536, li_99999, li_7654321] <;> first | rfl | exact congrArg jn (by omega)) | exact congrArg jn (by omega)), jn_cln (by omega), hf i (by omega)]
        refine wl_max (a := mx f i) (b := f i) rfl rfl (by omega) (by omega) (ih (i + 1) _ _ (by (first | rfl | (simp (disch := omega) only [jn_add, jn_sub, jn_mul, jn_neg, li_0, li_1, li_2, li_3, li_4, li_5, li_6, li_7, li_8, li_9, li_10, li_11, li_12, li_13, li_14, li_15, li_16, li_17, li_18, li_20, li_24, li_29, li_30, li_31, li_32, li_37, li_39, li_40, li_42, li_43, li_45, li_46, li_47, li_48, li_53, li_57, li_59, li_60, li_61, li_62, li_63, li_80, li_81, li_91, li_93, li_97, li_100, li_122, li_200, li_255, li_256, li_257, li_258, li_259, li_260, li_300, li_314, li_400, li_580, li_999, li_5040, li_9999, li_65536, li_99999, li_7654321] <;> first | rfl | exact congrArg jn (by omega)) | exact congrArg jn (by omega))) (by omega) ?_ (by omega))
        exact congrArg jn (by rw [show mx f (i + 1) = max (mx f i) (f i) from rfl]; omega)
  exact key N 0 _ _ rfl (by omega) rfl (by omega)
theorem wl_cF_N  {C : Nat → Nat → Nat} {Q : Int32 → (Nat → Int32) → (Nat → Int32) → (Nat → Int32) → (Nat → Int32) → (Nat → Int32) → Prop} (hN : 500 ≤ N) (hl : LOk l) (hB : ar (l_k l) lb (l_b l)) (hL : ar (l_k l) lv (l_l l)) (hT : ar (l_k l) lr (l_r l))  (hC : ∀ n c, C n c ≤ 100) (hfs : ∀ n c, n < 61 → c < 7 → fs (7 * n + c) = jn (C n c : Int))
    (h : ∀ t o b r p fs', (∀ n c, n < 61 → c < 7 → fs' (7 * n + c) = jn ((C n c + (if ft l none n = (c : Int) then 1 else 0) : Nat) : Int)) → Q t o b r p fs') : wp_X11_countFirsts_N N (jn (l_s l)) (jn (l_k l)) lb lv lr Q tn od bk br lp fs := by
  have hk := hl.2.2.1
  unfold wp_X11_countFirsts_N
  refine wl_begin (by omega) (fun o b r p e1 e2 e3 e4 => ?_)
  have hG0 : cG (l_k l) 0 o b r p (g00 l) := ⟨rfl, fun c hc => e1 c (by omega), fun c hc => by rw [e2 c (by omega)]; exact hB c hc, fun c hc => by rw [e3 c (by omega)]; exact hT c hc, fun c hc => e4 c (by omega)⟩
  have key : ∀ (k i : Nat) (v2 tn' : Int32) (od' br' lp' fs' : Nat → Int32), v2 = jn (i : Int) → i ≤ 61 → cG (l_k l) tn' od' b br' lp' (tI l none i (g00 l)) → (∀ n c, n < 61 → c < 7 → fs' (7 * n + c) = jn ((C n c + (if n < i ∧ ft l none n = (c : Int) then 1 else 0) : Nat) : Int)) → 61 < k + i → wp_X11_countFirsts_N_16 N (jn (l_s l)) (jn (l_k l)) lb lv lr Q k v2 tn' od' b br' lp' fs' := by
    intro k
    induction k with
    | zero => intro i v2 tn' od' br' lp' fs' _ _ _ _ _; omega
    | succ k ih =>
      intro i v2 tn' od' br' lp' fs' e hi hG' ha hk'
      subst e
      unfold wp_X11_countFirsts_N_16 wp_X11_countFirsts_N_77
      have hgi := tI_ok (r := none) hl (n := i) (g00_ok hl)
      have hti := tI_t (l := l) (r := none) (n := i) (g := g00 l)
      have ht0 : g_t (g00 l) = 0 := rfl
      rw [li_60, jn_lt (by omega) (by omega)]
      refine ⟨fun z => ?_, fun z => ?_⟩
      · refine h _ _ _ _ _ _ (fun n c hn hc => ?_)
        rw [ha n c hn hc]
        simp only [show n < i from by omega, true_and]
      · refine wl_pt_N (by omega) hl hgi hG' hL hT (by omega) (fun t o r p a1 => ?_)
        rw [← tI_add] at a1
        have hgs := tI_ok (r := none) hl (n := i + 1) (g00_ok hl)
        have hfb := fi_b hk hgs
        refine wl_whoIsFirst hk a1.2.1 ?_
        rw [fi_jn]
        have hw : ft l none i = fi l (tI l none (i + 1) (g00 l)) := rfl
        rw [← hw] at hfb ⊢
        rw [show (-1 : Int32) = jn (-1) from rfl, jn_eq (by omega) (by omega)]
        refine ⟨fun z1 => ih (i + 1) _ _ _ _ _ _ (by (first | rfl | (simp (disch := omega) only [jn_add, jn_sub, jn_mul, jn_neg, li_0, li_1, li_2, li_3, li_4, li_5, li_6, li_7, li_8, li_9, li_10, li_11, li_12, li_13, li_14, li_15, li_16, li_17, li_18, li_20, li_24, li_29, li_30, li_31, li_32, li_37, li_39, li_40, li_42, li_43, li_45, li_46, li_47, li_48, li_53, li_57, li_59, li_60, li_61, li_62, li_63, li_80, li_81, li_91, li_93, li_97, li_100, li_122, li_200, li_255, li_256, li_257, li_258, li_259, li_260, li_300, li_314, li_400, li_580, li_999, li_5040, li_9999, li_65536, li_99999, li_7654321] <;> first | rfl | exact congrArg jn (by omega)) | exact congrArg jn (by omega))) (by omega) a1 (fun n c hn hc => ?_) (by omega), fun z1 => ?_⟩
        · rw [ha n c hn hc]
          by_cases e : n = i
          · subst e
            rw [if_neg (fun q => by have := q.2; omega), if_neg (fun q => by have := q.2; omega)]
          · simp only [show (n < i + 1) = (n < i) from propext ⟨fun q => by omega, fun q => by omega⟩]
        · obtain ⟨c0, hc0⟩ : ∃ c0 : Nat, ft l none i = c0 := ⟨(ft l none i).toNat, by omega⟩
          have hCi := hC i c0
          rw [hc0, show jn (i : Int) * 7 + jn (c0 : Int) = jn ((7 * i + c0 : Nat) : Int) from by (first | rfl | (simp (disch := omega) only [jn_add, jn_sub, jn_mul, jn_neg, li_0, li_1, li_2, li_3, li_4, li_5, li_6, li_7, li_8, li_9, li_10, li_11, li_12, li_13, li_14, li_15, li_16, li_17, li_18, li_20, li_24, li_29, li_30, li_31, li_32, li_37, li_39, li_40, li_42, li_43, li_45, li_46, li_47, li_48, li_53, li_57, li_59, li_60, li_61, li_62, li_63, li_80, li_81, li_91, li_93, li_97, li_100, li_122, li_200, li_255, li_256, li_257, li_258, li_259, li_260, li_300, li_314, li_400, li_580, li_999, li_5040, li_9999, li_65536, li_99999, li_7654321] <;> first | rfl | exact congrArg jn (by omega)) | exact congrArg jn (by omega)), jn_cln (by omega), ha i c0 (by omega) (by omega), if_neg (fun q => by have := q.1; omega)]
          refine ⟨by simp (disch := omega) only [jn_le, jn_lt, jn_eq, jn_in, jn_add, jn_sub, jn_mul, jn_neg, li_0, li_1, li_2, li_3, li_4, li_5, li_6, li_7, li_8, li_9, li_10, li_11, li_12, li_13, li_14, li_15, li_16, li_17, li_18, li_20, li_24, li_29, li_30, li_31, li_32, li_37, li_39, li_40, li_42, li_43, li_45, li_46, li_47, li_48, li_53, li_57, li_59, li_60, li_61, li_62, li_63, li_80, li_81, li_91, li_93, li_97, li_100, li_122, li_200, li_255, li_256, li_257, li_258, li_259, li_260, li_300, li_314, li_400, li_580, li_999, li_5040, li_9999, li_65536, li_99999, li_7654321] <;> omega, by simp (disch := omega) only [jn_le, jn_lt, jn_eq, jn_in, jn_add, jn_sub, jn_mul, jn_neg, li_0, li_1, li_2, li_3, li_4, li_5, li_6, li_7, li_8, li_9, li_10, li_11, li_12, li_13, li_14, li_15, li_16, li_17, li_18, li_20, li_24, li_29, li_30, li_31, li_32, li_37, li_39, li_40, li_42, li_43, li_45, li_46, li_47, li_48, li_53, li_57, li_59, li_60, li_61, li_62, li_63, li_80, li_81, li_91, li_93, li_97, li_100, li_122, li_200, li_255, li_256, li_257, li_258, li_259, li_260, li_300, li_314, li_400, li_580, li_999, li_5040, li_9999, li_65536, li_99999, li_7654321] <;> omega, fun a12 e12 => ih (i + 1) _ _ _ _ _ _ (by (first | rfl | (simp (disch := omega) only [jn_add, jn_sub, jn_mul, jn_neg, li_0, li_1, li_2, li_3, li_4, li_5, li_6, li_7, li_8, li_9, li_10, li_11, li_12, li_13, li_14, li_15, li_16, li_17, li_18, li_20, li_24, li_29, li_30, li_31, li_32, li_37, li_39, li_40, li_42, li_43, li_45, li_46, li_47, li_48, li_53, li_57, li_59, li_60, li_61, li_62, li_63, li_80, li_81, li_91, li_93, li_97, li_100, li_122, li_200, li_255, li_256, li_257, li_258, li_259, li_260, li_300, li_314, li_400, li_580, li_999, li_5040, li_9999, li_65536, li_99999, li_7654321] <;> first | rfl | exact congrArg jn (by omega)) | exact congrArg jn (by omega))) (by omega) a1 (fun n c hn hc => ?_) (by omega)⟩
          by_cases e : 7 * n + c = 7 * i + c0
          · have e1 : n = i := by omega
            have e2 : c = c0 := by omega
            subst e1 e2
            rw [e12, upd_at, if_pos ⟨by omega, hc0⟩]
            exact by (first | rfl | (simp (disch := omega) only [jn_add, jn_sub, jn_mul, jn_neg, li_0, li_1, li_2, li_3, li_4, li_5, li_6, li_7, li_8, li_9, li_10, li_11, li_12, li_13, li_14, li_15, li_16, li_17, li_18, li_20, li_24, li_29, li_30, li_31, li_32, li_37, li_39, li_40, li_42, li_43, li_45, li_46, li_47, li_48, li_53, li_57, li_59, li_60, li_61, li_62, li_63, li_80, li_81, li_91, li_93, li_97, li_100, li_122, li_200, li_255, li_256, li_257, li_258, li_259, li_260, li_300, li_314, li_400, li_580, li_999, li_5040, li_9999, li_65536, li_99999, li_7654321] <;> first | rfl | exact congrArg jn (by omega)) | exact congrArg jn (by omega))
          · rw [e12, upd_ne e, ha n c hn hc]
            by_cases e1 : n = i
            · subst e1
              rw [if_neg (fun q => by have := q.1; omega), if_neg (fun q => by have := q.2; omega)]
            · simp only [show (n < i + 1) = (n < i) from propext ⟨fun q => by omega, fun q => by omega⟩]
  refine key N 0 _ _ _ _ _ _ rfl (by omega) hG0 (fun n c hn hc => ?_) (by omega)
  rw [hfs n c hn hc, if_neg (fun q => by have := q.1; omega)]; rfl
theorem wl_cF_R {f : (Nat → Int64) → Int64} {code : Nat → Int32} {len : Nat} {u pl : Nat → Int64} {C : Nat → Nat → Nat} {Q : (Nat → Int64) → (Nat → Int64) → Int32 → (Nat → Int32) → (Nat → Int32) → (Nat → Int32) → (Nat → Int32) → (Nat → Int32) → Prop} (hN : 500 ≤ N) (hl : LOk l) (hB : ar (l_k l) lb (l_b l)) (hL : ar (l_k l) lv (l_l l)) (hT : ar (l_k l) lr (l_r l)) (hf : ROk (some f)) (hR : cR N code len f) (hC : ∀ n c, C n c ≤ 100) (hfs : ∀ n c, n < 61 → c < 7 → fs (7 * n + c) = jn (C n c : Int))
    (h : ∀ u pl t o b r p fs', (∀ n c, n < 61 → c < 7 → fs' (7 * n + c) = jn ((C n c + (if ft l (some f) n = (c : Int) then 1 else 0) : Nat) : Int)) → Q u pl t o b r p fs') : wp_X11_countFirsts_R N (jn (l_s l)) (jn (l_k l)) lb lv lr code len Q u pl tn od bk br lp fs := by
  have hk := hl.2.2.1
  unfold wp_X11_countFirsts_R
  refine wl_begin (by omega) (fun o b r p e1 e2 e3 e4 => ?_)
  have hG0 : cG (l_k l) 0 o b r p (g00 l) := ⟨rfl, fun c hc => e1 c (by omega), fun c hc => by rw [e2 c (by omega)]; exact hB c hc, fun c hc => by rw [e3 c (by omega)]; exact hT c hc, fun c hc => e4 c (by omega)⟩
  have key : ∀ (k i : Nat) (v2 tn' : Int32) (u pl : Nat → Int64) (od' br' lp' fs' : Nat → Int32), v2 = jn (i : Int) → i ≤ 61 → cG (l_k l) tn' od' b br' lp' (tI l (some f) i (g00 l)) → (∀ n c, n < 61 → c < 7 → fs' (7 * n + c) = jn ((C n c + (if n < i ∧ ft l (some f) n = (c : Int) then 1 else 0) : Nat) : Int)) → 61 < k + i → wp_X11_countFirsts_R_16 N (jn (l_s l)) (jn (l_k l)) lb lv lr code len Q k v2 u pl tn' od' b br' lp' fs' := by
    intro k
    induction k with
    | zero => intro i v2 tn' u pl od' br' lp' fs' _ _ _ _ _; omega
    | succ k ih =>
      intro i v2 tn' u pl od' br' lp' fs' e hi hG' ha hk'
      subst e
      unfold wp_X11_countFirsts_R_16 wp_X11_countFirsts_R_77
      have hgi := tI_ok (r := (some f)) hl (n := i) (g00_ok hl)
      have hti := tI_t (l := l) (r := (some f)) (n := i) (g := g00 l)
      have ht0 : g_t (g00 l) = 0 := rfl
      rw [li_60, jn_lt (by omega) (by omega)]
      refine ⟨fun z => ?_, fun z => ?_⟩
      · refine h _ _ _ _ _ _ _ _ (fun n c hn hc => ?_)
        rw [ha n c hn hc]
        simp only [show n < i from by omega, true_and]
      · refine wl_pt_R (by omega) hl hgi hG' hL hT (by omega) hf hR (fun u pl t o r p a1 => ?_)
        rw [← tI_add] at a1
        have hgs := tI_ok (r := (some f)) hl (n := i + 1) (g00_ok hl)
        have hfb := fi_b hk hgs
        refine wl_whoIsFirst hk a1.2.1 ?_
        rw [fi_jn]
        have hw : ft l (some f) i = fi l (tI l (some f) (i + 1) (g00 l)) := rfl
        rw [← hw] at hfb ⊢
        rw [show (-1 : Int32) = jn (-1) from rfl, jn_eq (by omega) (by omega)]
        refine ⟨fun z1 => ih (i + 1) _ _ _ _ _ _ _ _ (by (first | rfl | (simp (disch := omega) only [jn_add, jn_sub, jn_mul, jn_neg, li_0, li_1, li_2, li_3, li_4, li_5, li_6, li_7, li_8, li_9, li_10, li_11, li_12, li_13, li_14, li_15, li_16, li_17, li_18, li_20, li_24, li_29, li_30, li_31, li_32, li_37, li_39, li_40, li_42, li_43, li_45, li_46, li_47, li_48, li_53, li_57, li_59, li_60, li_61, li_62, li_63, li_80, li_81, li_91, li_93, li_97, li_100, li_122, li_200, li_255, li_256, li_257, li_258, li_259, li_260, li_300, li_314, li_400, li_580, li_999, li_5040, li_9999, li_65536, li_99999, li_7654321] <;> first | rfl | exact congrArg jn (by omega)) | exact congrArg jn (by omega))) (by omega) a1 (fun n c hn hc => ?_) (by omega), fun z1 => ?_⟩
        · rw [ha n c hn hc]
          by_cases e : n = i
          · subst e
            rw [if_neg (fun q => by have := q.2; omega), if_neg (fun q => by have := q.2; omega)]
          · simp only [show (n < i + 1) = (n < i) from propext ⟨fun q => by omega, fun q => by omega⟩]
        · obtain ⟨c0, hc0⟩ : ∃ c0 : Nat, ft l (some f) i = c0 := ⟨(ft l (some f) i).toNat, by omega⟩
          have hCi := hC i c0
          rw [hc0, show jn (i : Int) * 7 + jn (c0 : Int) = jn ((7 * i + c0 : Nat) : Int) from by (first | rfl | (simp (disch := omega) only [jn_add, jn_sub, jn_mul, jn_neg, li_0, li_1, li_2, li_3, li_4, li_5, li_6, li_7, li_8, li_9, li_10, li_11, li_12, li_13, li_14, li_15, li_16, li_17, li_18, li_20, li_24, li_29, li_30, li_31, li_32, li_37, li_39, li_40, li_42, li_43, li_45, li_46, li_47, li_48, li_53, li_57, li_59, li_60, li_61, li_62, li_63, li_80, li_81, li_91, li_93, li_97, li_100, li_122, li_200, li_255, li_256, li_257, li_258, li_259, li_260, li_300, li_314, li_400, li_580, li_999, li_5040, li_9999, li_65536, li_99999, li_7654321] <;> first | rfl | exact congrArg jn (by omega)) | exact congrArg jn (by omega)), jn_cln (by omega), ha i c0 (by omega) (by omega), if_neg (fun q => by have := q.1; omega)]
          refine ⟨by simp (disch := omega) only [jn_le, jn_lt, jn_eq, jn_in, jn_add, jn_sub, jn_mul, jn_neg, li_0, li_1, li_2, li_3, li_4, li_5, li_6, li_7, li_8, li_9, li_10, li_11, li_12, li_13, li_14, li_15, li_16, li_17, li_18, li_20, li_24, li_29, li_30, li_31, li_32, li_37, li_39, li_40, li_42, li_43, li_45, li_46, li_47, li_48, li_53, li_57, li_59, li_60, li_61, li_62, li_63, li_80, li_81, li_91, li_93, li_97, li_100, li_122, li_200, li_255, li_256, li_257, li_258, li_259, li_260, li_300, li_314, li_400, li_580, li_999, li_5040, li_9999, li_65536, li_99999, li_7654321] <;> omega, by simp (disch := omega) only [jn_le, jn_lt, jn_eq, jn_in, jn_add, jn_sub, jn_mul, jn_neg, li_0, li_1, li_2, li_3, li_4, li_5, li_6, li_7, li_8, li_9, li_10, li_11, li_12, li_13, li_14, li_15, li_16, li_17, li_18, li_20, li_24, li_29, li_30, li_31, li_32, li_37, li_39, li_40, li_42, li_43, li_45, li_46, li_47, li_48, li_53, li_57, li_59, li_60, li_61, li_62, li_63, li_80, li_81, li_91, li_93, li_97, li_100, li_122, li_200, li_255, li_256, li_257, li_258, li_259, li_260, li_300, li_314, li_400, li_580, li_999, li_5040, li_9999, li_65536, li_99999, li_7654321] <;> omega, fun a12 e12 => ih (i + 1) _ _ _ _ _ _ _ _ (by (first | rfl | (simp (disch := omega) only [jn_add, jn_sub, jn_mul, jn_neg, li_0, li_1, li_2, li_3, li_4, li_5, li_6, li_7, li_8, li_9, li_10, li_11, li_12, li_13, li_14, li_15, li_16, li_17, li_18, li_20, li_24, li_29, li_30, li_31, li_32, li_37, li_39, li_40, li_42, li_43, li_45, li_46, li_47, li_48, li_53, li_57, li_59, li_60, li_61, li_62, li_63, li_80, li_81, li_91, li_93, li_97, li_100, li_122, li_200, li_255, li_256, li_257, li_258, li_259, li_260, li_300, li_314, li_400, li_580, li_999, li_5040, li_9999, li_65536, li_99999, li_7654321] <;> first | rfl | exact congrArg jn (by omega)) | exact congrArg jn (by omega))) (by omega) a1 (fun n c hn hc => ?_) (by omega)⟩
          by_cases e : 7 * n + c = 7 * i + c0
          · have e1 : n = i := by omega
            have e2 : c = c0 := by omega
            subst e1 e2
            rw [e12, upd_at, if_pos ⟨by omega, hc0⟩]
            exact by (first | rfl | (simp (disch := omega) only [jn_add, jn_sub, jn_mul, jn_neg, li_0, li_1, li_2, li_3, li_4, li_5, li_6, li_7, li_8, li_9, li_10, li_11, li_12, li_13, li_14, li_15, li_16, li_17, li_18, li_20, li_24, li_29, li_30, li_31, li_32, li_37, li_39, li_40, li_42, li_43, li_45, li_46, li_47, li_48, li_53, li_57, li_59, li_60, li_61, li_62, li_63, li_80, li_81, li_91, li_93, li_97, li_100, li_122, li_200, li_255, li_256, li_257, li_258, li_259, li_260, li_300, li_314, li_400, li_580, li_999, li_5040, li_9999, li_65536, li_99999, li_7654321] <;> first | rfl | exact congrArg jn (by omega)) | exact congrArg jn (by omega))
          · rw [e12, upd_ne e, ha n c hn hc]
            by_cases e1 : n = i
            · subst e1
              rw [if_neg (fun q => by have := q.1; omega), if_neg (fun q => by have := q.2; omega)]
            · simp only [show (n < i + 1) = (n < i) from propext ⟨fun q => by omega, fun q => by omega⟩]
  refine key N 0 _ _ _ _ _ _ _ _ rfl (by omega) hG0 (fun n c hn hc => ?_) (by omega)
  rw [hfs n c hn hc, if_neg (fun q => by have := q.1; omega)]; rfl
end CLK
section CLL
variable {N : Nat} {a : aS} {t s m tn nm rm : Int32} {lb lv lr nt nc od bk br lp fs : Nat → Int32} {u pl : Nat → Int64} {rl : Nat → Option Nat} {zs : Nat → Option (Nat × (Nat → Int32))}
def zOk (N : Nat) (a : aS) (rl : Nat → Option Nat) (zs : Nat → Option (Nat × (Nat → Int32))) : Prop := ∀ j, j < a_r a → rl j = some (39 + 2 * j) ∧ ∃ l c, zs j = some (l, c) ∧ cR N c l (rFn a j)
theorem rl_alt {i : Nat} {v : Int32} {A : Prop} {B : Nat → (Nat → Int32) → Prop} (h6 : a_r a ≤ 6) (hi : i ≤ a_r a) (hv : v = jn ((i : Int) - 1)) (hZ : zOk N a rl zs) (hA : i = 0 → A) (hB : ∀ j l c, i = j + 1 → j < a_r a → cR N c l (rFn a j) → B l c) :
    (((v < 0 ∨ jn (a_r a : Int) ≤ v) ∧ A) ∨ ((¬ v < 0 ∧ ¬ jn (a_r a : Int) ≤ v ∧ vp_in v 6 ∧ rl v.toNatClampNeg = some 39) ∧ ∃ (l : Nat) (c : Nat → Int32), zs 0 = some (l, c) ∧ B l c) ∨ ((¬ v < 0 ∧ ¬ jn (a_r a : Int) ≤ v ∧ vp_in v 6 ∧ rl v.toNatClampNeg = some 41) ∧ ∃ (l : Nat) (c : Nat → Int32), zs 1 = some (l, c) ∧ B l c) ∨ ((¬ v < 0 ∧ ¬ jn (a_r a : Int) ≤ v ∧ vp_in v 6 ∧ rl v.toNatClampNeg = some 43) ∧ ∃ (l : Nat) (c : Nat → Int32), zs 2 = some (l, c) ∧ B l c) ∨ ((¬ v < 0 ∧ ¬ jn (a_r a : Int) ≤ v ∧ vp_in v 6 ∧ rl v.toNatClampNeg = some 45) ∧ ∃ (l : Nat) (c : Nat → Int32), zs 3 = some (l, c) ∧ B l c) ∨ ((¬ v < 0 ∧ ¬ jn (a_r a : Int) ≤ v ∧ vp_in v 6 ∧ rl v.toNatClampNeg = some 47) ∧ ∃ (l : Nat) (c : Nat → Int32), zs 4 = some (l, c) ∧ B l c) ∨ ((¬ v < 0 ∧ ¬ jn (a_r a : Int) ≤ v ∧ vp_in v 6 ∧ rl v.toNatClampNeg = some 49) ∧ ∃ (l : Nat) (c : Nat → Int32), zs 5 = some (l, c) ∧ B l c)) := by
  subst hv
  by_cases e : i = 0
  · subst e
    exact Or.inl ⟨Or.inl (by decide), hA rfl⟩
  · obtain ⟨j, rfl⟩ : ∃ j, i = j + 1 := ⟨i - 1, by omega⟩
    obtain ⟨e1, l, c, e2, e3⟩ := hZ j (by omega)
    have hb := hB j l c rfl (by omega) e3
    rw [show jn (((j + 1 : Nat) : Int) - 1) = jn (j : Int) from congrArg jn (by omega), li_0, jn_lt (by omega) (by omega), jn_le (by omega) (by omega), jn_cln (by omega), e1]
    have hy : ¬ (j : Int) < 0 ∧ ¬ (a_r a : Int) ≤ (j : Int) ∧ vp_in (jn (j : Int)) 6 := ⟨by omega, by omega, by simp (disch := omega) only [jn_le, jn_lt, jn_eq, jn_in, jn_add, jn_sub, jn_mul, jn_neg, li_0, li_1, li_2, li_3, li_4, li_5, li_6, li_7, li_8, li_9, li_10, li_11, li_12, li_13, li_14, li_15, li_16, li_17, li_18, li_20, li_24, li_29, li_30, li_31, li_32, li_37, li_39, li_40, li_42, li_43, li_45, li_46, li_47, li_48, li_53, li_57, li_59, li_60, li_61, li_62, li_63, li_80, li_81, li_91, li_93, li_97, li_100, li_122, li_200, li_255, li_256, li_257, li_258, li_259, li_260, li_300, li_314, li_400, li_580, li_999, li_5040, li_9999, li_65536, li_99999, li_7654321] <;> omega⟩
    have hj : j = 0 ∨ j = 1 ∨ j = 2 ∨ j = 3 ∨ j = 4 ∨ j = 5 := by omega
    rcases hj with rfl | rfl | rfl | rfl | rfl | rfl
    · exact Or.inr (Or.inl ⟨⟨hy.1, hy.2.1, hy.2.2, rfl⟩, l, c, e2, hb⟩)
    · exact Or.inr (Or.inr (Or.inl ⟨⟨hy.1, hy.2.1, hy.2.2, rfl⟩, l, c, e2, hb⟩))
    · exact Or.inr (Or.inr (Or.inr (Or.inl ⟨⟨hy.1, hy.2.1, hy.2.2, rfl⟩, l, c, e2, hb⟩)))
    · exact Or.inr (Or.inr (Or.inr (Or.inr (Or.inl ⟨⟨hy.1, hy.2.1, hy.2.2, rfl⟩, l, c, e2, hb⟩))))
    · exact Or.inr (Or.inr (Or.inr (Or.inr (Or.inr (Or.inl ⟨⟨hy.1, hy.2.1, hy.2.2, rfl⟩, l, c, e2, hb⟩)))))
    · exact Or.inr (Or.inr (Or.inr (Or.inr (Or.inr (Or.inr ⟨⟨hy.1, hy.2.1, hy.2.2, rfl⟩, l, c, e2, hb⟩)))))
theorem cm_ruled {w : Int32} {Q : Int32 → (Nat → Int64) → (Nat → Int64) → Int32 → (Nat → Int32) → (Nat → Int32) → (Nat → Int32) → (Nat → Int32) → Prop} (hN : 6000 ≤ N) (hA : AOk a) (hL : cL t s m lb lv lr (a_l a)) (hM : cN nm nt nc (a_v a)) (hr : rm = jn (a_r a : Int)) (hZ : zOk N a rl zs)
    (h : ∀ x u pl t o b r p, A_ruled a w x → Q x u pl t o b r p) : wp_X11_ruled N rm rl t s m lb lv lr nm nt nc (zs 0) (zs 1) (zs 2) (zs 3) (zs 4) (zs 5) Q w u pl tn od bk br lp := by
  obtain ⟨s1, s2, s3, s4, s5, s6⟩ := AOk_s hA
  have h6 := hA.2.2.1
  have hl1 := s1.1
  obtain ⟨l1, l2, l3, l4, l5, l6⟩ := hL
  obtain ⟨m1, m2, m3⟩ := hM
  subst hr l1 l2 l3 m1
  obtain ⟨d, rfl, hd⟩ := jn_of w
  have qb : qAl (a_l a) (jn d) ↔ l_t (a_l a) = 1 ∧ 0 ≤ d ∧ d ≤ 1 := by
    unfold qAl
    rw [li_0, li_1, jn_eq hd (by omega), jn_eq hd (by omega)]
    constructor <;> intro q <;> omega
  have hno : ¬ (l_t (a_l a) = 1 ∧ 0 ≤ d ∧ d ≤ 1) → ∀ u pl t o b r p, Q (-3) u pl t o b r p := fun q u pl t o b r p => h _ _ _ _ _ _ _ _ (Or.inr ⟨fun z => q (qb.mp z), rfl⟩)
  unfold wp_X11_ruled wp_X11_ruled_22
  rw [li_0, jn_eq (by omega) (by omega), jn_lt hd (by omega), li_1, jn_le hd (by omega)]
  refine ⟨fun z => hno (by omega) _ _ _ _ _ _ _, fun z => ⟨fun z1 => hno (by omega) _ _ _ _ _ _ _, fun z1 => ⟨fun z2 => ?_, fun z2 => hno (by omega) _ _ _ _ _ _ _⟩⟩⟩
  have hyes : ∀ x u pl t o b r p, x = aRu (fun i => nh (a_l a) (rO (rFn a) i) (a_v a)) (a_r a + 1) (jn d) → Q x u pl t o b r p := fun x u pl t o b r p e => h _ _ _ _ _ _ _ _ (Or.inl ⟨qb.mpr ⟨by omega, by omega, by omega⟩, e⟩)
  generalize hP : (fun i => nh (a_l a) (rO (rFn a) i) (a_v a)) = P at hyes
  have hPi : ∀ i, nh (a_l a) (rO (rFn a) i) (a_v a) = P i := fun i => by rw [← hP]
  have key : ∀ (k i : Nat) (v2 v3 v4 tn : Int32) (u pl : Nat → Int64) (od bk br lp : Nat → Int32), v4 = jn ((i : Int) - 1) → i ≤ a_r a + 1 → v2 = jn (cnt P i : Int) → v3 = jn (fr P i - 1) → a_r a + 1 < k + i → wp_X11_ruled_33 N (jn (a_r a : Int)) rl (jn (l_t (a_l a))) (jn (l_s (a_l a))) (jn (l_k (a_l a))) lb lv lr (jn (n_m (a_v a))) nt nc (zs 0) (zs 1) (zs 2) (zs 3) (zs 4) (zs 5) Q k (jn d) v2 v3 v4 u pl tn od bk br lp := by
    intro k
    induction k with
    | zero => intro i v2 v3 v4 tn u pl od bk br lp _ _ _ _ _; omega
    | succ k ih =>
      intro i v2 v3 v4 tn u pl od bk br lp e4 hi e2 e3 hk'
      have hcl := cnt_le (f := P) (n := i)
      have hfb := fr_b (P := P) (n := i)
      have hfc := fr_cnt (P := P) (n := i)
      unfold wp_X11_ruled_33 wp_X11_ruled_91 wp_X11_ruled_62 wp_X11_ruled_72 wp_X11_ruled_76
      refine ⟨fun z => ?_, fun z => ?_⟩
      · rw [e4, jn_le (by omega) (by omega)] at z
        have ei : i = a_r a + 1 := by omega
        subst ei
        refine ⟨fun q => hyes _ _ _ _ _ _ _ _ ?_, fun q => hyes _ _ _ _ _ _ _ _ ?_⟩
        · unfold aRu; rw [if_pos q, e2]
        · unfold aRu; rw [if_neg q, e3]
      · rw [e4, jn_le (by omega) (by omega)] at z
        have k0 : P i = false → ∀ u pl tn od bk br lp, wp_X11_ruled_33 N (jn (a_r a : Int)) rl (jn (l_t (a_l a))) (jn (l_s (a_l a))) (jn (l_k (a_l a))) lb lv lr (jn (n_m (a_v a))) nt nc (zs 0) (zs 1) (zs 2) (zs 3) (zs 4) (zs 5) Q k (jn d) v2 v3 (v4 + 1) u pl tn od bk br lp := by
          intro hp u pl tn od bk br lp
          refine ih (i + 1) _ _ _ _ _ _ _ _ _ _ (by rw [e4]; exact by (first | rfl | (simp (disch := omega) only [jn_add, jn_sub, jn_mul, jn_neg, li_0, li_1, li_2, li_3, li_4, li_5, li_6, li_7, li_8, li_9, li_10, li_11, li_12, li_13, li_14, li_15, li_16, li_17, li_18, li_20, li_24, li_29, li_30, li_31, li_32, li_37, li_39, li_40, li_42, li_43, li_45, li_46, li_47, li_48, li_53, li_57, li_59, li_60, li_61, li_62, li_63, li_80, li_81, li_91, li_93, li_97, li_100, li_122, li_200, li_255, li_256, li_257, li_258, li_259, li_260, li_300, li_314, li_400, li_580, li_999, li_5040, li_9999, li_65536, li_99999, li_7654321] <;> first | rfl | exact congrArg jn (by omega)) | exact congrArg jn (by omega))) (by omega) ?_ ?_ (by omega)
          · rw [cnt_succ, if_neg (by rw [hp]; decide)]; exact e2
          · rw [fr_s, if_neg (by rw [hp]; decide)]; exact e3
        have k1 : P i = true → ∀ u pl tn od bk br lp, ((v2 = 0 → wp_X11_ruled_33 N (jn (a_r a : Int)) rl (jn (l_t (a_l a))) (jn (l_s (a_l a))) (jn (l_k (a_l a))) lb lv lr (jn (n_m (a_v a))) nt nc (zs 0) (zs 1) (zs 2) (zs 3) (zs 4) (zs 5) Q k (jn d) (v2 + 1) v4 (v4 + 1) u pl tn od bk br lp) ∧ (¬ v2 = 0 → wp_X11_ruled_33 N (jn (a_r a : Int)) rl (jn (l_t (a_l a))) (jn (l_s (a_l a))) (jn (l_k (a_l a))) lb lv lr (jn (n_m (a_v a))) nt nc (zs 0) (zs 1) (zs 2) (zs 3) (zs 4) (zs 5) Q k (jn d) (v2 + 1) v3 (v4 + 1) u pl tn od bk br lp)) := by
          intro hp u pl tn od bk br lp
          have hc1 : v2 + 1 = jn (cnt P (i + 1) : Int) := by
            rw [cnt_succ, if_pos hp, e2]; exact by (first | rfl | (simp (disch := omega) only [jn_add, jn_sub, jn_mul, jn_neg, li_0, li_1, li_2, li_3, li_4, li_5, li_6, li_7, li_8, li_9, li_10, li_11, li_12, li_13, li_14, li_15, li_16, li_17, li_18, li_20, li_24, li_29, li_30, li_31, li_32, li_37, li_39, li_40, li_42, li_43, li_45, li_46, li_47, li_48, li_53, li_57, li_59, li_60, li_61, li_62, li_63, li_80, li_81, li_91, li_93, li_97, li_100, li_122, li_200, li_255, li_256, li_257, li_258, li_259, li_260, li_300, li_314, li_400, li_580, li_999, li_5040, li_9999, li_65536, li_99999, li_7654321] <;> first | rfl | exact congrArg jn (by omega)) | exact congrArg jn (by omega))
          refine ⟨fun q => ?_, fun q => ?_⟩
          · rw [e2, li_0, jn_eq (by omega) (by omega)] at q
            refine ih (i + 1) _ _ _ _ _ _ _ _ _ _ (by rw [e4]; exact by (first | rfl | (simp (disch := omega) only [jn_add, jn_sub, jn_mul, jn_neg, li_0, li_1, li_2, li_3, li_4, li_5, li_6, li_7, li_8, li_9, li_10, li_11, li_12, li_13, li_14, li_15, li_16, li_17, li_18, li_20, li_24, li_29, li_30, li_31, li_32, li_37, li_39, li_40, li_42, li_43, li_45, li_46, li_47, li_48, li_53, li_57, li_59, li_60, li_61, li_62, li_63, li_80, li_81, li_91, li_93, li_97, li_100, li_122, li_200, li_255, li_256, li_257, li_258, li_259, li_260, li_300, li_314, li_400, li_580, li_999, li_5040, li_9999, li_65536, li_99999, li_7654321] <;> first | rfl | exact congrArg jn (by omega)) | exact congrArg jn (by omega))) (by omega) hc1 ?_ (by omega)
            rw [fr_s, if_pos hp, if_pos (hfc.mpr (by omega))]; exact e4
          · rw [e2, li_0, jn_eq (by omega) (by omega)] at q
            refine ih (i + 1) _ _ _ _ _ _ _ _ _ _ (by rw [e4]; exact by (first | rfl | (simp (disch := omega) only [jn_add, jn_sub, jn_mul, jn_neg, li_0, li_1, li_2, li_3, li_4, li_5, li_6, li_7, li_8, li_9, li_10, li_11, li_12, li_13, li_14, li_15, li_16, li_17, li_18, li_20, li_24, li_29, li_30, li_31, li_32, li_37, li_39, li_40, li_42, li_43, li_45, li_46, li_47, li_48, li_53, li_57, li_59, li_60, li_61, li_62, li_63, li_80, li_81, li_91, li_93, li_97, li_100, li_122, li_200, li_255, li_256, li_257, li_258, li_259, li_260, li_300, li_314, li_400, li_580, li_999, li_5040, li_9999, li_65536, li_99999, li_7654321] <;> first | rfl | exact congrArg jn (by omega)) | exact congrArg jn (by omega))) (by omega) hc1 ?_ (by omega)
            rw [fr_s, if_pos hp, if_neg (fun y => q (by have := hfc.mp y; omega))]; exact e3
        refine rl_alt (i := i) h6 (by omega) e4 hZ (fun ei => ?_) (fun j ln cd ej hj hR => ?_)
        · refine wl_nH_N (by omega) s1 s3 l4 l5 l6 m2 m3 (fun q t o b r p => ⟨fun y => absurd y (by decide), fun _ => k1 ?_ _ _ _ _ _ _ _⟩) (fun q t o b r p => ⟨fun _ => k0 ?_ _ _ _ _ _ _ _, fun y => absurd rfl y⟩)
          · rw [← hPi, ei]; exact q
          · rw [← hPi, ei]; exact q
        · refine wl_nH_R (by omega) s1 s3 l4 l5 l6 m2 m3 (ROk_of (hA.2.2.2.1 j hj)) hR (fun q u pl t o b r p => ⟨fun y => absurd y (by decide), fun _ => k1 ?_ _ _ _ _ _ _ _⟩) (fun q u pl t o b r p => ⟨fun _ => k0 ?_ _ _ _ _ _ _ _, fun y => absurd rfl y⟩)
          · rw [← hPi, ej]; exact q
          · rw [← hPi, ej]; exact q
  exact key N 0 _ _ _ _ _ _ _ _ _ _ rfl (by omega) rfl rfl (by omega)
theorem cm_look {w : Int32} {Q : Int32 → (Nat → Int64) → (Nat → Int64) → Int32 → (Nat → Int32) → (Nat → Int32) → (Nat → Int32) → (Nat → Int32) → (Nat → Int32) → Prop} (hN : 6000 ≤ N) (hA : AOk a) (hL : cL t s m lb lv lr (a_l a)) (hM : cN nm nt nc (a_v a)) (hr : rm = jn (a_r a : Int)) (hZ : zOk N a rl zs)
    (h : ∀ x u pl t o b r p fs, A_look a w x → Q x u pl t o b r p fs) : wp_X11_look N rm rl t s m lb lv lr nm nt nc (zs 0) (zs 1) (zs 2) (zs 3) (zs 4) (zs 5) Q w u pl tn od bk br lp fs := by
  obtain ⟨s1, s2, s3, s4, s5, s6⟩ := AOk_s hA
  have h6 := hA.2.2.1
  have hl1 := s1.1
  have hlk := s1.2.2.1
  obtain ⟨l1, l2, l3, l4, l5, l6⟩ := hL
  obtain ⟨m1, m2, m3⟩ := hM
  subst hr l1 l2 l3 m1
  obtain ⟨d, rfl, hd⟩ := jn_of w
  have qb : qAl (a_l a) (jn d) ↔ l_t (a_l a) = 1 ∧ 0 ≤ d ∧ d ≤ 1 := by
    unfold qAl
    rw [li_0, li_1, jn_eq hd (by omega), jn_eq hd (by omega)]
    constructor <;> intro q <;> omega
  have hno : ¬ (l_t (a_l a) = 1 ∧ 0 ≤ d ∧ d ≤ 1) → ∀ u pl t o b r p fs, Q (-1) u pl t o b r p fs := fun q u pl t o b r p fs => h _ _ _ _ _ _ _ _ _ (Or.inr ⟨fun z => q (qb.mp z), rfl⟩)
  unfold wp_X11_look wp_X11_look_22
  rw [li_0, jn_eq (by omega) (by omega), jn_lt hd (by omega), li_1, jn_le hd (by omega)]
  refine ⟨fun z => hno (by omega) _ _ _ _ _ _ _ _, fun z => ⟨fun z1 => hno (by omega) _ _ _ _ _ _ _ _, fun z1 => ⟨fun z2 => ?_, fun z2 => hno (by omega) _ _ _ _ _ _ _ _⟩⟩⟩
  have hyes : ∀ x u pl t o b r p fs, x = aLk (l_k (a_l a)) (fun i => nh (a_l a) (rO (rFn a) i) (a_v a)) (fun i => ft (a_l a) (rO (rFn a) i)) (a_r a + 1) (jn d) → Q x u pl t o b r p fs := fun x u pl t o b r p fs e => h _ _ _ _ _ _ _ _ _ (Or.inl ⟨qb.mpr ⟨by omega, by omega, by omega⟩, e⟩)
  have hFb : ∀ i n, l_k (a_l a) ≠ 0 → 0 ≤ ft (a_l a) (rO (rFn a) i) n ∧ ft (a_l a) (rO (rFn a) i) n < 7 := by
    intro i n hk0
    have hg := tI_ok (r := rO (rFn a) i) s1 (n := n + 1) (g00_ok s1)
    have hb := fi_b hlk hg
    unfold ft
    refine ⟨?_, hb.2⟩
    unfold fi
    rw [if_neg hk0]
    omega
  generalize hF : (fun i => ft (a_l a) (rO (rFn a) i)) = F at hyes
  have hFi : ∀ i n, ft (a_l a) (rO (rFn a) i) n = F i n := fun i n => by rw [← hF]
  generalize hP : (fun i => nh (a_l a) (rO (rFn a) i) (a_v a)) = P at hyes
  have hPi : ∀ i, nh (a_l a) (rO (rFn a) i) (a_v a) = P i := fun i => by rw [← hP]
  refine wl_fill (by omega) (by omega) (fun fs0 hfs0 => ?_)
  have key : ∀ (k i : Nat) (v2 v3 tn : Int32) (u pl : Nat → Int64) (od bk br lp fs : Nat → Int32), v3 = jn ((i : Int) - 1) → i ≤ a_r a + 1 → v2 = jn (cnt P i : Int) → (∀ n c, n < 61 → c < 7 → fs (7 * n + c) = jn (cC P F i n c : Int)) → a_r a + 1 < k + i → wp_X11_look_36 N (jn (a_r a : Int)) rl (jn (l_t (a_l a))) (jn (l_s (a_l a))) (jn (l_k (a_l a))) lb lv lr (jn (n_m (a_v a))) nt nc (zs 0) (zs 1) (zs 2) (zs 3) (zs 4) (zs 5) Q k (jn d) v2 v3 u pl tn od bk br lp fs := by
    intro k
    induction k with
    | zero => intro i v2 v3 tn u pl od bk br lp fs _ _ _ _ _; omega
    | succ k ih =>
      intro i v2 v3 tn u pl od bk br lp fs e3 hi e2 hfs hk'
      have hcl := cnt_le (f := P) (n := i)
      unfold wp_X11_look_36 wp_X11_look_98 wp_X11_look_75
      refine ⟨fun z => ?_, fun z => ?_⟩
      · rw [e3, jn_le (by omega) (by omega)] at z
        have ei : i = a_r a + 1 := by omega
        subst ei
        rw [e2, li_0, jn_eq (by omega) (by omega), jn_eq (by omega) (by omega)]
        refine ⟨fun q => hyes _ _ _ _ _ _ _ _ _ ?_, fun q => ⟨fun q2 => hyes _ _ _ _ _ _ _ _ _ ?_, fun q2 => ?_⟩⟩
        · unfold aLk; rw [if_pos (Or.inr (by omega))]
        · unfold aLk; rw [if_pos (Or.inl (by omega))]
        have hV : ∀ n, n < 61 → mx (cC P F (a_r a + 1) n) 7 = vA P F (a_r a + 1) n := fun n hn => mx_vA (fun j => by rw [← hFi]; exact hFb j n (by omega))
        have hVb : ∀ n, vA P F (a_r a + 1) n ≤ 7 := fun n => by
          have := mA_le (P := P) (F := fun b => F b n) (M := a_r a + 1) (a := a_r a + 1)
          unfold vA; omega
        have hM7 : ∀ (n : Nat) (p : Int32) (Q' : Int32 → Prop), n < 61 → p = jn (n : Int) → Q' (jn (vA P F (a_r a + 1) n : Int)) → wp_X11_mostAlike_N N fs Q' p := by
          intro n p Q' hn hp hQ
          refine wl_mA7 (f := cC P F (a_r a + 1) n) (by omega) hn hp (fun c hc => hfs n c hn hc) (fun c _ => ?_) (by rw [hV n hn]; exact hQ)
          have := cnt_le (f := fun j => P j && decide (F j n = (c : Int))) (n := a_r a + 1)
          unfold cC; omega
        have fin : ∀ (k n : Nat) (v3 v4 : Int32), v4 = jn ((n + 1 : Nat) : Int) → n ≤ 60 → v3 = jn (bmn (vA P F (a_r a + 1)) n : Int) → 60 < k + n → wp_X11_look_106 N (jn (a_r a : Int)) rl (jn (l_t (a_l a))) (jn (l_s (a_l a))) (jn (l_k (a_l a))) lb lv lr (jn (n_m (a_v a))) nt nc (zs 0) (zs 1) (zs 2) (zs 3) (zs 4) (zs 5) Q k (jn d) v3 v4 u pl tn od bk br lp fs := by
          intro k
          induction k with
          | zero => intro n v3 v4 _ _ _ _; omega
          | succ k ih2 =>
            intro n v3 v4 e4 hn e3 hk2
            subst e4 e3
            have hbl := bmn_le (V := vA P F (a_r a + 1)) (n := n)
            unfold wp_X11_look_106 wp_X11_look_149 wp_X11_look_130
            rw [li_60, jn_lt (by omega) (by omega)]
            refine ⟨fun y => ?_, fun y => ?_⟩
            · have en : n = 60 := by omega
              subst en
              refine ⟨fun y1 => hyes _ _ _ _ _ _ _ _ _ ?_, fun y1 => hM7 _ _ _ (by omega) rfl (hyes _ _ _ _ _ _ _ _ _ ?_)⟩
              · unfold aLk; rw [if_neg (by omega), if_pos y1]
              · unfold aLk; rw [if_neg (by omega), if_neg y1]
            · have b1 := hVb (n + 1)
              have b2 := hVb (bmn (vA P F (a_r a + 1)) n)
              refine hM7 (n + 1) _ _ (by omega) rfl (hM7 _ _ _ (by omega) rfl ?_)
              rw [jn_le (by omega) (by omega)]
              refine ⟨fun y1 => ih2 (n + 1) _ _ (by (first | rfl | (simp (disch := omega) only [jn_add, jn_sub, jn_mul, jn_neg, li_0, li_1, li_2, li_3, li_4, li_5, li_6, li_7, li_8, li_9, li_10, li_11, li_12, li_13, li_14, li_15, li_16, li_17, li_18, li_20, li_24, li_29, li_30, li_31, li_32, li_37, li_39, li_40, li_42, li_43, li_45, li_46, li_47, li_48, li_53, li_57, li_59, li_60, li_61, li_62, li_63, li_80, li_81, li_91, li_93, li_97, li_100, li_122, li_200, li_255, li_256, li_257, li_258, li_259, li_260, li_300, li_314, li_400, li_580, li_999, li_5040, li_9999, li_65536, li_99999, li_7654321] <;> first | rfl | exact congrArg jn (by omega)) | exact congrArg jn (by omega))) (by omega) ?_ (by omega), fun y1 => ih2 (n + 1) _ _ (by (first | rfl | (simp (disch := omega) only [jn_add, jn_sub, jn_mul, jn_neg, li_0, li_1, li_2, li_3, li_4, li_5, li_6, li_7, li_8, li_9, li_10, li_11, li_12, li_13, li_14, li_15, li_16, li_17, li_18, li_20, li_24, li_29, li_30, li_31, li_32, li_37, li_39, li_40, li_42, li_43, li_45, li_46, li_47, li_48, li_53, li_57, li_59, li_60, li_61, li_62, li_63, li_80, li_81, li_91, li_93, li_97, li_100, li_122, li_200, li_255, li_256, li_257, li_258, li_259, li_260, li_300, li_314, li_400, li_580, li_999, li_5040, li_9999, li_65536, li_99999, li_7654321] <;> first | rfl | exact congrArg jn (by omega)) | exact congrArg jn (by omega))) (by omega) ?_ (by omega)⟩
              · rw [bmn, if_neg (by omega)]
              · rw [bmn, if_pos (by omega)]
        exact fin N 0 _ _ rfl (by omega) rfl (by omega)
      · rw [e3, jn_le (by omega) (by omega)] at z
        have k0 : P i = false → ∀ u pl tn od bk br lp, wp_X11_look_36 N (jn (a_r a : Int)) rl (jn (l_t (a_l a))) (jn (l_s (a_l a))) (jn (l_k (a_l a))) lb lv lr (jn (n_m (a_v a))) nt nc (zs 0) (zs 1) (zs 2) (zs 3) (zs 4) (zs 5) Q k (jn d) v2 (v3 + 1) u pl tn od bk br lp fs := by
          intro hp u pl tn od bk br lp
          refine ih (i + 1) _ _ _ _ _ _ _ _ _ _ (by rw [e3]; exact by (first | rfl | (simp (disch := omega) only [jn_add, jn_sub, jn_mul, jn_neg, li_0, li_1, li_2, li_3, li_4, li_5, li_6, li_7, li_8, li_9, li_10, li_11, li_12, li_13, li_14, li_15, li_16, li_17, li_18, li_20, li_24, li_29, li_30, li_31, li_32, li_37, li_39, li_40, li_42, li_43, li_45, li_46, li_47, li_48, li_53, li_57, li_59, li_60, li_61, li_62, li_63, li_80, li_81, li_91, li_93, li_97, li_100, li_122, li_200, li_255, li_256, li_257, li_258, li_259, li_260, li_300, li_314, li_400, li_580, li_999, li_5040, li_9999, li_65536, li_99999, li_7654321] <;> first | rfl | exact congrArg jn (by omega)) | exact congrArg jn (by omega))) (by omega) ?_ ?_ (by omega)
          · rw [cnt_succ, if_neg (by rw [hp]; decide)]; exact e2
          · intro n c hn hc
            rw [hfs n c hn hc]
            unfold cC
            rw [cnt_succ, if_neg (by rw [hp, Bool.false_and]; decide)]; rfl
        have hCb : ∀ n c, cC P F i n c ≤ 100 := fun n c => by
          have := cnt_le (f := fun j => P j && decide (F j n = (c : Int))) (n := i)
          unfold cC; omega
        have k2 : P i = true → ∀ u pl tn od bk br lp (fs' : Nat → Int32), (∀ n c, n < 61 → c < 7 → fs' (7 * n + c) = jn ((cC P F i n c + (if F i n = (c : Int) then 1 else 0) : Nat) : Int)) → wp_X11_look_36 N (jn (a_r a : Int)) rl (jn (l_t (a_l a))) (jn (l_s (a_l a))) (jn (l_k (a_l a))) lb lv lr (jn (n_m (a_v a))) nt nc (zs 0) (zs 1) (zs 2) (zs 3) (zs 4) (zs 5) Q k (jn d) (v2 + 1) (v3 + 1) u pl tn od bk br lp fs' := by
          intro hp u pl tn od bk br lp fs' hf'
          refine ih (i + 1) _ _ _ _ _ _ _ _ _ _ (by rw [e3]; exact by (first | rfl | (simp (disch := omega) only [jn_add, jn_sub, jn_mul, jn_neg, li_0, li_1, li_2, li_3, li_4, li_5, li_6, li_7, li_8, li_9, li_10, li_11, li_12, li_13, li_14, li_15, li_16, li_17, li_18, li_20, li_24, li_29, li_30, li_31, li_32, li_37, li_39, li_40, li_42, li_43, li_45, li_46, li_47, li_48, li_53, li_57, li_59, li_60, li_61, li_62, li_63, li_80, li_81, li_91, li_93, li_97, li_100, li_122, li_200, li_255, li_256, li_257, li_258, li_259, li_260, li_300, li_314, li_400, li_580, li_999, li_5040, li_9999, li_65536, li_99999, li_7654321] <;> first | rfl | exact congrArg jn (by omega)) | exact congrArg jn (by omega))) (by omega) ?_ ?_ (by omega)
          · rw [cnt_succ, if_pos hp, e2]; exact by (first | rfl | (simp (disch := omega) only [jn_add, jn_sub, jn_mul, jn_neg, li_0, li_1, li_2, li_3, li_4, li_5, li_6, li_7, li_8, li_9, li_10, li_11, li_12, li_13, li_14, li_15, li_16, li_17, li_18, li_20, li_24, li_29, li_30, li_31, li_32, li_37, li_39, li_40, li_42, li_43, li_45, li_46, li_47, li_48, li_53, li_57, li_59, li_60, li_61, li_62, li_63, li_80, li_81, li_91, li_93, li_97, li_100, li_122, li_200, li_255, li_256, li_257, li_258, li_259, li_260, li_300, li_314, li_400, li_580, li_999, li_5040, li_9999, li_65536, li_99999, li_7654321] <;> first | rfl | exact congrArg jn (by omega)) | exact congrArg jn (by omega))
          · intro n c hn hc
            rw [hf' n c hn hc]
            refine congrArg jn (congrArg Int.ofNat ?_)
            unfold cC
            rw [cnt_succ, hp, Bool.true_and]
            simp only [decide_eq_true_eq]
        have k1 : P i = true → ∀ u pl tn od bk br lp, wp_X11_look_63 N (jn (a_r a : Int)) rl (jn (l_t (a_l a))) (jn (l_s (a_l a))) (jn (l_k (a_l a))) lb lv lr (jn (n_m (a_v a))) nt nc (zs 0) (zs 1) (zs 2) (zs 3) (zs 4) (zs 5) (fun v1 v2 v3 u pl tn od bk br lp fs => wp_X11_look_36 N (jn (a_r a : Int)) rl (jn (l_t (a_l a))) (jn (l_s (a_l a))) (jn (l_k (a_l a))) lb lv lr (jn (n_m (a_v a))) nt nc (zs 0) (zs 1) (zs 2) (zs 3) (zs 4) (zs 5) Q k v1 v2 (v3 + 1) u pl tn od bk br lp fs) Q (jn d) v2 v3 u pl tn od bk br lp fs := by
          intro hp u pl tn od bk br lp
          unfold wp_X11_look_63
          refine rl_alt (i := i) h6 (by omega) e3 hZ (fun ei => ?_) (fun j ln cd ej hj hR => ?_)
          · refine wl_cF_N (C := cC P F i) (by omega) s1 l4 l5 l6 hCb hfs (fun t o b r p fs' hf' => k2 hp _ _ _ _ _ _ _ _ (fun n c hn hc => ?_))
            rw [hf' n c hn hc, ← hFi, ei]; rfl
          · refine wl_cF_R (C := cC P F i) (by omega) s1 l4 l5 l6 (ROk_of (hA.2.2.2.1 j hj)) hR hCb hfs (fun u pl t o b r p fs' hf' => k2 hp _ _ _ _ _ _ _ _ (fun n c hn hc => ?_))
            rw [hf' n c hn hc, ← hFi, ej]; rfl
        refine rl_alt (i := i) h6 (by omega) e3 hZ (fun ei => ?_) (fun j ln cd ej hj hR => ?_)
        · refine wl_nH_N (by omega) s1 s3 l4 l5 l6 m2 m3 (fun q t o b r p => ⟨fun y => absurd y (by decide), fun _ => k1 ?_ _ _ _ _ _ _ _⟩) (fun q t o b r p => ⟨fun _ => k0 ?_ _ _ _ _ _ _ _, fun y => absurd rfl y⟩)
          · rw [← hPi, ei]; exact q
          · rw [← hPi, ei]; exact q
        · refine wl_nH_R (by omega) s1 s3 l4 l5 l6 m2 m3 (ROk_of (hA.2.2.2.1 j hj)) hR (fun q u pl t o b r p => ⟨fun y => absurd y (by decide), fun _ => k1 ?_ _ _ _ _ _ _ _⟩) (fun q u pl t o b r p => ⟨fun _ => k0 ?_ _ _ _ _ _ _ _, fun y => absurd rfl y⟩)
          · rw [← hPi, ej]; exact q
          · rw [← hPi, ej]; exact q
  refine key N 0 _ _ _ _ _ _ _ _ _ _ rfl (by omega) rfl (fun n c hn hc => ?_) (by omega)
  rw [hfs0 _ (by omega)]; rfl
end CLL
