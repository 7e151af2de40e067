/-! alike, both -/
theorem onum_inj {r s : Nat → Nat} : ∀ {m : Nat}, (∀ i, i < m → r i < 9) → (∀ i, i < m → s i < 9) → onum r m = onum s m → ∀ i, i < m → r i = s i
  | 0, _, _, _, i, hi => absurd hi (by omega)
  | m + 1, hr, hs, e, i, hi => by
    have h1 := hr m (by omega)
    have h2 := hs m (by omega)
    unfold onum at e
    by_cases q : i = m
    · subst q; omega
    · exact onum_inj (m := m) (fun j hj => hr j (by omega)) (fun j hj => hs j (by omega)) (by omega) i (by omega)
def mkA (l : lS) (r : rS) (g : gS) (i : Nat) : Nat := mrk (g_o (tI l r i g)) (g_r (tI l r i g)) (l_k l)
def fP (E : Nat → Nat → Prop) (i j : Nat) : Prop := i < 60 ∧ i < j ∧ j ≤ 60 ∧ E i j ∧ ∀ i' j', i' < j' → j' ≤ 60 → (i' < i ∨ (i' = i ∧ j' < j)) → ¬ E i' j'
theorem fP_un {E : Nat → Nat → Prop} {i j i' j' : Nat} (h : fP E i j) (h' : fP E i' j') : i = i' ∧ j = j' := by
  obtain ⟨a1, a2, a3, a4, a5⟩ := h
  obtain ⟨b1, b2, b3, b4, b5⟩ := h'
  have c1 : ¬ (i' < i ∨ (i' = i ∧ j' < j)) := fun q => a5 i' j' b2 b3 q b4
  have c2 : ¬ (i < i' ∨ (i = i' ∧ j < j')) := fun q => b5 i j a2 a3 q a4
  omega
def aAl (l : lS) (r : rS) (g : gS) (w x : Int32) : Prop := (∃ i j, fP (fun i j => mkA l r g i = mkA l r g j) i j ∧ x = if w = 0 then jn ((g_t g + i : Nat) : Int) else jn ((j - i : Nat) : Int)) ∨ ((∀ i j, i < j → j ≤ 60 → ¬ mkA l r g i = mkA l r g j) ∧ x = -2)
theorem aAl_un {l : lS} {r : rS} {g : gS} {w x y : Int32} (h : aAl l r g w x) (h' : aAl l r g w y) : x = y := by
  rcases h with ⟨i, j, h1, h2⟩ | ⟨h1, h2⟩
  · rcases h' with ⟨i', j', g1, g2⟩ | ⟨g1, g2⟩
    · obtain ⟨rfl, rfl⟩ := fP_un h1 g1
      rw [h2, g2]
    · exact absurd h1.2.2.2.1 (g1 i j h1.2.1 h1.2.2.1)
  · rcases h' with ⟨i', j', g1, g2⟩ | ⟨g1, g2⟩
    · exact absurd g1.2.2.2.1 (h1 i' j' g1.2.1 g1.2.2.1)
    · rw [h2, g2]
def qAl (l : lS) (w : Int32) : Prop := l_t l = 1 ∧ (w = 0 ∨ w = 1)
theorem mkA_lt {l : lS} {r : rS} {g : gS} {i : Nat} (hl : LOk l) (hg : GOk (l_k l) g) : mkA l r g i < 9223372036854775808 := by
  have hk := hl.2.2.1
  have hgi := tI_ok (r := r) hl (n := i) hg
  have h1 := mrk_lt (O := g_o (tI l r i g)) (BR := g_r (tI l r i g)) (k := l_k l) (fun p hp => by have := hgi.1.1 p hp; omega) hgi.2.2.1 (n := l_k l) (Nat.le_refl _)
  have h2 : 512 ^ l_k l ≤ 512 ^ 7 := Nat.pow_le_pow_right (by decide) hk
  have h3 : (512 : Nat) ^ 7 = 9223372036854775808 := by decide
  unfold mkA; omega
section ALI
variable {N : Nat} {l : lS} {g : gS} {rm inf tn tn' : Int32} {rl : Nat → Option Nat} {lv lr od bk br lp od' bk' br' lp' : Nat → Int32} {mk : Nat → Int64}
theorem wl_alike_N  {Q : Int32 → Int32 → (Nat → Int32) → (Nat → Int32) → (Nat → Int32) → (Nat → Int32) → (Nat → Int64) → Prop} {w : Int32} (hN : 500 ≤ N) (hF : ∀ K : Prop, K → wp_X11_ruleInForce_N N rm rl inf K) (hl : LOk l) (hg : GOk (l_k l) g) (hG : cG (l_k l) tn od bk br lp g) (hL : ar (l_k l) lv (l_l l)) (hT : ar (l_k l) lr (l_r l)) (ht : g_t g < 10000) 
    (h0 : ¬ qAl l w → ∀ t o b r p m, Q (-1) t o b r p m) (h1 : qAl l w → ∀ x, aAl l none g w x → ∀ t o b r p m, Q x t o b r p m) : wp_X11_alike_N N rm rl (jn (l_t l)) (jn (l_s l)) (jn (l_k l)) lv lr tn od bk br lp inf Q w tn' od' bk' br' lp' mk := by
  have hk := hl.2.2.1
  have hl1 := hl.1
  obtain ⟨d, rfl, hd⟩ := jn_of w
  have qb : qAl l (jn d) ↔ l_t l = 1 ∧ 0 ≤ d ∧ d ≤ 1 := by
    unfold qAl
    rw [li_0, li_1, jn_eq hd (by omega), jn_eq hd (by omega)]
    constructor <;> intro q <;> omega
  unfold wp_X11_alike_N wp_X11_alike_N_22
  rw [li_0, li_1, jn_eq (by omega) (by omega), jn_lt hd (by omega), jn_le hd (by omega), ← li_0]
  refine ⟨fun z => h0 (fun q => by have := qb.mp q; omega) _ _ _ _ _ _, fun z => ⟨fun z1 => h0 (fun q => by have := qb.mp q; omega) _ _ _ _ _ _, fun z1 => ⟨fun z2 => ?_, fun z2 => h0 (fun q => by have := qb.mp q; omega) _ _ _ _ _ _⟩⟩⟩
  have hQ := h1 (qb.mpr ⟨by omega, by omega, by omega⟩)
  refine wl_takeG (fun o b r p e1 e2 e3 e4 => ?_)
  have key2 : ∀ (n i : Nat) (v2 tn' : Int32) (od' bk' br' lp' : Nat → Int32) (mk : Nat → Int64), (∀ j, j < 61 → mk j = jl (mkA l none g j : Int)) → v2 = jn (i : Int) → i ≤ 60 → (∀ i' j', i' < j' → j' ≤ 60 → i' < i → ¬ mkA l none g i' = mkA l none g j') → 60 < n + i → wp_X11_alike_N_97 N rm rl (jn (l_t l)) (jn (l_s l)) (jn (l_k l)) lv lr tn od bk br lp inf Q n (jn d) v2 tn' od' bk' br' lp' mk := by
    intro n
    induction n with
    | zero => intro i v2 tn' od' bk' br' lp' mk _ _ h1 _ h2; omega
    | succ n ih =>
      intro i v2 tn' od' bk' br' lp' mk hm e hi hno hn
      subst e
      unfold wp_X11_alike_N_97
      rw [li_60, jn_le (by omega) (by omega)]
      refine ⟨fun z => hQ _ (Or.inr ⟨fun i' j' a1 a2 => hno i' j' a1 a2 (by omega), rfl⟩) _ _ _ _ _ _, fun z x13 e13 => ?_⟩
      have key3 : ∀ (n' j : Nat) (v3 : Int32), v3 = jn (j : Int) → i < j → j ≤ 61 → (∀ j', i < j' → j' < j → ¬ mkA l none g i = mkA l none g j') → 61 < n' + j → wp_X11_alike_N_107 N rm rl (jn (l_t l)) (jn (l_s l)) (jn (l_k l)) lv lr tn od bk br lp inf (wp_X11_alike_N_97 N rm rl (jn (l_t l)) (jn (l_s l)) (jn (l_k l)) lv lr tn od bk br lp inf Q n) Q n' (jn d) (jn (i : Int)) v3 tn' od' bk' br' lp' mk := by
        intro n'
        induction n' with
        | zero => intro j v3 _ _ h1 _ h2; omega
        | succ n' ih2 =>
          intro j v3 e hij hj hno2 hn'
          subst e
          unfold wp_X11_alike_N_107 wp_X11_alike_N_151
          rw [li_60, jn_lt (by omega) (by omega)]
          refine ⟨fun y => ?_, fun y => ?_⟩
          · refine ih (i + 1) _ _ _ _ _ _ _ hm (by (first | rfl | (simp (disch := omega) only [jn_add, jn_sub, jn_mul, jn_neg, li_0, li_1, li_2, li_3, li_4, li_5, li_6, li_7, li_8, li_9, li_10, li_11, li_12, li_13, li_14, li_15, li_16, li_17, li_18, li_20, li_24, li_29, li_30, li_31, li_32, li_37, li_39, li_40, li_42, li_43, li_45, li_46, li_47, li_48, li_53, li_57, li_59, li_60, li_61, li_62, li_63, li_80, li_81, li_91, li_93, li_97, li_100, li_122, li_200, li_255, li_256, li_257, li_258, li_259, li_260, li_300, li_314, li_400, li_580, li_999, li_5040, li_9999, li_65536, li_99999, li_7654321] <;> first | rfl | exact congrArg jn (by omega)) | exact congrArg jn (by omega))) (by omega) (fun i' j' a1 a2 a3 => ?_) (by omega)
            by_cases e : i' = i
            · subst e; exact hno2 j' a1 (by omega)
            · exact hno i' j' a1 a2 (by omega)
          · have m1 := mkA_lt (r := none) (i := i) hl hg
            have m2 := mkA_lt (r := none) (i := j) hl hg
            refine ⟨by simp (disch := omega) only [jn_le, jn_lt, jn_eq, jn_in, jn_add, jn_sub, jn_mul, jn_neg, li_0, li_1, li_2, li_3, li_4, li_5, li_6, li_7, li_8, li_9, li_10, li_11, li_12, li_13, li_14, li_15, li_16, li_17, li_18, li_20, li_24, li_29, li_30, li_31, li_32, li_37, li_39, li_40, li_42, li_43, li_45, li_46, li_47, li_48, li_53, li_57, li_59, li_60, li_61, li_62, li_63, li_80, li_81, li_91, li_93, li_97, li_100, li_122, li_200, li_255, li_256, li_257, li_258, li_259, li_260, li_300, li_314, li_400, li_580, li_999, li_5040, li_9999, li_65536, li_99999, li_7654321] <;> omega, by simp (disch := omega) only [jn_le, jn_lt, jn_eq, jn_in, jn_add, jn_sub, jn_mul, jn_neg, li_0, li_1, li_2, li_3, li_4, li_5, li_6, li_7, li_8, li_9, li_10, li_11, li_12, li_13, li_14, li_15, li_16, li_17, li_18, li_20, li_24, li_29, li_30, li_31, li_32, li_37, li_39, li_40, li_42, li_43, li_45, li_46, li_47, li_48, li_53, li_57, li_59, li_60, li_61, li_62, li_63, li_80, li_81, li_91, li_93, li_97, li_100, li_122, li_200, li_255, li_256, li_257, li_258, li_259, li_260, li_300, li_314, li_400, li_580, li_999, li_5040, li_9999, li_65536, li_99999, li_7654321] <;> omega, ?_⟩
            rw [jn_cln (by omega), jn_cln (by omega), hm i (by omega), hm j (by omega), jn_cmp0, jl_eq (by omega) (by omega)]
            refine ⟨fun x => ?_, fun x => ?_⟩
            · have hf : fP (fun i j => mkA l none g i = mkA l none g j) i j := ⟨by omega, hij, by omega, by show mkA l none g i = mkA l none g j; omega, fun i' j' a1 a2 a3 => by
                rcases a3 with a3 | ⟨rfl, a3⟩
                · exact hno i' j' a1 a2 a3
                · exact hno2 j' a1 a3⟩
              refine ⟨fun u => ?_, fun u => ?_⟩
              · have := hQ _ (Or.inl ⟨i, j, hf, (if_pos u).symm⟩)
                rw [hG.1, show jn (g_t g : Int) + jn (i : Int) = jn ((g_t g + i : Nat) : Int) from by (first | rfl | (simp (disch := omega) only [jn_add, jn_sub, jn_mul, jn_neg, li_0, li_1, li_2, li_3, li_4, li_5, li_6, li_7, li_8, li_9, li_10, li_11, li_12, li_13, li_14, li_15, li_16, li_17, li_18, li_20, li_24, li_29, li_30, li_31, li_32, li_37, li_39, li_40, li_42, li_43, li_45, li_46, li_47, li_48, li_53, li_57, li_59, li_60, li_61, li_62, li_63, li_80, li_81, li_91, li_93, li_97, li_100, li_122, li_200, li_255, li_256, li_257, li_258, li_259, li_260, li_300, li_314, li_400, li_580, li_999, li_5040, li_9999, li_65536, li_99999, li_7654321] <;> first | rfl | exact congrArg jn (by omega)) | exact congrArg jn (by omega))]
                exact this _ _ _ _ _ _
              · have := hQ _ (Or.inl ⟨i, j, hf, (if_neg u).symm⟩)
                rw [show jn (j : Int) - jn (i : Int) = jn ((j - i : Nat) : Int) from by rw [jn_sub]; exact congrArg jn (by omega)]
                exact this _ _ _ _ _ _
            · refine ih2 (j + 1) _ (by (first | rfl | (simp (disch := omega) only [jn_add, jn_sub, jn_mul, jn_neg, li_0, li_1, li_2, li_3, li_4, li_5, li_6, li_7, li_8, li_9, li_10, li_11, li_12, li_13, li_14, li_15, li_16, li_17, li_18, li_20, li_24, li_29, li_30, li_31, li_32, li_37, li_39, li_40, li_42, li_43, li_45, li_46, li_47, li_48, li_53, li_57, li_59, li_60, li_61, li_62, li_63, li_80, li_81, li_91, li_93, li_97, li_100, li_122, li_200, li_255, li_256, li_257, li_258, li_259, li_260, li_300, li_314, li_400, li_580, li_999, li_5040, li_9999, li_65536, li_99999, li_7654321] <;> first | rfl | exact congrArg jn (by omega)) | exact congrArg jn (by omega))) (by omega) (by omega) (fun j' a1 a2 => ?_) (by omega)
              by_cases e : j' = j
              · subst e; omega
              · exact hno2 j' a1 (by omega)
      exact key3 N (i + 1) _ (by rw [e13]; exact by (first | rfl | (simp (disch := omega) only [jn_add, jn_sub, jn_mul, jn_neg, li_0, li_1, li_2, li_3, li_4, li_5, li_6, li_7, li_8, li_9, li_10, li_11, li_12, li_13, li_14, li_15, li_16, li_17, li_18, li_20, li_24, li_29, li_30, li_31, li_32, li_37, li_39, li_40, li_42, li_43, li_45, li_46, li_47, li_48, li_53, li_57, li_59, li_60, li_61, li_62, li_63, li_80, li_81, li_91, li_93, li_97, li_100, li_122, li_200, li_255, li_256, li_257, li_258, li_259, li_260, li_300, li_314, li_400, li_580, li_999, li_5040, li_9999, li_65536, li_99999, li_7654321] <;> first | rfl | exact congrArg jn (by omega)) | exact congrArg jn (by omega))) (by omega) (by omega) (fun j' a1 a2 => by omega) (by omega)
  have key1 : ∀ (n i : Nat) (v2 tn' : Int32) (od' br' lp' : Nat → Int32) (mk : Nat → Int64), v2 = jn (i : Int) → i ≤ 61 → cG (l_k l) tn' od' b br' lp' (tI l none i g) → (∀ j, j < i → mk j = jl (mkA l none g j : Int)) → 61 < n + i → wp_X11_alike_N_40 N rm rl (jn (l_t l)) (jn (l_s l)) (jn (l_k l)) lv lr tn od bk br lp inf Q n (jn d) v2 tn' od' b br' lp' mk := by
    intro n
    induction n with
    | zero => intro i v2 tn' od' br' lp' mk _ h1 _ _ h2; omega
    | succ n ih =>
      intro i v2 tn' od' br' lp' mk e hi hG' hm hn
      subst e
      unfold wp_X11_alike_N_40
      have hgi := tI_ok (r := none) hl (n := i) hg
      have hti := tI_t (l := l) (r := none) (n := i) (g := g)
      rw [li_60, jn_lt (by omega) (by omega)]
      refine ⟨fun z => key2 N 0 _ _ _ _ _ _ _ (fun j hj => hm j (by omega)) rfl (by omega) (fun i' j' _ _ q => by omega) (by omega), fun z => ?_⟩
      refine wl_mark hk (by omega) hG'.2.1 hG'.2.2.2.1 hgi.1 hgi.2.2.1 ⟨by simp (disch := omega) only [jn_le, jn_lt, jn_eq, jn_in, jn_add, jn_sub, jn_mul, jn_neg, li_0, li_1, li_2, li_3, li_4, li_5, li_6, li_7, li_8, li_9, li_10, li_11, li_12, li_13, li_14, li_15, li_16, li_17, li_18, li_20, li_24, li_29, li_30, li_31, li_32, li_37, li_39, li_40, li_42, li_43, li_45, li_46, li_47, li_48, li_53, li_57, li_59, li_60, li_61, li_62, li_63, li_80, li_81, li_91, li_93, li_97, li_100, li_122, li_200, li_255, li_256, li_257, li_258, li_259, li_260, li_300, li_314, li_400, li_580, li_999, li_5040, li_9999, li_65536, li_99999, li_7654321] <;> omega, fun a7 e7 => hF _ ?_⟩
      rw [jn_cln (by omega)] at e7
      refine wl_pt_N (by omega) hl hgi hG' hL hT (by omega) (fun t o r p a1 => ?_)
      rw [← tI_add] at a1
      refine ih (i + 1) _ _ _ _ _ _ (by (first | rfl | (simp (disch := omega) only [jn_add, jn_sub, jn_mul, jn_neg, li_0, li_1, li_2, li_3, li_4, li_5, li_6, li_7, li_8, li_9, li_10, li_11, li_12, li_13, li_14, li_15, li_16, li_17, li_18, li_20, li_24, li_29, li_30, li_31, li_32, li_37, li_39, li_40, li_42, li_43, li_45, li_46, li_47, li_48, li_53, li_57, li_59, li_60, li_61, li_62, li_63, li_80, li_81, li_91, li_93, li_97, li_100, li_122, li_200, li_255, li_256, li_257, li_258, li_259, li_260, li_300, li_314, li_400, li_580, li_999, li_5040, li_9999, li_65536, li_99999, li_7654321] <;> first | rfl | exact congrArg jn (by omega)) | exact congrArg jn (by omega))) (by omega) a1 (fun j hj => ?_) (by omega)
      by_cases e : j = i
      · rw [e7, e, updL_at]; rfl
      · rw [e7, updL_ne e]; exact hm j (by omega)
  exact key1 N 0 _ _ _ _ _ _ rfl (by omega) (cG_of hk hG e1 e2 e3 e4) (fun j hj => by omega) (by omega)
theorem wl_alike_R {f : (Nat → Int64) → Int64} {code : Nat → Int32} {len : Nat} {u pl : Nat → Int64} {Q : Int32 → (Nat → Int64) → (Nat → Int64) → Int32 → (Nat → Int32) → (Nat → Int32) → (Nat → Int32) → (Nat → Int32) → (Nat → Int64) → Prop} {w : Int32} (hN : 500 ≤ N) (hF : ∀ K : Prop, K → wp_X11_ruleInForce_R N rm rl inf K) (hl : LOk l) (hg : GOk (l_k l) g) (hG : cG (l_k l) tn od bk br lp g) (hL : ar (l_k l) lv (l_l l)) (hT : ar (l_k l) lr (l_r l)) (ht : g_t g < 10000) (hf : ROk (some f)) (hR : cR N code len f)
    (h0 : ¬ qAl l w → ∀ u pl t o b r p m, Q (-1) u pl t o b r p m) (h1 : qAl l w → ∀ x, aAl l (some f) g w x → ∀ u pl t o b r p m, Q x u pl t o b r p m) : wp_X11_alike_R N rm rl (jn (l_t l)) (jn (l_s l)) (jn (l_k l)) lv lr tn od bk br lp inf code len Q w u pl tn' od' bk' br' lp' mk := by
  have hk := hl.2.2.1
  have hl1 := hl.1
  obtain ⟨d, rfl, hd⟩ := jn_of w
  have qb : qAl l (jn d) ↔ l_t l = 1 ∧ 0 ≤ d ∧ d ≤ 1 := by
    unfold qAl
    rw [li_0, li_1, jn_eq hd (by omega), jn_eq hd (by omega)]
    constructor <;> intro q <;> omega
  unfold wp_X11_alike_R wp_X11_alike_R_22
  rw [li_0, li_1, jn_eq (by omega) (by omega), jn_lt hd (by omega), jn_le hd (by omega), ← li_0]
  refine ⟨fun z => h0 (fun q => by have := qb.mp q; omega) _ _ _ _ _ _ _ _, fun z => ⟨fun z1 => h0 (fun q => by have := qb.mp q; omega) _ _ _ _ _ _ _ _, fun z1 => ⟨fun z2 => ?_, fun z2 => h0 (fun q => by have := qb.mp q; omega) _ _ _ _ _ _ _ _⟩⟩⟩
  have hQ := h1 (qb.mpr ⟨by omega, by omega, by omega⟩)
  refine wl_takeG (fun o b r p e1 e2 e3 e4 => ?_)
  have key2 : ∀ (n i : Nat) (v2 tn' : Int32) (u pl : Nat → Int64) (od' bk' br' lp' : Nat → Int32) (mk : Nat → Int64), (∀ j, j < 61 → mk j = jl (mkA l (some f) g j : Int)) → v2 = jn (i : Int) → i ≤ 60 → (∀ i' j', i' < j' → j' ≤ 60 → i' < i → ¬ mkA l (some f) g i' = mkA l (some f) g j') → 60 < n + i → wp_X11_alike_R_97 N rm rl (jn (l_t l)) (jn (l_s l)) (jn (l_k l)) lv lr tn od bk br lp inf code len Q n (jn d) v2 u pl tn' od' bk' br' lp' mk := by
    intro n
    induction n with
    | zero => intro i v2 tn' u pl od' bk' br' lp' mk _ _ h1 _ h2; omega
    | succ n ih =>
      intro i v2 tn' u pl od' bk' br' lp' mk hm e hi hno hn
      subst e
      unfold wp_X11_alike_R_97
      rw [li_60, jn_le (by omega) (by omega)]
      refine ⟨fun z => hQ _ (Or.inr ⟨fun i' j' a1 a2 => hno i' j' a1 a2 (by omega), rfl⟩) _ _ _ _ _ _ _ _, fun z x13 e13 => ?_⟩
      have key3 : ∀ (n' j : Nat) (v3 : Int32), v3 = jn (j : Int) → i < j → j ≤ 61 → (∀ j', i < j' → j' < j → ¬ mkA l (some f) g i = mkA l (some f) g j') → 61 < n' + j → wp_X11_alike_R_107 N rm rl (jn (l_t l)) (jn (l_s l)) (jn (l_k l)) lv lr tn od bk br lp inf code len (wp_X11_alike_R_97 N rm rl (jn (l_t l)) (jn (l_s l)) (jn (l_k l)) lv lr tn od bk br lp inf code len Q n) Q n' (jn d) (jn (i : Int)) v3 u pl tn' od' bk' br' lp' mk := by
        intro n'
        induction n' with
        | zero => intro j v3 _ _ h1 _ h2; omega
        | succ n' ih2 =>
          intro j v3 e hij hj hno2 hn'
          subst e
          unfold wp_X11_alike_R_107 wp_X11_alike_R_151
          rw [li_60, jn_lt (by omega) (by omega)]
          refine ⟨fun y => ?_, fun y => ?_⟩
          · refine ih (i + 1) _ _ _ _ _ _ _ _ _ hm (by (first | rfl | (simp (disch := omega) only [jn_add, jn_sub, jn_mul, jn_neg, li_0, li_1, li_2, li_3, li_4, li_5, li_6, li_7, li_8, li_9, li_10, li_11, li_12, li_13, li_14, li_15, li_16, li_17, li_18, li_20, li_24, li_29, li_30, li_31, li_32, li_37, li_39, li_40, li_42, li_43, li_45, li_46, li_47, li_48, li_53, li_57, li_59, li_60, li_61, li_62, li_63, li_80, li_81, li_91, li_93, li_97, li_100, li_122, li_200, li_255, li_256, li_257, li_258, li_259, li_260, li_300, li_314, li_400, li_580, li_999, li_5040, li_9999, li_65536, li_99999, li_7654321] <;> first | rfl | exact congrArg jn (by omega)) | exact congrArg jn (by omega))) (by omega) (fun i' j' a1 a2 a3 => ?_) (by omega)
            by_cases e : i' = i
            · subst e; exact hno2 j' a1 (by omega)
            · exact hno i' j' a1 a2 (by omega)
          · have m1 := mkA_lt (r := (some f)) (i := i) hl hg
            have m2 := mkA_lt (r := (some f)) (i := j) hl hg
            refine ⟨by simp (disch := omega) only [jn_le, jn_lt, jn_eq, jn_in, jn_add, jn_sub, jn_mul, jn_neg, li_0, li_1, li_2, li_3, li_4, li_5, li_6, li_7, li_8, li_9, li_10, li_11, li_12, li_13, li_14, li_15, li_16, li_17, li_18, li_20, li_24, li_29, li_30, li_31, li_32, li_37, li_39, li_40, li_42, li_43, li_45, li_46, li_47, li_48, li_53, li_57, li_59, li_60, li_61, li_62, li_63, li_80, li_81, li_91, li_93, li_97, li_100, li_122, li_200, li_255, li_256, li_257, li_258, li_259, li_260, li_300, li_314, li_400, li_580, li_999, li_5040, li_9999, li_65536, li_99999, li_7654321] <;> omega, by simp (disch := omega) only [jn_le, jn_lt, jn_eq, jn_in, jn_add, jn_sub, jn_mul, jn_neg, li_0, li_1, li_2, li_3, li_4, li_5, li_6, li_7, li_8, li_9, li_10, li_11, li_12, li_13, li_14, li_15, li_16, li_17, li_18, li_20, li_24, li_29, li_30, li_31, li_32, li_37, li_39, li_40, li_42, li_43, li_45, li_46, li_47, li_48, li_53, li_57, li_59, li_60, li_61, li_62, li_63, li_80, li_81, li_91, li_93, li_97, li_100, li_122, li_200, li_255, li_256, li_257, li_258, li_259, li_260, li_300, li_314, li_400, li_580, li_999, li_5040, li_9999, li_65536, li_99999, li_7654321] <;> omega, ?_⟩
            rw [jn_cln (by omega), jn_cln (by omega), hm i (by omega), hm j (by omega), jn_cmp0, jl_eq (by omega) (by omega)]
            refine ⟨fun x => ?_, fun x => ?_⟩
            · have hf : fP (fun i j => mkA l (some f) g i = mkA l (some f) g j) i j := ⟨by omega, hij, by omega, by show mkA l (some f) g i = mkA l (some f) g j; omega, fun i' j' a1 a2 a3 => by
                rcases a3 with a3 | ⟨rfl, a3⟩
                · exact hno i' j' a1 a2 a3
                · exact hno2 j' a1 a3⟩
              refine ⟨fun u => ?_, fun u => ?_⟩
              · have := hQ _ (Or.inl ⟨i, j, hf, (if_pos u).symm⟩)
                rw [hG.1, show jn (g_t g : Int) + jn (i : Int) = jn ((g_t g + i : Nat) : Int) from by (first | rfl | (simp (disch := omega) only [jn_add, jn_sub, jn_mul, jn_neg, li_0, li_1, li_2, li_3, li_4, li_5, li_6, li_7, li_8, li_9, li_10, li_11, li_12, li_13, li_14, li_15, li_16, li_17, li_18, li_20, li_24, li_29, li_30, li_31, li_32, li_37, li_39, li_40, li_42, li_43, li_45, li_46, li_47, li_48, li_53, li_57, li_59, li_60, li_61, li_62, li_63, li_80, li_81, li_91, li_93, li_97, li_100, li_122, li_200, li_255, li_256, li_257, li_258, li_259, li_260, li_300, li_314, li_400, li_580, li_999, li_5040, li_9999, li_65536, li_99999, li_7654321] <;> first | rfl | exact congrArg jn (by omega)) | exact congrArg jn (by omega))]
                exact this _ _ _ _ _ _ _ _
              · have := hQ _ (Or.inl ⟨i, j, hf, (if_neg u).symm⟩)
                rw [show jn (j : Int) - jn (i : Int) = jn ((j - i : Nat) : Int) from by rw [jn_sub]; exact congrArg jn (by omega)]
                exact this _ _ _ _ _ _ _ _
            · refine ih2 (j + 1) _ (by (first | rfl | (simp (disch := omega) only [jn_add, jn_sub, jn_mul, jn_neg, li_0, li_1, li_2, li_3, li_4, li_5, li_6, li_7, li_8, li_9, li_10, li_11, li_12, li_13, li_14, li_15, li_16, li_17, li_18, li_20, li_24, li_29, li_30, li_31, li_32, li_37, li_39, li_40, li_42, li_43, li_45, li_46, li_47, li_48, li_53, li_57, li_59, li_60, li_61, li_62, li_63, li_80, li_81, li_91, li_93, li_97, li_100, li_122, li_200, li_255, li_256, li_257, li_258, li_259, li_260, li_300, li_314, li_400, li_580, li_999, li_5040, li_9999, li_65536, li_99999, li_7654321] <;> first | rfl | exact congrArg jn (by omega)) | exact congrArg jn (by omega))) (by omega) (by omega) (fun j' a1 a2 => ?_) (by omega)
              by_cases e : j' = j
              · subst e; omega
              · exact hno2 j' a1 (by omega)
      exact key3 N (i + 1) _ (by rw [e13]; exact by (first | rfl | (simp (disch := omega) only [jn_add, jn_sub, jn_mul, jn_neg, li_0, li_1, li_2, li_3, li_4, li_5, li_6, li_7, li_8, li_9, li_10, li_11, li_12, li_13, li_14, li_15, li_16, li_17, li_18, li_20, li_24, li_29, li_30, li_31, li_32, li_37, li_39, li_40, li_42, li_43, li_45, li_46, li_47, li_48, li_53, li_57, li_59, li_60, li_61, li_62, li_63, li_80, li_81, li_91, li_93, li_97, li_100, li_122, li_200, li_255, li_256, li_257, li_258, li_259, li_260, li_300, li_314, li_400, li_580, li_999, li_5040, li_9999, li_65536, li_99999, li_7654321] <;> first | rfl | exact congrArg jn (by omega)) | exact congrArg jn (by omega))) (by omega) (by omega) (fun j' a1 a2 => by omega) (by omega)
  have key1 : ∀ (n i : Nat) (v2 tn' : Int32) (u pl : Nat → Int64) (od' br' lp' : Nat → Int32) (mk : Nat → Int64), v2 = jn (i : Int) → i ≤ 61 → cG (l_k l) tn' od' b br' lp' (tI l (some f) i g) → (∀ j, j < i → mk j = jl (mkA l (some f) g j : Int)) → 61 < n + i → wp_X11_alike_R_40 N rm rl (jn (l_t l)) (jn (l_s l)) (jn (l_k l)) lv lr tn od bk br lp inf code len Q n (jn d) v2 u pl tn' od' b br' lp' mk := by
    intro n
    induction n with
    | zero => intro i v2 tn' u pl od' br' lp' mk _ h1 _ _ h2; omega
    | succ n ih =>
      intro i v2 tn' u pl od' br' lp' mk e hi hG' hm hn
      subst e
      unfold wp_X11_alike_R_40
      have hgi := tI_ok (r := (some f)) hl (n := i) hg
      have hti := tI_t (l := l) (r := (some f)) (n := i) (g := g)
      rw [li_60, jn_lt (by omega) (by omega)]
      refine ⟨fun z => key2 N 0 _ _ _ _ _ _ _ _ _ (fun j hj => hm j (by omega)) rfl (by omega) (fun i' j' _ _ q => by omega) (by omega), fun z => ?_⟩
      refine wl_mark hk (by omega) hG'.2.1 hG'.2.2.2.1 hgi.1 hgi.2.2.1 ⟨by simp (disch := omega) only [jn_le, jn_lt, jn_eq, jn_in, jn_add, jn_sub, jn_mul, jn_neg, li_0, li_1, li_2, li_3, li_4, li_5, li_6, li_7, li_8, li_9, li_10, li_11, li_12, li_13, li_14, li_15, li_16, li_17, li_18, li_20, li_24, li_29, li_30, li_31, li_32, li_37, li_39, li_40, li_42, li_43, li_45, li_46, li_47, li_48, li_53, li_57, li_59, li_60, li_61, li_62, li_63, li_80, li_81, li_91, li_93, li_97, li_100, li_122, li_200, li_255, li_256, li_257, li_258, li_259, li_260, li_300, li_314, li_400, li_580, li_999, li_5040, li_9999, li_65536, li_99999, li_7654321] <;> omega, fun a7 e7 => hF _ ?_⟩
      rw [jn_cln (by omega)] at e7
      refine wl_pt_R (by omega) hl hgi hG' hL hT (by omega) hf hR (fun u pl t o r p a1 => ?_)
      rw [← tI_add] at a1
      refine ih (i + 1) _ _ _ _ _ _ _ _ (by (first | rfl | (simp (disch := omega) only [jn_add, jn_sub, jn_mul, jn_neg, li_0, li_1, li_2, li_3, li_4, li_5, li_6, li_7, li_8, li_9, li_10, li_11, li_12, li_13, li_14, li_15, li_16, li_17, li_18, li_20, li_24, li_29, li_30, li_31, li_32, li_37, li_39, li_40, li_42, li_43, li_45, li_46, li_47, li_48, li_53, li_57, li_59, li_60, li_61, li_62, li_63, li_80, li_81, li_91, li_93, li_97, li_100, li_122, li_200, li_255, li_256, li_257, li_258, li_259, li_260, li_300, li_314, li_400, li_580, li_999, li_5040, li_9999, li_65536, li_99999, li_7654321] <;> first | rfl | exact congrArg jn (by omega)) | exact congrArg jn (by omega))) (by omega) a1 (fun j hj => ?_) (by omega)
      by_cases e : j = i
      · rw [e7, e, updL_at]; rfl
      · rw [e7, updL_ne e]; exact hm j (by omega)
  exact key1 N 0 _ _ _ _ _ _ _ _ rfl (by omega) (cG_of hk hG e1 e2 e3 e4) (fun j hj => by omega) (by omega)
end ALI
section MAL
variable {N : Nat} {l : lS} {g : gS} {r : rS} {sg cl cs sd kp sn : Nat → Int32} {fc tp : Int32} {st wd : Nat → Int64}
theorem wm_areAlike {a b : Nat} {x y : Int32} {Q : Int32 → Prop} (hN : 20 ≤ N) (ha : a ≤ 60) (hb : b ≤ 60) (hx : x = jn (a : Int)) (hy : y = jn (b : Int)) (h1 : (∀ c, c < 8 → sn (8 * a + c) = sn (8 * b + c)) → Q 1) (h0 : (∃ c, c < 8 ∧ sn (8 * a + c) ≠ sn (8 * b + c)) → Q 0) : wp_X12_areAlike N sn Q x y := by
  unfold wp_X12_areAlike
  subst hx hy
  have key : ∀ (n i : Nat) (v3 : Int32), v3 = jn (i : Int) → i ≤ 8 → (∀ c, c < i → sn (8 * a + c) = sn (8 * b + c)) → 8 < n + i → wp_X12_areAlike_2 N sn Q n (jn (a : Int)) (jn (b : Int)) v3 := by
    intro n
    induction n with
    | zero => intro i v3 _ h1 _ h2; omega
    | succ n ih =>
      intro i v3 e hi ha' hn
      subst e
      unfold wp_X12_areAlike_2
      rw [li_8, jn_le (by omega) (by omega), ← li_8]
      refine ⟨fun z => h1 (fun c hc => ha' c (by omega)), fun z => ?_⟩
      rw [show (8 : Int32) * jn (a : Int) + jn (i : Int) = jn ((8 * a + i : Nat) : Int) from by (first | rfl | (simp (disch := omega) only [jn_add, jn_sub, jn_mul, jn_neg, li_0, li_1, li_2, li_3, li_4, li_5, li_6, li_7, li_8, li_9, li_10, li_11, li_12, li_13, li_14, li_15, li_16, li_17, li_18, li_20, li_24, li_29, li_30, li_31, li_32, li_37, li_39, li_40, li_42, li_43, li_45, li_46, li_47, li_48, li_53, li_57, li_59, li_60, li_61, li_62, li_63, li_80, li_81, li_91, li_93, li_97, li_100, li_122, li_200, li_255, li_256, li_257, li_258, li_259, li_260, li_300, li_314, li_400, li_580, li_999, li_5040, li_9999, li_65536, li_99999, li_7654321] <;> first | rfl | exact congrArg jn (by omega)) | exact congrArg jn (by omega)), show (8 : Int32) * jn (b : Int) + jn (i : Int) = jn ((8 * b + i : Nat) : Int) from by (first | rfl | (simp (disch := omega) only [jn_add, jn_sub, jn_mul, jn_neg, li_0, li_1, li_2, li_3, li_4, li_5, li_6, li_7, li_8, li_9, li_10, li_11, li_12, li_13, li_14, li_15, li_16, li_17, li_18, li_20, li_24, li_29, li_30, li_31, li_32, li_37, li_39, li_40, li_42, li_43, li_45, li_46, li_47, li_48, li_53, li_57, li_59, li_60, li_61, li_62, li_63, li_80, li_81, li_91, li_93, li_97, li_100, li_122, li_200, li_255, li_256, li_257, li_258, li_259, li_260, li_300, li_314, li_400, li_580, li_999, li_5040, li_9999, li_65536, li_99999, li_7654321] <;> first | rfl | exact congrArg jn (by omega)) | exact congrArg jn (by omega)), jn_cln (by omega), jn_cln (by omega)]
      refine ⟨by simp (disch := omega) only [jn_le, jn_lt, jn_eq, jn_in, jn_add, jn_sub, jn_mul, jn_neg, li_0, li_1, li_2, li_3, li_4, li_5, li_6, li_7, li_8, li_9, li_10, li_11, li_12, li_13, li_14, li_15, li_16, li_17, li_18, li_20, li_24, li_29, li_30, li_31, li_32, li_37, li_39, li_40, li_42, li_43, li_45, li_46, li_47, li_48, li_53, li_57, li_59, li_60, li_61, li_62, li_63, li_80, li_81, li_91, li_93, li_97, li_100, li_122, li_200, li_255, li_256, li_257, li_258, li_259, li_260, li_300, li_314, li_400, li_580, li_999, li_5040, li_9999, li_65536, li_99999, li_7654321] <;> omega, by simp (disch := omega) only [jn_le, jn_lt, jn_eq, jn_in, jn_add, jn_sub, jn_mul, jn_neg, li_0, li_1, li_2, li_3, li_4, li_5, li_6, li_7, li_8, li_9, li_10, li_11, li_12, li_13, li_14, li_15, li_16, li_17, li_18, li_20, li_24, li_29, li_30, li_31, li_32, li_37, li_39, li_40, li_42, li_43, li_45, li_46, li_47, li_48, li_53, li_57, li_59, li_60, li_61, li_62, li_63, li_80, li_81, li_91, li_93, li_97, li_100, li_122, li_200, li_255, li_256, li_257, li_258, li_259, li_260, li_300, li_314, li_400, li_580, li_999, li_5040, li_9999, li_65536, li_99999, li_7654321] <;> omega, fun y => ?_, fun y => h0 ⟨i, by omega, y⟩⟩
      refine ih (i + 1) _ (by (first | rfl | (simp (disch := omega) only [jn_add, jn_sub, jn_mul, jn_neg, li_0, li_1, li_2, li_3, li_4, li_5, li_6, li_7, li_8, li_9, li_10, li_11, li_12, li_13, li_14, li_15, li_16, li_17, li_18, li_20, li_24, li_29, li_30, li_31, li_32, li_37, li_39, li_40, li_42, li_43, li_45, li_46, li_47, li_48, li_53, li_57, li_59, li_60, li_61, li_62, li_63, li_80, li_81, li_91, li_93, li_97, li_100, li_122, li_200, li_255, li_256, li_257, li_258, li_259, li_260, li_300, li_314, li_400, li_580, li_999, li_5040, li_9999, li_65536, li_99999, li_7654321] <;> first | rfl | exact congrArg jn (by omega)) | exact congrArg jn (by omega))) (by omega) (fun c hc => ?_) (by omega)
      by_cases e : c = i
      · subst e; exact y
      · exact ha' c (by omega)
  exact key N 0 _ rfl (by omega) (fun c hc => by omega) (by omega)
/-- how it stood then, as the reference keeps it -/
def snI (l : lS) (r : rS) (g : gS) (sd sn : Nat → Int32) (i : Nat) : Prop := (∀ c, c < 7 → sn (8 * i + c) = if c < l_k l then jn (g_r (tI l r i g) c : Int) else sd (12 + 4 * c)) ∧ sn (8 * i + 7) = jn (onum (g_o (tI l r i g)) (l_k l) : Int)
theorem snI_eq {i j : Nat} (hl : LOk l) (hg : GOk (l_k l) g) (h : snI l r g sd sn i) (h' : snI l r g sd sn j) : (∀ c, c < 8 → sn (8 * i + c) = sn (8 * j + c)) ↔ mkA l r g i = mkA l r g j := by
  have hk := hl.2.2.1
  have g1 := tI_ok (r := r) hl (n := i) hg
  have g2 := tI_ok (r := r) hl (n := j) hg
  unfold mkA
  rw [mrk_inj (k := l_k l) (fun p hp => by have := g1.1.1 p hp; omega) (fun p hp => by have := g2.1.1 p hp; omega) g1.2.2.1 g2.2.2.1 (Nat.le_refl _)]
  have o1 := onum_bd hk g1.1
  have o2 := onum_bd hk g2.1
  constructor
  · intro q c hc
    have q7 := q 7 (by omega)
    rw [h.2, h'.2, jn_eq (by omega) (by omega)] at q7
    have qc := q c (by omega)
    have b1 := g1.2.2.1 c
    have b2 := g2.2.2.1 c
    rw [h.1 c (by omega), h'.1 c (by omega), if_pos hc, if_pos hc, jn_eq (by omega) (by omega)] at qc
    exact ⟨onum_inj (fun i hi => by have := g1.1.1 i hi; omega) (fun i hi => by have := g2.1.1 i hi; omega) (by omega) c hc, by omega⟩
  · intro q c hc
    by_cases e : c = 7
    · subst e
      rw [h.2, h'.2]
      have : ∀ n, n ≤ l_k l → onum (g_o (tI l r i g)) n = onum (g_o (tI l r j g)) n := by
        intro n
        induction n with
        | zero => intro _; rfl
        | succ n ih => intro hn; rw [onum, onum, ih (by omega), (q n (by omega)).1]
      rw [this _ (Nat.le_refl _)]
    · rw [h.1 c (by omega), h'.1 c (by omega)]
      by_cases e2 : c < l_k l
      · rw [if_pos e2, if_pos e2, (q c e2).2]
      · rw [if_neg e2, if_neg e2]
theorem wm_alike {Q : Int32 → (Nat → Int64) → Int32 → (Nat → Int64) → (Nat → Int32) → (Nat → Int32) → (Nat → Int32) → Prop} {w : Int32} (hN : 500 ≤ N) (hl : LOk l) (hg : GOk (l_k l) g) (hL : mL sd l) (hG : mG (l_k l) sd g) (ht : g_t g < 10000) (hf : ROk r) (hR : mR N sg cl cs fc r)
    (h0 : ¬ qAl l w → ∀ s t v kp sn, Q (-1) s t v sd kp sn) (h1 : qAl l w → ∀ x, aAl l r g w x → ∀ s t v kp sn, Q x s t v sd kp sn) : wp_X12_alike N sg cl cs fc Q w st tp wd sd kp sn := by
  have hk := hl.2.2.1
  have hl1 := hl.1
  obtain ⟨d, rfl, hd⟩ := jn_of w
  have qb : qAl l (jn d) ↔ l_t l = 1 ∧ 0 ≤ d ∧ d ≤ 1 := by
    unfold qAl
    rw [li_0, li_1, jn_eq hd (by omega), jn_eq hd (by omega)]
    constructor <;> intro q <;> omega
  unfold wp_X12_alike wp_X12_alike_17
  refine wm_isLane hl1 hL.1 ⟨fun z => h0 (fun q => ?_) _ _ _ _ _, fun z => ?_⟩
  · rw [li_0, jn_eq (by omega) (by omega)] at z
    have := qb.mp q; omega
  rw [li_0, jn_eq (by omega) (by omega)] at z
  refine wm_inC (b := 0) (c := 1) rfl rfl rfl hd (by decide) (by decide) (fun q2 => ⟨fun u => absurd u (by decide), fun _ => ?_⟩) (fun q2 => ⟨fun _ => h0 (fun q => by have := qb.mp q; omega) _ _ _ _ _, fun u => absurd rfl u⟩)
  have hQ := h1 (qb.mpr ⟨by omega, by omega, by omega⟩)
  refine wm_keeps (by omega) (fun kp' hkp => ?_)
  have key2 : ∀ (n i : Nat) (v2 tp : Int32) (st wd : Nat → Int64) (sn : Nat → Int32), (∀ j, j < 61 → snI l r g sd sn j) → v2 = jn (i : Int) → i ≤ 60 → (∀ i' j', i' < j' → j' ≤ 60 → i' < i → ¬ mkA l r g i' = mkA l r g j') → 60 < n + i → wp_X12_alike_94 N sg cl cs fc Q n (jn d) v2 st tp wd sd kp' sn := by
    intro n
    induction n with
    | zero => intro i v2 tp st wd sn _ _ h1 _ h2; omega
    | succ n ih =>
      intro i v2 tp st wd sn hm e hi hno hn
      subst e
      unfold wp_X12_alike_94
      rw [li_60, jn_le (by omega) (by omega)]
      refine ⟨fun z => hQ _ (Or.inr ⟨fun i' j' a1 a2 => hno i' j' a1 a2 (by omega), rfl⟩) _ _ _ _ _, fun z x13 e13 => ?_⟩
      have key3 : ∀ (n' j : Nat) (v3 : Int32), v3 = jn (j : Int) → i < j → j ≤ 61 → (∀ j', i < j' → j' < j → ¬ mkA l r g i = mkA l r g j') → 61 < n' + j → wp_X12_alike_104 N sg cl cs fc (wp_X12_alike_94 N sg cl cs fc Q n) Q n' (jn d) (jn (i : Int)) v3 st tp wd sd kp' sn := by
        intro n'
        induction n' with
        | zero => intro j v3 _ _ h1 _ h2; omega
        | succ n' ih2 =>
          intro j v3 e hij hj hno2 hn'
          subst e
          unfold wp_X12_alike_104 wp_X12_alike_138
          rw [li_60, jn_lt (by omega) (by omega)]
          refine ⟨fun y => ?_, fun y => ?_⟩
          · refine ih (i + 1) _ _ _ _ _ hm (by (first | rfl | (simp (disch := omega) only [jn_add, jn_sub, jn_mul, jn_neg, li_0, li_1, li_2, li_3, li_4, li_5, li_6, li_7, li_8, li_9, li_10, li_11, li_12, li_13, li_14, li_15, li_16, li_17, li_18, li_20, li_24, li_29, li_30, li_31, li_32, li_37, li_39, li_40, li_42, li_43, li_45, li_46, li_47, li_48, li_53, li_57, li_59, li_60, li_61, li_62, li_63, li_80, li_81, li_91, li_93, li_97, li_100, li_122, li_200, li_255, li_256, li_257, li_258, li_259, li_260, li_300, li_314, li_400, li_580, li_999, li_5040, li_9999, li_65536, li_99999, li_7654321] <;> first | rfl | exact congrArg jn (by omega)) | exact congrArg jn (by omega))) (by omega) (fun i' j' a1 a2 a3 => ?_) (by omega)
            by_cases e : i' = i
            · subst e; exact hno2 j' a1 (by omega)
            · exact hno i' j' a1 a2 (by omega)
          · have hse := snI_eq hl hg (hm i (by omega)) (hm j (by omega))
            refine wm_areAlike (by omega) (by omega) (by omega) rfl rfl (fun x => ⟨fun u => absurd u (by decide), fun _ => ?_⟩) (fun x => ⟨fun _ => ?_, fun u => absurd rfl u⟩)
            · have hf : fP (fun i j => mkA l r g i = mkA l r g j) i j := ⟨by omega, hij, by omega, hse.mp x, fun i' j' a1 a2 a3 => by
                rcases a3 with a3 | ⟨rfl, a3⟩
                · exact hno i' j' a1 a2 a3
                · exact hno2 j' a1 a3⟩
              refine ⟨fun u => ⟨by unfold vp_in; decide, ?_⟩, fun u => ?_⟩
              · have := hQ _ (Or.inl ⟨i, j, hf, (if_pos u).symm⟩)
                rw [show (10 : Int32).toNatClampNeg = 10 from rfl, hG.1, show jn (g_t g : Int) + jn (i : Int) = jn ((g_t g + i : Nat) : Int) from by (first | rfl | (simp (disch := omega) only [jn_add, jn_sub, jn_mul, jn_neg, li_0, li_1, li_2, li_3, li_4, li_5, li_6, li_7, li_8, li_9, li_10, li_11, li_12, li_13, li_14, li_15, li_16, li_17, li_18, li_20, li_24, li_29, li_30, li_31, li_32, li_37, li_39, li_40, li_42, li_43, li_45, li_46, li_47, li_48, li_53, li_57, li_59, li_60, li_61, li_62, li_63, li_80, li_81, li_91, li_93, li_97, li_100, li_122, li_200, li_255, li_256, li_257, li_258, li_259, li_260, li_300, li_314, li_400, li_580, li_999, li_5040, li_9999, li_65536, li_99999, li_7654321] <;> first | rfl | exact congrArg jn (by omega)) | exact congrArg jn (by omega))]
                exact this _ _ _ _ _
              · have := hQ _ (Or.inl ⟨i, j, hf, (if_neg u).symm⟩)
                rw [show jn (j : Int) - jn (i : Int) = jn ((j - i : Nat) : Int) from by rw [jn_sub]; exact congrArg jn (by omega)]
                exact this _ _ _ _ _
            · have hx : ¬ mkA l r g i = mkA l r g j := fun q => by
                obtain ⟨c, c1, c2⟩ := x
                exact c2 (hse.mpr q c c1)
              refine ih2 (j + 1) _ (by (first | rfl | (simp (disch := omega) only [jn_add, jn_sub, jn_mul, jn_neg, li_0, li_1, li_2, li_3, li_4, li_5, li_6, li_7, li_8, li_9, li_10, li_11, li_12, li_13, li_14, li_15, li_16, li_17, li_18, li_20, li_24, li_29, li_30, li_31, li_32, li_37, li_39, li_40, li_42, li_43, li_45, li_46, li_47, li_48, li_53, li_57, li_59, li_60, li_61, li_62, li_63, li_80, li_81, li_91, li_93, li_97, li_100, li_122, li_200, li_255, li_256, li_257, li_258, li_259, li_260, li_300, li_314, li_400, li_580, li_999, li_5040, li_9999, li_65536, li_99999, li_7654321] <;> first | rfl | exact congrArg jn (by omega)) | exact congrArg jn (by omega))) (by omega) (by omega) (fun j' a1 a2 => ?_) (by omega)
              by_cases e : j' = j
              · subst e; exact hx
              · exact hno2 j' a1 (by omega)
      exact key3 N (i + 1) _ (by rw [e13]; exact by (first | rfl | (simp (disch := omega) only [jn_add, jn_sub, jn_mul, jn_neg, li_0, li_1, li_2, li_3, li_4, li_5, li_6, li_7, li_8, li_9, li_10, li_11, li_12, li_13, li_14, li_15, li_16, li_17, li_18, li_20, li_24, li_29, li_30, li_31, li_32, li_37, li_39, li_40, li_42, li_43, li_45, li_46, li_47, li_48, li_53, li_57, li_59, li_60, li_61, li_62, li_63, li_80, li_81, li_91, li_93, li_97, li_100, li_122, li_200, li_255, li_256, li_257, li_258, li_259, li_260, li_300, li_314, li_400, li_580, li_999, li_5040, li_9999, li_65536, li_99999, li_7654321] <;> first | rfl | exact congrArg jn (by omega)) | exact congrArg jn (by omega))) (by omega) (by omega) (fun j' a1 a2 => by omega) (by omega)
  have key1 : ∀ (n i : Nat) (v2 tp : Int32) (st wd : Nat → Int64) (sd' sn : Nat → Int32), v2 = jn (i : Int) → i ≤ 61 → mG (l_k l) sd' (tI l r i g) → mF (l_k l) sd sd' → (∀ j, j < i → snI l r g sd sn j) → 61 < n + i → wp_X12_alike_25 N sg cl cs fc Q n (jn d) v2 st tp wd sd' kp' sn := by
    intro n
    induction n with
    | zero => intro i v2 tp st wd sd' sn _ h1 _ _ _ h2; omega
    | succ n ih =>
      intro i v2 tp st wd sd' sn e hi hG' hF' hm hn
      subst e
      unfold wp_X12_alike_25
      have hgi := tI_ok (r := r) hl (n := i) hg
      have hti := tI_t (l := l) (r := r) (n := i) (g := g)
      have hL' := mF_L hl hF' hL
      rw [li_60, jn_lt (by omega) (by omega)]
      refine ⟨fun z => wm_back (by omega) hkp (mF_7 hk hF') (key2 N 0 _ _ _ _ _ (fun j hj => hm j (by omega)) rfl (by omega) (fun i' j' _ _ q => by omega) (by omega)), fun z => ?_⟩
      have key4 : ∀ (n' c : Nat) (v3 : Int32) (sn : Nat → Int32), v3 = jn (c : Int) → c ≤ 7 → (∀ j, j < i → snI l r g sd sn j) → (∀ e, e < c → sn (8 * i + e) = if e < l_k l then jn (g_r (tI l r i g) e : Int) else sd (12 + 4 * e)) → 7 < n' + c → wp_X12_alike_33 N sg cl cs fc (wp_X12_alike_25 N sg cl cs fc Q n) Q n' (jn d) (jn (i : Int)) v3 st tp wd sd' kp' sn := by
        intro n'
        induction n' with
        | zero => intro c v3 sn _ h1 _ _ h2; omega
        | succ n' ih2 =>
          intro c v3 sn e hc hm hp hn'
          subst e
          unfold wp_X12_alike_33
          rw [li_7, jn_le (by omega) (by omega), ← li_7]
          refine ⟨fun y => ?_, fun y => ?_⟩
          · have e : c = 7 := by omega
            subst e
            rw [show (8 : Int32) * jn (i : Int) + 7 = jn ((8 * i + 7 : Nat) : Int) from by (first | rfl | (simp (disch := omega) only [jn_add, jn_sub, jn_mul, jn_neg, li_0, li_1, li_2, li_3, li_4, li_5, li_6, li_7, li_8, li_9, li_10, li_11, li_12, li_13, li_14, li_15, li_16, li_17, li_18, li_20, li_24, li_29, li_30, li_31, li_32, li_37, li_39, li_40, li_42, li_43, li_45, li_46, li_47, li_48, li_53, li_57, li_59, li_60, li_61, li_62, li_63, li_80, li_81, li_91, li_93, li_97, li_100, li_122, li_200, li_255, li_256, li_257, li_258, li_259, li_260, li_300, li_314, li_400, li_580, li_999, li_5040, li_9999, li_65536, li_99999, li_7654321] <;> first | rfl | exact congrArg jn (by omega)) | exact congrArg jn (by omega)), jn_cln (by omega)]
            refine wm_orderNow (by omega) hl hgi hL' hG' ⟨by simp (disch := omega) only [jn_le, jn_lt, jn_eq, jn_in, jn_add, jn_sub, jn_mul, jn_neg, li_0, li_1, li_2, li_3, li_4, li_5, li_6, li_7, li_8, li_9, li_10, li_11, li_12, li_13, li_14, li_15, li_16, li_17, li_18, li_20, li_24, li_29, li_30, li_31, li_32, li_37, li_39, li_40, li_42, li_43, li_45, li_46, li_47, li_48, li_53, li_57, li_59, li_60, li_61, li_62, li_63, li_80, li_81, li_91, li_93, li_97, li_100, li_122, li_200, li_255, li_256, li_257, li_258, li_259, li_260, li_300, li_314, li_400, li_580, li_999, li_5040, li_9999, li_65536, li_99999, li_7654321] <;> omega, fun a7 e7 => ?_⟩
            refine wm_passes (by omega) hl hgi hL' hG' (by omega) hf hR (fun s t v sd2 a1 a2 => ?_)
            rw [← tI_add] at a1
            refine ih (i + 1) _ _ _ _ _ _ (by (first | rfl | (simp (disch := omega) only [jn_add, jn_sub, jn_mul, jn_neg, li_0, li_1, li_2, li_3, li_4, li_5, li_6, li_7, li_8, li_9, li_10, li_11, li_12, li_13, li_14, li_15, li_16, li_17, li_18, li_20, li_24, li_29, li_30, li_31, li_32, li_37, li_39, li_40, li_42, li_43, li_45, li_46, li_47, li_48, li_53, li_57, li_59, li_60, li_61, li_62, li_63, li_80, li_81, li_91, li_93, li_97, li_100, li_122, li_200, li_255, li_256, li_257, li_258, li_259, li_260, li_300, li_314, li_400, li_580, li_999, li_5040, li_9999, li_65536, li_99999, li_7654321] <;> first | rfl | exact congrArg jn (by omega)) | exact congrArg jn (by omega))) (by omega) a1 (mF_trans hF' a2) (fun j hj => ?_) (by omega)
            by_cases e : j = i
            · subst e
              refine ⟨fun c hc => ?_, ?_⟩
              · rw [e7, upd_ne (by omega)]; exact hp c hc
              · rw [e7, upd_at]
            · have := hm j (by omega)
              refine ⟨fun c hc => ?_, ?_⟩
              · rw [e7, upd_ne (by omega)]; exact this.1 c hc
              · rw [e7, upd_ne (by omega)]; exact this.2
          · rw [show (8 : Int32) * jn (i : Int) + jn (c : Int) = jn ((8 * i + c : Nat) : Int) from by (first | rfl | (simp (disch := omega) only [jn_add, jn_sub, jn_mul, jn_neg, li_0, li_1, li_2, li_3, li_4, li_5, li_6, li_7, li_8, li_9, li_10, li_11, li_12, li_13, li_14, li_15, li_16, li_17, li_18, li_20, li_24, li_29, li_30, li_31, li_32, li_37, li_39, li_40, li_42, li_43, li_45, li_46, li_47, li_48, li_53, li_57, li_59, li_60, li_61, li_62, li_63, li_80, li_81, li_91, li_93, li_97, li_100, li_122, li_200, li_255, li_256, li_257, li_258, li_259, li_260, li_300, li_314, li_400, li_580, li_999, li_5040, li_9999, li_65536, li_99999, li_7654321] <;> first | rfl | exact congrArg jn (by omega)) | exact congrArg jn (by omega)), jn_cln (by omega)]
            refine wm_breathOf rfl (by omega) ⟨by simp (disch := omega) only [jn_le, jn_lt, jn_eq, jn_in, jn_add, jn_sub, jn_mul, jn_neg, li_0, li_1, li_2, li_3, li_4, li_5, li_6, li_7, li_8, li_9, li_10, li_11, li_12, li_13, li_14, li_15, li_16, li_17, li_18, li_20, li_24, li_29, li_30, li_31, li_32, li_37, li_39, li_40, li_42, li_43, li_45, li_46, li_47, li_48, li_53, li_57, li_59, li_60, li_61, li_62, li_63, li_80, li_81, li_91, li_93, li_97, li_100, li_122, li_200, li_255, li_256, li_257, li_258, li_259, li_260, li_300, li_314, li_400, li_580, li_999, li_5040, li_9999, li_65536, li_99999, li_7654321] <;> omega, fun a14 e14 => ?_⟩
            refine ih2 (c + 1) _ _ (by (first | rfl | (simp (disch := omega) only [jn_add, jn_sub, jn_mul, jn_neg, li_0, li_1, li_2, li_3, li_4, li_5, li_6, li_7, li_8, li_9, li_10, li_11, li_12, li_13, li_14, li_15, li_16, li_17, li_18, li_20, li_24, li_29, li_30, li_31, li_32, li_37, li_39, li_40, li_42, li_43, li_45, li_46, li_47, li_48, li_53, li_57, li_59, li_60, li_61, li_62, li_63, li_80, li_81, li_91, li_93, li_97, li_100, li_122, li_200, li_255, li_256, li_257, li_258, li_259, li_260, li_300, li_314, li_400, li_580, li_999, li_5040, li_9999, li_65536, li_99999, li_7654321] <;> first | rfl | exact congrArg jn (by omega)) | exact congrArg jn (by omega))) (by omega) (fun j hj => ?_) (fun e he => ?_) (by omega)
            · have := hm j (by omega)
              refine ⟨fun c hc => ?_, ?_⟩
              · rw [e14, upd_ne (by omega)]; exact this.1 c hc
              · rw [e14, upd_ne (by omega)]; exact this.2
            · by_cases q : e = c
              · subst q
                rw [e14, upd_at]
                by_cases q2 : e < l_k l
                · rw [if_pos q2]; exact hG'.2.2.1 e q2
                · rw [if_neg q2]; exact hF' _ (by omega)
              · rw [e14, upd_ne (by omega)]; exact hp e (by omega)
      exact key4 N 0 _ sn rfl (by omega) hm (fun e he => by omega) (by omega)
  exact key1 N 0 _ _ _ _ _ _ rfl (by omega) hG mF_refl (fun j hj => by omega) (by omega)
end MAL
