/-! turns one after another -/
def tI (l : lS) (r : rS) : Nat → gS → gS
  | 0, g => g
  | n + 1, g => tI l r n (tS l r g)
theorem tS_t {l : lS} {r : rS} {g : gS} : g_t (tS l r g) = g_t g + 1 := by
  unfold tS tB
  cases tW l r g <;> rfl
theorem tI_ok {l : lS} {r : rS} (hl : LOk l) : ∀ {n : Nat} {g : gS}, GOk (l_k l) g → GOk (l_k l) (tI l r n g)
  | 0, _, h => h
  | n + 1, _, h => tI_ok hl (n := n) (tS_ok hl h)
theorem tI_t {l : lS} {r : rS} : ∀ {n : Nat} {g : gS}, g_t (tI l r n g) = g_t g + n
  | 0, _ => rfl
  | n + 1, g => by rw [tI, tI_t (n := n), tS_t]; omega
theorem wm_passesAll {N n : Nat} {l : lS} {g : gS} {r : rS} {sg cl cs sd : Nat → Int32} {fc x : Int32} {Q : (Nat → Int64) → Int32 → (Nat → Int64) → (Nat → Int32) → Prop} {st wd : Nat → Int64} {tp : Int32} (hN : 500 ≤ N) (hn : n ≤ 400) (hx : x = jn n) (hl : LOk l) (hg : GOk (l_k l) g) (hL : mL sd l) (hG : mG (l_k l) sd g) (ht : g_t g + n < 1000000) (hf : ROk r) (hR : mR N sg cl cs fc r) (h : ∀ s t w sd', mG (l_k l) sd' (tI l r n g) → mF (l_k l) sd sd' → Q s t w sd') : wp_X12_passesAll N sg cl cs fc Q x st tp wd sd := by
  unfold wp_X12_passesAll
  subst hx
  have key : ∀ (k i : Nat) (g' : gS) (v2 tp : Int32) (st wd : Nat → Int64) (sd' : Nat → Int32), v2 = jn i → i ≤ n → GOk (l_k l) g' → mG (l_k l) sd' g' → mF (l_k l) sd sd' → g_t g' = g_t g + i → tI l r (n - i) g' = tI l r n g → n < k + i → wp_X12_passesAll_2 N sg cl cs fc Q k (jn n) v2 st tp wd sd' := by
    intro k
    induction k with
    | zero => intro i g' v2 tp st wd sd' _ h1 _ _ _ _ _ h2; omega
    | succ k ih =>
      intro i g' v2 tp st wd sd' e2 hi hg' hG' hF' ht' hI hk
      unfold wp_X12_passesAll_2
      subst e2
      rw [jn_le (by omega) (by omega)]
      refine ⟨fun z => ?_, fun z => ?_⟩
      · have e : i = n := by omega
        subst e
        rw [Nat.sub_self] at hI
        refine h st tp wd sd' ?_ hF'
        rw [← hI]; exact hG'
      · refine wm_passes (by omega) hl hg' (mF_L hl hF' hL) hG' (by omega) hf hR (fun s t w sd2 a1 a2 => ?_)
        refine ih (i + 1) (tS l r g') _ _ _ _ _ (by (first | rfl | (simp (disch := omega) only [jn_add, jn_sub, jn_mul, jn_neg, li_0, li_1, li_2, li_3, li_4, li_5, li_6, li_7, li_8, li_9, li_10, li_11, li_12, li_13, li_14, li_15, li_16, li_17, li_18, li_20, li_24, li_29, li_30, li_31, li_32, li_37, li_39, li_40, li_42, li_43, li_45, li_46, li_47, li_48, li_53, li_57, li_59, li_60, li_61, li_62, li_63, li_80, li_81, li_91, li_93, li_97, li_100, li_122, li_200, li_255, li_256, li_257, li_258, li_259, li_260, li_300, li_314, li_400, li_580, li_999, li_5040, li_9999, li_65536, li_99999, li_7654321] <;> first | rfl | exact congrArg jn (by omega)) | exact congrArg jn (by omega))) (by omega) (tS_ok hl hg') a1 (mF_trans hF' a2) (by rw [tS_t]; omega) ?_ (by omega)
        rw [← hI, show n - i = (n - (i + 1)) + 1 by omega]; rfl
  exact key N 0 g _ _ _ _ _ rfl (by omega) hg hG mF_refl rfl rfl (by omega)
