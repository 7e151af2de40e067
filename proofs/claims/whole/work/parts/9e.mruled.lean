/-! ruled, look: the reference -/
/-- no rule, or the rule ahead -/
def rO (R : Nat → (Nat → Int64) → Int64) : Nat → rS
  | 0 => none
  | i + 1 => some (R i)
def cA (P : Nat → Bool) (F : Nat → Int) (M a : Nat) : Nat := cnt (fun b => P b && decide (F a = F b)) M
def mA (P : Nat → Bool) (F : Nat → Int) (M : Nat) : Nat → Nat
  | 0 => 0
  | a + 1 => if P a = true then max (mA P F M a) (cA P F M a) else mA P F M a
theorem cA_le {P : Nat → Bool} {F : Nat → Int} {M a : Nat} : cA P F M a ≤ M := cnt_le
theorem mA_le {P : Nat → Bool} {F : Nat → Int} {M : Nat} : ∀ {a : Nat}, mA P F M a ≤ M
  | 0 => Nat.zero_le _
  | a + 1 => by
    have := mA_le (P := P) (F := F) (M := M) (a := a)
    have := cA_le (P := P) (F := F) (M := M) (a := a)
    unfold mA
    split <;> omega
theorem cnt_pos {f : Nat → Bool} {j : Nat} (h : f j = true) : ∀ {n : Nat}, j < n → 0 < cnt f n
  | n + 1, hj => by
    rw [cnt_succ]
    by_cases e : j = n
    · subst e; rw [if_pos h]; omega
    · have := cnt_pos h (n := n) (by omega); omega
theorem cnt_zero {f : Nat → Bool} : ∀ {n : Nat}, cnt f n = 0 → ∀ j, j < n → f j = false
  | 0, _, j, hj => absurd hj (by omega)
  | n + 1, h, j, hj => by
    rw [cnt_succ] at h
    by_cases e : j = n
    · subst e
      cases hf : f j with
      | false => rfl
      | true => rw [if_pos hf] at h; omega
    · exact cnt_zero (n := n) (by omega) j (by omega)
theorem mA_ge {P : Nat → Bool} {F : Nat → Int} {M a : Nat} (hp : P a = true) : ∀ {n : Nat}, a < n → cA P F M a ≤ mA P F M n
  | n + 1, h => by
    unfold mA
    by_cases e : a = n
    · subst e; rw [if_pos hp]; omega
    · have := mA_ge (F := F) (M := M) hp (n := n) (by omega)
      split <;> omega
theorem mA_pos {P : Nat → Bool} {F : Nat → Int} {M a : Nat} (hp : P a = true) (ha : a < M) : 0 < mA P F M M := by
  have h1 := mA_ge (F := F) (M := M) hp ha
  have h2 : 0 < cA P F M a := cnt_pos (j := a) (by rw [hp, decide_eq_true rfl]; rfl) ha
  omega
theorem mA_zero {P : Nat → Bool} {F : Nat → Int} {M : Nat} (h : ∀ j, j < M → P j = false) : ∀ {n : Nat}, n ≤ M → mA P F M n = 0
  | 0, _ => rfl
  | n + 1, hn => by
    unfold mA
    rw [if_neg (by rw [h n (by omega)]; decide)]
    exact mA_zero h (by omega)
def bmn (V : Nat → Nat) : Nat → Nat
  | 0 => 0
  | n + 1 => if V (n + 1) < V (bmn V n) then n + 1 else bmn V n
theorem bmn_le {V : Nat → Nat} : ∀ {n : Nat}, bmn V n ≤ n
  | 0 => Nat.le_refl _
  | n + 1 => by
    have := bmn_le (V := V) (n := n)
    unfold bmn
    split <;> omega
def vA (P : Nat → Bool) (F : Nat → Nat → Int) (M n : Nat) : Nat := mA P (fun b => F b n) M M
def aRu (P : Nat → Bool) (M : Nat) (w : Int32) : Int32 := if w = 0 then jn (cnt P M : Int) else jn (fr P M - 1)
def aLk (k : Nat) (P : Nat → Bool) (F : Nat → Nat → Int) (M : Nat) (w : Int32) : Int32 := if k = 0 ∨ cnt P M = 0 then -2 else if w = 0 then jn (bmn (vA P F M) 60 : Int) else jn (vA P F M (bmn (vA P F M) 60) : Int)
section MRU
variable {N rm : Nat} {l : lS} {g : gS} {v : nS} {R : Nat → (Nat → Int64) → Int64} {sg cl cs sd kp ft' fn : Nat → Int32} {fc tp ru : Int32} {st wd : Nat → Int64}
theorem wm_fillsFits {Q : (Nat → Int64) → Int32 → (Nat → Int64) → (Nat → Int32) → Int32 → (Nat → Int32) → (Nat → Int32) → (Nat → Int32) → Prop} (hN : 500 ≤ N) (hl : LOk l) (hv : NOk v) (hL : mL sd l) (hM : mN sd v) (hrm : rm ≤ 6) (hru : ru = jn (rm : Int)) (hf : ∀ i, i ≤ rm → ROk (rO R i)) (hR : ∀ i : Nat, i ≤ rm → mR N sg cl cs (jn ((i : Int) - 1)) (rO R i))
    (h : ∀ s t w kp ft' fn, (∀ i, i ≤ rm → ft' i = if nh l (rO R i) v = true then 1 else 0) → (∀ i n, i ≤ rm → n < 61 → fn (61 * i + n) = jn (ft l (rO R i) n)) → Q s t w sd fc kp ft' fn) : wp_X12_fillsFits N ru sg cl cs Q st tp wd sd fc kp ft' fn := by
  have hk := hl.2.2.1
  unfold wp_X12_fillsFits
  refine wm_keeps (by omega) (fun kp' hkp => ?_)
  subst hru
  have key : ∀ (k i : Nat) (v2 f' tp : Int32) (st wd : Nat → Int64) (sd' ft' fn : Nat → Int32), v2 = jn (i : Int) → i ≤ rm + 1 → mF 7 sd sd' → (∀ j, j < i → ft' j = if nh l (rO R j) v = true then 1 else 0) → (∀ j n, j < i → n < 61 → fn (61 * j + n) = jn (ft l (rO R j) n)) → rm + 1 < k + i → wp_X12_fillsFits_11 N (jn (rm : Int)) sg cl cs Q k fc v2 st tp wd sd' f' kp' ft' fn := by
    intro k
    induction k with
    | zero => intro i v2 f' tp st wd sd' ft' fn _ h1 _ _ _ h2; omega
    | succ k ih =>
      intro i v2 f' tp st wd sd' ft' fn e hi hF h3 h4 hk'
      subst e
      unfold wp_X12_fillsFits_11
      rw [jn_lt (by omega) (by omega)]
      refine ⟨fun z => wm_back (by omega) hkp hF (h _ _ _ _ _ _ (fun j hj => h3 j (by omega)) (fun j n hj hn => h4 j n (by omega) hn)), fun z => ?_⟩
      have mL7 : ∀ sd', mF 7 sd sd' → mL sd' l := by
        intro sd' hF'
        obtain ⟨q1, q2, q3, q4, q5, q6⟩ := hL
        refine ⟨?_, ?_, ?_, fun c hc => ?_, fun c hc => ?_, fun c hc => ?_⟩
        · rw [hF' 0 (by omega)]; exact q1
        · rw [hF' 1 (by omega)]; exact q2
        · rw [hF' 2 (by omega)]; exact q3
        · rw [hF' _ (by omega)]; exact q4 c hc
        · rw [hF' _ (by omega)]; exact q5 c hc
        · rw [hF' _ (by omega)]; exact q6 c hc
      refine wm_begins (by omega) hl (mL7 sd' hF) (fun sd3 a1 a2 => ?_)
      have hF3 : mF 7 sd sd3 := mF_trans hF a2
      rw [show jn (i : Int) - 1 = jn ((i : Int) - 1) from by (first | rfl | (simp (disch := omega) only [jn_add, jn_sub, jn_mul, jn_neg, li_0, li_1, li_2, li_3, li_4, li_5, li_6, li_7, li_8, li_9, li_10, li_11, li_12, li_13, li_14, li_15, li_16, li_17, li_18, li_20, li_24, li_29, li_30, li_31, li_32, li_37, li_39, li_40, li_42, li_43, li_45, li_46, li_47, li_48, li_53, li_57, li_59, li_60, li_61, li_62, li_63, li_80, li_81, li_91, li_93, li_97, li_100, li_122, li_200, li_255, li_256, li_257, li_258, li_259, li_260, li_300, li_314, li_400, li_580, li_999, li_5040, li_9999, li_65536, li_99999, li_7654321] <;> first | rfl | exact congrArg jn (by omega)) | exact congrArg jn (by omega))]
      refine wm_allSo (rr := i) (r := rO R i) hN hl hv (mL7 sd3 hF3) a1 (mN_7 hv hF3 hM) (hf i (by omega)) (hR i (by omega)) (by omega) rfl (fun s t w sd4 fn2 b1 b2 b3 => ⟨by simp (disch := omega) only [jn_le, jn_lt, jn_eq, jn_in, jn_add, jn_sub, jn_mul, jn_neg, li_0, li_1, li_2, li_3, li_4, li_5, li_6, li_7, li_8, li_9, li_10, li_11, li_12, li_13, li_14, li_15, li_16, li_17, li_18, li_20, li_24, li_29, li_30, li_31, li_32, li_37, li_39, li_40, li_42, li_43, li_45, li_46, li_47, li_48, li_53, li_57, li_59, li_60, li_61, li_62, li_63, li_80, li_81, li_91, li_93, li_97, li_100, li_122, li_200, li_255, li_256, li_257, li_258, li_259, li_260, li_300, li_314, li_400, li_580, li_999, li_5040, li_9999, li_65536, li_99999, li_7654321] <;> omega, fun a10 e10 => ?_⟩)
      rw [jn_cln (by omega)] at e10
      refine ih (i + 1) _ _ _ _ _ _ _ _ (by (first | rfl | (simp (disch := omega) only [jn_add, jn_sub, jn_mul, jn_neg, li_0, li_1, li_2, li_3, li_4, li_5, li_6, li_7, li_8, li_9, li_10, li_11, li_12, li_13, li_14, li_15, li_16, li_17, li_18, li_20, li_24, li_29, li_30, li_31, li_32, li_37, li_39, li_40, li_42, li_43, li_45, li_46, li_47, li_48, li_53, li_57, li_59, li_60, li_61, li_62, li_63, li_80, li_81, li_91, li_93, li_97, li_100, li_122, li_200, li_255, li_256, li_257, li_258, li_259, li_260, li_300, li_314, li_400, li_580, li_999, li_5040, li_9999, li_65536, li_99999, li_7654321] <;> first | rfl | exact congrArg jn (by omega)) | exact congrArg jn (by omega))) (by omega) (mF_trans hF3 b1) (fun j hj => ?_) (fun j n hj hn => ?_) (by omega)
      · by_cases e : j = i
        · subst e
          rw [e10, upd_at]
          by_cases q : nh l (rO R j) v = true
          · rw [if_pos q]; rfl
          · rw [if_neg q]; rfl
        · rw [e10, upd_ne e]; exact h3 j (by omega)
      · by_cases e : j = i
        · subst e; exact b2 n hn
        · rw [b3 _ (by omega)]; exact h4 j n (by omega) hn
  exact key N 0 _ _ _ _ _ _ _ _ rfl (by omega) (fun _ _ => rfl) (fun j hj => by omega) (fun j n hj => by omega) (by omega)
theorem wm_ruled {Q : Int32 → (Nat → Int64) → Int32 → (Nat → Int64) → (Nat → Int32) → Int32 → (Nat → Int32) → (Nat → Int32) → (Nat → Int32) → Prop} {w : Int32} (hN : 500 ≤ N) (hl : LOk l) (hv : NOk v) (hL : mL sd l) (hM : mN sd v) (hrm : rm ≤ 6) (hru : ru = jn (rm : Int)) (hf : ∀ i, i ≤ rm → ROk (rO R i)) (hR : ∀ i : Nat, i ≤ rm → mR N sg cl cs (jn ((i : Int) - 1)) (rO R i))
    (h0 : ¬ qAl l w → ∀ s t u kp ft' fn, Q (-3) s t u sd fc kp ft' fn) (h1 : qAl l w → ∀ s t u kp ft' fn, Q (aRu (fun i => nh l (rO R i) v) (rm + 1) w) s t u sd fc kp ft' fn) : wp_X12_ruled N ru sg cl cs Q w st tp wd sd fc kp ft' fn := by
  have hk := hl.2.2.1
  have hl1 := hl.1
  obtain ⟨d, rfl, hd⟩ := jn_of w
  have qb : qAl l (jn d) ↔ l_t l = 1 ∧ 0 ≤ d ∧ d ≤ 1 := by
    unfold qAl
    rw [li_0, li_1, jn_eq hd (by omega), jn_eq hd (by omega)]
    constructor <;> intro q <;> omega
  unfold wp_X12_ruled wp_X12_ruled_17
  refine wm_isLane hl1 hL.1 ⟨fun z => h0 (fun q => ?_) _ _ _ _ _ _, fun z => ?_⟩
  · rw [li_0, jn_eq (by omega) (by omega)] at z
    have := qb.mp q; omega
  rw [li_0, jn_eq (by omega) (by omega)] at z
  refine wm_inC (b := 0) (c := 1) rfl rfl rfl hd (by decide) (by decide) (fun q2 => ⟨fun u => absurd u (by decide), fun _ => ?_⟩) (fun q2 => ⟨fun _ => h0 (fun q => by have := qb.mp q; omega) _ _ _ _ _ _, fun u => absurd rfl u⟩)
  have hQ := h1 (qb.mpr ⟨by omega, by omega, by omega⟩)
  refine wm_fillsFits hN hl hv hL hM hrm hru hf hR (fun s t u kp ft' fn b1 b2 => ?_)
  subst hru
  have hcl := cnt_le (f := fun i => nh l (rO R i) v) (n := rm + 1)
  have key : ∀ (k i : Nat) (v2 v3 v4 : Int32) (bg : Int), v4 = jn ((i : Int) - 1) → i ≤ rm + 1 → v2 = jn ((cnt (fun i => nh l (rO R i) v) (rm + 1) : Int) - (cnt (fun i => nh l (rO R i) v) i : Int)) → v3 = jn (bg - 1) → DnI (fun i => nh l (rO R i) v) (rm + 1) i bg → i < k → wp_X12_ruled_35 N (jn (rm : Int)) sg cl cs Q k (jn d) v2 v3 v4 s t u sd fc kp ft' fn := by
    intro k
    induction k with
    | zero => intro i v2 v3 v4 bg _ _ _ _ _ h2; omega
    | succ k ih =>
      intro i v2 v3 v4 bg e4 hi e2 e3 hD hk'
      subst e4
      unfold wp_X12_ruled_35 wp_X12_ruled_76 wp_X12_ruled_61
      rw [show (jn ((i : Int) - 1) < 0) = (i = 0) from by rw [li_0, jn_lt (by omega) (by omega)]; exact propext ⟨fun q => by omega, fun q => by omega⟩]
      refine ⟨fun z => ?_, fun z => ?_⟩
      · subst z
        have hfe := DnI_end hD
        unfold aRu at hQ
        rw [← hfe] at hQ
        refine ⟨fun y => ?_, fun y => ?_⟩
        · rw [if_pos y] at hQ
          rw [e2, show ((cnt (fun i => nh l (rO R i) v) (rm + 1) : Int) - (cnt (fun i => nh l (rO R i) v) 0 : Int)) = (cnt (fun i => nh l (rO R i) v) (rm + 1) : Int) from by show (cnt (fun i => nh l (rO R i) v) (rm + 1) : Int) - ((0 : Nat) : Int) = _; omega]
          exact hQ _ _ _ _ _ _
        · rw [if_neg y] at hQ; rw [e3]; exact hQ _ _ _ _ _ _
      · obtain ⟨i, rfl⟩ : ∃ i', i = i' + 1 := ⟨i - 1, by omega⟩
        rw [show jn (((i + 1 : Nat) : Int) - 1) = jn (i : Int) from congrArg jn (by omega), jn_cln (by omega), b1 i (by omega)]
        have st7 : jn (i : Int) + (-1) = jn ((i : Int) - 1) := by
          rw [show (-1 : Int32) = jn (-1) from rfl, jn_add]; exact congrArg jn (by omega)
        have hcs := cnt_succ (f := fun i => nh l (rO R i) v) (n := i)
        refine ⟨by simp (disch := omega) only [jn_le, jn_lt, jn_eq, jn_in, jn_add, jn_sub, jn_mul, jn_neg, li_0, li_1, li_2, li_3, li_4, li_5, li_6, li_7, li_8, li_9, li_10, li_11, li_12, li_13, li_14, li_15, li_16, li_17, li_18, li_20, li_24, li_29, li_30, li_31, li_32, li_37, li_39, li_40, li_42, li_43, li_45, li_46, li_47, li_48, li_53, li_57, li_59, li_60, li_61, li_62, li_63, li_80, li_81, li_91, li_93, li_97, li_100, li_122, li_200, li_255, li_256, li_257, li_258, li_259, li_260, li_300, li_314, li_400, li_580, li_999, li_5040, li_9999, li_65536, li_99999, li_7654321] <;> omega, fun y => ?_, fun y x11 e11 => ?_⟩
        · have hq : nh l (rO R i) v = false := by
            cases hq : nh l (rO R i) v with
            | false => rfl
            | true => rw [if_pos hq] at y; exact absurd y (by decide)
          rw [if_neg (by rw [hq]; decide)] at hcs
          exact ih i _ _ _ bg st7 (by omega) (by rw [e2, hcs]; rfl) e3 (DnI_f hD hq) (by omega)
        · have hq : nh l (rO R i) v = true := by
            cases hq : nh l (rO R i) v with
            | true => rfl
            | false => rw [if_neg (by rw [hq]; decide)] at y; exact absurd rfl y
          rw [if_pos hq] at hcs
          refine ih i _ _ _ (i : Int) st7 (by omega) ?_ (by rw [e11]; exact by (first | rfl | (simp (disch := omega) only [jn_add, jn_sub, jn_mul, jn_neg, li_0, li_1, li_2, li_3, li_4, li_5, li_6, li_7, li_8, li_9, li_10, li_11, li_12, li_13, li_14, li_15, li_16, li_17, li_18, li_20, li_24, li_29, li_30, li_31, li_32, li_37, li_39, li_40, li_42, li_43, li_45, li_46, li_47, li_48, li_53, li_57, li_59, li_60, li_61, li_62, li_63, li_80, li_81, li_91, li_93, li_97, li_100, li_122, li_200, li_255, li_256, li_257, li_258, li_259, li_260, li_300, li_314, li_400, li_580, li_999, li_5040, li_9999, li_65536, li_99999, li_7654321] <;> first | rfl | exact congrArg jn (by omega)) | exact congrArg jn (by omega))) (DnI_t (by omega) hq) (by omega)
          rw [e2, li_1, jn_add]; exact congrArg jn (by omega)
  refine key N (rm + 1) _ _ _ (-1) ?_ (by omega) ?_ rfl (Or.inl ⟨rfl, fun j a b => by omega⟩) (by omega)
  · exact congrArg jn (by omega)
  · rw [Int.sub_self]; rfl
theorem wm_alikeAt {n : Nat} {P : Nat → Bool} {F : Nat → Nat → Int} {Q : Int32 → Prop} {x : Int32} (hN : 20 ≤ N) (hrm : rm ≤ 6) (hn : n < 61) (hx : x = jn (n : Int)) (hF : ∀ i, i ≤ rm → -1 ≤ F i n ∧ F i n < 7) (b1 : ∀ i, i ≤ rm → ft' i = if P i = true then 1 else 0) (b2 : ∀ i n, i ≤ rm → n < 61 → fn (61 * i + n) = jn (F i n)) (h : Q (jn (vA P F (rm + 1) n : Int))) : wp_X12_alikeAt N (jn (rm : Int)) ft' fn Q x := by
  subst hx
  unfold wp_X12_alikeAt
  have key : ∀ (k a : Nat) (v2 v3 : Int32), v3 = jn (a : Int) → a ≤ rm + 1 → v2 = jn (mA P (fun b => F b n) (rm + 1) a : Int) → rm + 1 < k + a → wp_X12_alikeAt_4 N (jn (rm : Int)) ft' fn Q k (jn (n : Int)) v2 v3 := by
    intro k
    induction k with
    | zero => intro a v2 v3 _ h1 _ h2; omega
    | succ k ih =>
      intro a v2 v3 e ha e2 hk
      subst e
      unfold wp_X12_alikeAt_4
      have m1 := mA_le (P := P) (F := fun b => F b n) (M := rm + 1) (a := a)
      rw [jn_lt (by omega) (by omega)]
      refine ⟨fun z => ?_, fun z => ?_⟩
      · have e : a = rm + 1 := by omega
        subst e
        rw [e2]; exact h
      · have fin : ∀ c : Nat, c ≤ rm + 1 → (if P a = true then max (mA P (fun b => F b n) (rm + 1) a) (cA P (fun b => F b n) (rm + 1) a) else mA P (fun b => F b n) (rm + 1) a) = max (mA P (fun b => F b n) (rm + 1) a) c → wp_X12_alikeAt_88 N (jn (rm : Int)) ft' fn (wp_X12_alikeAt_4 N (jn (rm : Int)) ft' fn Q k) Q (jn (n : Int)) v2 (jn (a : Int)) (jn (c : Int)) := by
          intro c hc hm
          have hs : mA P (fun b => F b n) (rm + 1) (a + 1) = max (mA P (fun b => F b n) (rm + 1) a) c := by rw [mA]; exact hm
          unfold wp_X12_alikeAt_88 wp_X12_alikeAt_100
          rw [e2, jn_le (by omega) (by omega)]
          refine ⟨fun y => ih (a + 1) _ _ (by (first | rfl | (simp (disch := omega) only [jn_add, jn_sub, jn_mul, jn_neg, li_0, li_1, li_2, li_3, li_4, li_5, li_6, li_7, li_8, li_9, li_10, li_11, li_12, li_13, li_14, li_15, li_16, li_17, li_18, li_20, li_24, li_29, li_30, li_31, li_32, li_37, li_39, li_40, li_42, li_43, li_45, li_46, li_47, li_48, li_53, li_57, li_59, li_60, li_61, li_62, li_63, li_80, li_81, li_91, li_93, li_97, li_100, li_122, li_200, li_255, li_256, li_257, li_258, li_259, li_260, li_300, li_314, li_400, li_580, li_999, li_5040, li_9999, li_65536, li_99999, li_7654321] <;> first | rfl | exact congrArg jn (by omega)) | exact congrArg jn (by omega))) (by omega) (by rw [hs]; exact congrArg jn (by omega)) (by omega), fun y => ih (a + 1) _ _ (by (first | rfl | (simp (disch := omega) only [jn_add, jn_sub, jn_mul, jn_neg, li_0, li_1, li_2, li_3, li_4, li_5, li_6, li_7, li_8, li_9, li_10, li_11, li_12, li_13, li_14, li_15, li_16, li_17, li_18, li_20, li_24, li_29, li_30, li_31, li_32, li_37, li_39, li_40, li_42, li_43, li_45, li_46, li_47, li_48, li_53, li_57, li_59, li_60, li_61, li_62, li_63, li_80, li_81, li_91, li_93, li_97, li_100, li_122, li_200, li_255, li_256, li_257, li_258, li_259, li_260, li_300, li_314, li_400, li_580, li_999, li_5040, li_9999, li_65536, li_99999, li_7654321] <;> first | rfl | exact congrArg jn (by omega)) | exact congrArg jn (by omega))) (by omega) (by rw [hs]; exact congrArg jn (by omega)) (by omega)⟩
        have hFa := hF a (by omega)
        by_cases hpa : P a = true
        · have key2 : ∀ (k2 b : Nat) (v4 v5 : Int32), v5 = jn (b : Int) → b ≤ rm + 1 → v4 = jn (cnt (fun b => P b && decide (F a n = F b n)) b : Int) → rm + 1 < k2 + b → wp_X12_alikeAt_18 N (jn (rm : Int)) ft' fn (wp_X12_alikeAt_4 N (jn (rm : Int)) ft' fn Q k) Q k2 (jn (n : Int)) v2 (jn (a : Int)) v4 v5 := by
            intro k2
            induction k2 with
            | zero => intro b v4 v5 _ h1 _ h2; omega
            | succ k2 ih2 =>
              intro b v4 v5 e hb e4 hk2
              subst e
              unfold wp_X12_alikeAt_18 wp_X12_alikeAt_78 wp_X12_alikeAt_79
              have c1 := cnt_le (f := fun b => P b && decide (F a n = F b n)) (n := b)
              have hcs := cnt_succ (f := fun b => P b && decide (F a n = F b n)) (n := b)
              rw [jn_lt (by omega) (by omega), jn_cln (by omega), b1 a (by omega), if_pos hpa]
              refine ⟨fun y => ?_, fun y => ⟨by simp (disch := omega) only [jn_le, jn_lt, jn_eq, jn_in, jn_add, jn_sub, jn_mul, jn_neg, li_0, li_1, li_2, li_3, li_4, li_5, li_6, li_7, li_8, li_9, li_10, li_11, li_12, li_13, li_14, li_15, li_16, li_17, li_18, li_20, li_24, li_29, li_30, li_31, li_32, li_37, li_39, li_40, li_42, li_43, li_45, li_46, li_47, li_48, li_53, li_57, li_59, li_60, li_61, li_62, li_63, li_80, li_81, li_91, li_93, li_97, li_100, li_122, li_200, li_255, li_256, li_257, li_258, li_259, li_260, li_300, li_314, li_400, li_580, li_999, li_5040, li_9999, li_65536, li_99999, li_7654321] <;> omega, fun u => absurd u (by decide), fun _ => ⟨by simp (disch := omega) only [jn_le, jn_lt, jn_eq, jn_in, jn_add, jn_sub, jn_mul, jn_neg, li_0, li_1, li_2, li_3, li_4, li_5, li_6, li_7, li_8, li_9, li_10, li_11, li_12, li_13, li_14, li_15, li_16, li_17, li_18, li_20, li_24, li_29, li_30, li_31, li_32, li_37, li_39, li_40, li_42, li_43, li_45, li_46, li_47, li_48, li_53, li_57, li_59, li_60, li_61, li_62, li_63, li_80, li_81, li_91, li_93, li_97, li_100, li_122, li_200, li_255, li_256, li_257, li_258, li_259, li_260, li_300, li_314, li_400, li_580, li_999, li_5040, li_9999, li_65536, li_99999, li_7654321] <;> omega, ?_⟩⟩⟩
              · have e : b = rm + 1 := by omega
                subst e
                rw [e4]
                exact fin _ (by omega) (by rw [if_pos hpa]; rfl)
              · have hFb := hF b (by omega)
                rw [jn_cln (by omega), b1 b (by omega)]
                by_cases hpb : P b = true
                · rw [if_pos hpb]
                  refine ⟨fun u => absurd u (by decide), fun _ => ?_⟩
                  rw [show (61 : Int32) * jn (a : Int) + jn (n : Int) = jn ((61 * a + n : Nat) : Int) from by (first | rfl | (simp (disch := omega) only [jn_add, jn_sub, jn_mul, jn_neg, li_0, li_1, li_2, li_3, li_4, li_5, li_6, li_7, li_8, li_9, li_10, li_11, li_12, li_13, li_14, li_15, li_16, li_17, li_18, li_20, li_24, li_29, li_30, li_31, li_32, li_37, li_39, li_40, li_42, li_43, li_45, li_46, li_47, li_48, li_53, li_57, li_59, li_60, li_61, li_62, li_63, li_80, li_81, li_91, li_93, li_97, li_100, li_122, li_200, li_255, li_256, li_257, li_258, li_259, li_260, li_300, li_314, li_400, li_580, li_999, li_5040, li_9999, li_65536, li_99999, li_7654321] <;> first | rfl | exact congrArg jn (by omega)) | exact congrArg jn (by omega)), show (61 : Int32) * jn (b : Int) + jn (n : Int) = jn ((61 * b + n : Nat) : Int) from by (first | rfl | (simp (disch := omega) only [jn_add, jn_sub, jn_mul, jn_neg, li_0, li_1, li_2, li_3, li_4, li_5, li_6, li_7, li_8, li_9, li_10, li_11, li_12, li_13, li_14, li_15, li_16, li_17, li_18, li_20, li_24, li_29, li_30, li_31, li_32, li_37, li_39, li_40, li_42, li_43, li_45, li_46, li_47, li_48, li_53, li_57, li_59, li_60, li_61, li_62, li_63, li_80, li_81, li_91, li_93, li_97, li_100, li_122, li_200, li_255, li_256, li_257, li_258, li_259, li_260, li_300, li_314, li_400, li_580, li_999, li_5040, li_9999, li_65536, li_99999, li_7654321] <;> first | rfl | exact congrArg jn (by omega)) | exact congrArg jn (by omega)), jn_cln (by omega), jn_cln (by omega), b2 a n (by omega) hn, b2 b n (by omega) hn, jn_eq (by omega) (by omega)]
                  refine ⟨by simp (disch := omega) only [jn_le, jn_lt, jn_eq, jn_in, jn_add, jn_sub, jn_mul, jn_neg, li_0, li_1, li_2, li_3, li_4, li_5, li_6, li_7, li_8, li_9, li_10, li_11, li_12, li_13, li_14, li_15, li_16, li_17, li_18, li_20, li_24, li_29, li_30, li_31, li_32, li_37, li_39, li_40, li_42, li_43, li_45, li_46, li_47, li_48, li_53, li_57, li_59, li_60, li_61, li_62, li_63, li_80, li_81, li_91, li_93, li_97, li_100, li_122, li_200, li_255, li_256, li_257, li_258, li_259, li_260, li_300, li_314, li_400, li_580, li_999, li_5040, li_9999, li_65536, li_99999, li_7654321] <;> omega, by simp (disch := omega) only [jn_le, jn_lt, jn_eq, jn_in, jn_add, jn_sub, jn_mul, jn_neg, li_0, li_1, li_2, li_3, li_4, li_5, li_6, li_7, li_8, li_9, li_10, li_11, li_12, li_13, li_14, li_15, li_16, li_17, li_18, li_20, li_24, li_29, li_30, li_31, li_32, li_37, li_39, li_40, li_42, li_43, li_45, li_46, li_47, li_48, li_53, li_57, li_59, li_60, li_61, li_62, li_63, li_80, li_81, li_91, li_93, li_97, li_100, li_122, li_200, li_255, li_256, li_257, li_258, li_259, li_260, li_300, li_314, li_400, li_580, li_999, li_5040, li_9999, li_65536, li_99999, li_7654321] <;> omega, fun w x1 e1 => ?_, fun w x1 e1 => ?_⟩
                  · rw [if_pos (by rw [hpb, decide_eq_true w]; rfl)] at hcs
                    refine ih2 (b + 1) _ _ (by (first | rfl | (simp (disch := omega) only [jn_add, jn_sub, jn_mul, jn_neg, li_0, li_1, li_2, li_3, li_4, li_5, li_6, li_7, li_8, li_9, li_10, li_11, li_12, li_13, li_14, li_15, li_16, li_17, li_18, li_20, li_24, li_29, li_30, li_31, li_32, li_37, li_39, li_40, li_42, li_43, li_45, li_46, li_47, li_48, li_53, li_57, li_59, li_60, li_61, li_62, li_63, li_80, li_81, li_91, li_93, li_97, li_100, li_122, li_200, li_255, li_256, li_257, li_258, li_259, li_260, li_300, li_314, li_400, li_580, li_999, li_5040, li_9999, li_65536, li_99999, li_7654321] <;> first | rfl | exact congrArg jn (by omega)) | exact congrArg jn (by omega))) (by omega) ?_ (by omega)
                    rw [e1, e4, hcs, li_1, jn_add]; rfl
                  · rw [if_neg (by rw [decide_eq_false w, Bool.and_false]; decide)] at hcs
                    refine ih2 (b + 1) _ _ (by (first | rfl | (simp (disch := omega) only [jn_add, jn_sub, jn_mul, jn_neg, li_0, li_1, li_2, li_3, li_4, li_5, li_6, li_7, li_8, li_9, li_10, li_11, li_12, li_13, li_14, li_15, li_16, li_17, li_18, li_20, li_24, li_29, li_30, li_31, li_32, li_37, li_39, li_40, li_42, li_43, li_45, li_46, li_47, li_48, li_53, li_57, li_59, li_60, li_61, li_62, li_63, li_80, li_81, li_91, li_93, li_97, li_100, li_122, li_200, li_255, li_256, li_257, li_258, li_259, li_260, li_300, li_314, li_400, li_580, li_999, li_5040, li_9999, li_65536, li_99999, li_7654321] <;> first | rfl | exact congrArg jn (by omega)) | exact congrArg jn (by omega))) (by omega) ?_ (by omega)
                    rw [e1, e4, hcs, li_0, jn_add]; rfl
                · rw [if_neg hpb]
                  have hpb' : P b = false := by cases hq : P b with | false => rfl | true => exact absurd hq hpb
                  rw [if_neg (by rw [hpb', Bool.false_and]; decide)] at hcs
                  refine ⟨fun _ x1 e1 => ?_, fun u => absurd rfl u⟩
                  refine ih2 (b + 1) _ _ (by (first | rfl | (simp (disch := omega) only [jn_add, jn_sub, jn_mul, jn_neg, li_0, li_1, li_2, li_3, li_4, li_5, li_6, li_7, li_8, li_9, li_10, li_11, li_12, li_13, li_14, li_15, li_16, li_17, li_18, li_20, li_24, li_29, li_30, li_31, li_32, li_37, li_39, li_40, li_42, li_43, li_45, li_46, li_47, li_48, li_53, li_57, li_59, li_60, li_61, li_62, li_63, li_80, li_81, li_91, li_93, li_97, li_100, li_122, li_200, li_255, li_256, li_257, li_258, li_259, li_260, li_300, li_314, li_400, li_580, li_999, li_5040, li_9999, li_65536, li_99999, li_7654321] <;> first | rfl | exact congrArg jn (by omega)) | exact congrArg jn (by omega))) (by omega) ?_ (by omega)
                  rw [e1, e4, hcs, li_0, jn_add]; rfl
          exact key2 N 0 _ _ rfl (by omega) rfl (by omega)
        · obtain ⟨k2, hk2⟩ : ∃ k2, N = k2 + 1 := ⟨N - 1, by omega⟩
          have hm := fin 0 (by omega) (by rw [if_neg hpa]; omega)
          have : wp_X12_alikeAt_18 N (jn (rm : Int)) ft' fn (wp_X12_alikeAt_4 N (jn (rm : Int)) ft' fn Q k) Q (k2 + 1) (jn (n : Int)) v2 (jn (a : Int)) 0 0 := by
            unfold wp_X12_alikeAt_18
            rw [jn_cln (by omega), b1 a (by omega), if_neg hpa]
            exact ⟨fun _ => hm, fun _ => ⟨by simp (disch := omega) only [jn_le, jn_lt, jn_eq, jn_in, jn_add, jn_sub, jn_mul, jn_neg, li_0, li_1, li_2, li_3, li_4, li_5, li_6, li_7, li_8, li_9, li_10, li_11, li_12, li_13, li_14, li_15, li_16, li_17, li_18, li_20, li_24, li_29, li_30, li_31, li_32, li_37, li_39, li_40, li_42, li_43, li_45, li_46, li_47, li_48, li_53, li_57, li_59, li_60, li_61, li_62, li_63, li_80, li_81, li_91, li_93, li_97, li_100, li_122, li_200, li_255, li_256, li_257, li_258, li_259, li_260, li_300, li_314, li_400, li_580, li_999, li_5040, li_9999, li_65536, li_99999, li_7654321] <;> omega, fun _ => hm, fun u => absurd rfl u⟩⟩
          rw [← hk2] at this
          exact this
  exact key N 0 _ _ rfl (by omega) rfl (by omega)
theorem wm_look {Q : Int32 → (Nat → Int64) → Int32 → (Nat → Int64) → (Nat → Int32) → Int32 → (Nat → Int32) → (Nat → Int32) → (Nat → Int32) → Prop} {w : Int32} (hN : 500 ≤ N) (hl : LOk l) (hv : NOk v) (hL : mL sd l) (hM : mN sd v) (hrm : rm ≤ 6) (hru : ru = jn (rm : Int)) (hf : ∀ i, i ≤ rm → ROk (rO R i)) (hR : ∀ i : Nat, i ≤ rm → mR N sg cl cs (jn ((i : Int) - 1)) (rO R i))
    (h0 : ¬ qAl l w → ∀ s t u kp ft' fn, Q (-1) s t u sd fc kp ft' fn) (h1 : qAl l w → ∀ s t u kp ft' fn, Q (aLk (l_k l) (fun i => nh l (rO R i) v) (fun i => ft l (rO R i)) (rm + 1) w) s t u sd fc kp ft' fn) : wp_X12_look N ru sg cl cs Q w st tp wd sd fc kp ft' fn := by
  have hk := hl.2.2.1
  have hl1 := hl.1
  obtain ⟨d, rfl, hd⟩ := jn_of w
  have qb : qAl l (jn d) ↔ l_t l = 1 ∧ 0 ≤ d ∧ d ≤ 1 := by
    unfold qAl
    rw [li_0, li_1, jn_eq hd (by omega), jn_eq hd (by omega)]
    constructor <;> intro q <;> omega
  unfold wp_X12_look wp_X12_look_17
  refine wm_isLane hl1 hL.1 ⟨fun z => h0 (fun q => ?_) _ _ _ _ _ _, fun z => ?_⟩
  · rw [li_0, jn_eq (by omega) (by omega)] at z
    have := qb.mp q; omega
  rw [li_0, jn_eq (by omega) (by omega)] at z
  refine wm_inC (b := 0) (c := 1) rfl rfl rfl hd (by decide) (by decide) (fun q2 => ⟨fun u => absurd u (by decide), fun _ => ?_⟩) (fun q2 => ⟨fun _ => h0 (fun q => by have := qb.mp q; omega) _ _ _ _ _ _, fun u => absurd rfl u⟩)
  have hQ := h1 (qb.mpr ⟨by omega, by omega, by omega⟩)
  refine wm_fillsFits hN hl hv hL hM hrm hru hf hR (fun s t u kp ft' fn b1 b2 => ?_)
  subst hru
  have hFb : ∀ n i, i ≤ rm → -1 ≤ ft l (rO R i) n ∧ ft l (rO R i) n < 7 := fun n i _ => fi_b hk (tI_ok hl (g00_ok hl))
  generalize hP : (fun i => nh l (rO R i) v) = P at hQ
  generalize hFF : (fun i => ft l (rO R i)) = F at hQ
  have b1' : ∀ i, i ≤ rm → ft' i = if P i = true then 1 else 0 := by rw [← hP]; exact b1
  have b2' : ∀ i n, i ≤ rm → n < 61 → fn (61 * i + n) = jn (F i n) := by rw [← hFF]; exact b2
  have hFb' : ∀ n i, i ≤ rm → -1 ≤ F i n ∧ F i n < 7 := by rw [← hFF]; exact hFb
  have vle : ∀ n, vA P F (rm + 1) n ≤ rm + 1 := fun n => mA_le
  have ends : ∀ v2 v3 : Int32, (jn d = 0 → v2 = aLk (l_k l) P F (rm + 1) (jn d)) → (¬ jn d = 0 → v3 = aLk (l_k l) P F (rm + 1) (jn d)) → wp_X12_look_86 N (jn (rm : Int)) sg cl cs Q (jn d) v2 v3 s t u sd fc kp ft' fn := by
    intro v2 v3 q1 q2
    unfold wp_X12_look_86 wp_X12_look_95
    exact ⟨fun y => by rw [q1 y]; exact hQ _ _ _ _ _ _, fun y => by rw [q2 y]; exact hQ _ _ _ _ _ _⟩
  by_cases hz : l_k l = 0 ∨ cnt P (rm + 1) = 0
  · have ha : aLk (l_k l) P F (rm + 1) (jn d) = -2 := if_pos hz
    have key : ∀ (k i : Nat) (v4 : Int32), v4 = jn (i : Int) → i ≤ 61 → 61 < k + i → wp_X12_look_32 N (jn (rm : Int)) sg cl cs Q k (jn d) (-2) (-2) v4 s t u sd fc kp ft' fn := by
      intro k
      induction k with
      | zero => intro i v4 _ h1 h2; omega
      | succ k ih =>
        intro i v4 e hi hk'
        subst e
        unfold wp_X12_look_32 wp_X12_look_80
        rw [show ((60 : Int32) < jn (i : Int)) = (60 < i) from by rw [li_60, jn_lt (by omega) (by omega)]; exact propext ⟨fun q => by omega, fun q => by omega⟩, show (2 : Int32).toNatClampNeg = 2 from rfl, hL.2.2.1, show (jn (l_k l : Int) ≤ 0) = (l_k l = 0) from by rw [li_0, jn_le (by omega) (by omega)]; exact propext ⟨fun q => by omega, fun q => by omega⟩]
        refine ⟨fun _ => ends _ _ (fun _ => ha.symm) (fun _ => ha.symm), fun z => ⟨by unfold vp_in; decide, fun _ => ends _ _ (fun _ => ha.symm) (fun _ => ha.symm), fun y => ?_⟩⟩
        have hc0 : cnt P (rm + 1) = 0 := by omega
        refine wm_alikeAt (n := i) (P := P) (F := F) (by omega) hrm (by omega) rfl (fun j hj => hFb' i j hj) b1' b2' ?_
        rw [show vA P F (rm + 1) i = 0 from mA_zero (cnt_zero hc0) (Nat.le_refl _)]
        exact ⟨fun _ => ih (i + 1) _ (by (first | rfl | (simp (disch := omega) only [jn_add, jn_sub, jn_mul, jn_neg, li_0, li_1, li_2, li_3, li_4, li_5, li_6, li_7, li_8, li_9, li_10, li_11, li_12, li_13, li_14, li_15, li_16, li_17, li_18, li_20, li_24, li_29, li_30, li_31, li_32, li_37, li_39, li_40, li_42, li_43, li_45, li_46, li_47, li_48, li_53, li_57, li_59, li_60, li_61, li_62, li_63, li_80, li_81, li_91, li_93, li_97, li_100, li_122, li_200, li_255, li_256, li_257, li_258, li_259, li_260, li_300, li_314, li_400, li_580, li_999, li_5040, li_9999, li_65536, li_99999, li_7654321] <;> first | rfl | exact congrArg jn (by omega)) | exact congrArg jn (by omega))) (by omega) (by omega), fun q => absurd rfl q⟩
    exact key N 0 _ rfl (by omega) (by omega)
  · obtain ⟨a, ha1, ha2⟩ : ∃ a, a < rm + 1 ∧ P a = true := by
      by_cases q : ∃ a, a < rm + 1 ∧ P a = true
      · exact q
      · exfalso
        refine hz (Or.inr ?_)
        have : cnt P (rm + 1) = cnt (fun _ => false) (rm + 1) := cnt_congr (fun j hj => by cases hq : P j with | false => rfl | true => exact absurd ⟨j, hj, hq⟩ q)
        have z : ∀ n, cnt (fun _ => false) n = 0 := by
          intro n
          induction n with
          | zero => rfl
          | succ n ih => rw [cnt_succ, ih]; rfl
        rw [this, z]
    have vpos : ∀ n, 0 < vA P F (rm + 1) n := fun n => mA_pos ha2 ha1
    have key : ∀ (k i : Nat) (v2 v3 v4 : Int32), v4 = jn (i : Int) → i ≤ 61 → (i = 0 → v2 = -2 ∧ v3 = -2) → (0 < i → v2 = jn (bmn (vA P F (rm + 1)) (i - 1) : Int) ∧ v3 = jn (vA P F (rm + 1) (bmn (vA P F (rm + 1)) (i - 1)) : Int)) → 61 < k + i → wp_X12_look_32 N (jn (rm : Int)) sg cl cs Q k (jn d) v2 v3 v4 s t u sd fc kp ft' fn := by
      intro k
      induction k with
      | zero => intro i v2 v3 v4 _ h1 _ _ h2; omega
      | succ k ih =>
        intro i v2 v3 v4 e hi e0 e1 hk'
        subst e
        unfold wp_X12_look_32 wp_X12_look_80 wp_X12_look_74
        have v1 := vle i
        have p1 := vpos i
        rw [show ((60 : Int32) < jn (i : Int)) = (60 < i) from by rw [li_60, jn_lt (by omega) (by omega)]; exact propext ⟨fun q => by omega, fun q => by omega⟩, show (2 : Int32).toNatClampNeg = 2 from rfl, hL.2.2.1, show (jn (l_k l : Int) ≤ 0) = (l_k l = 0) from by rw [li_0, jn_le (by omega) (by omega)]; exact propext ⟨fun q => by omega, fun q => by omega⟩]
        refine ⟨fun z => ?_, fun z => ⟨by unfold vp_in; decide, fun y => absurd (Or.inl y) hz, fun y => ?_⟩⟩
        · have e : i = 61 := by omega
          subst e
          have e1 := e1 (by omega)
          refine ends _ _ (fun q => ?_) (fun q => ?_)
          · rw [e1.1]; unfold aLk; rw [if_neg hz, if_pos q]
          · rw [e1.2]; unfold aLk; rw [if_neg hz, if_neg q]
        · refine wm_alikeAt (n := i) (P := P) (F := F) (by omega) hrm (by omega) rfl (fun j hj => hFb' i j hj) b1' b2' ?_
          have st : bmn (vA P F (rm + 1)) (i + 1 - 1) = i → wp_X12_look_32 N (jn (rm : Int)) sg cl cs Q k (jn d) (jn (i : Int)) (jn (vA P F (rm + 1) i : Int)) (jn (i : Int) + 1) s t u sd fc kp ft' fn := fun q =>
            ih (i + 1) _ _ _ (by (first | rfl | (simp (disch := omega) only [jn_add, jn_sub, jn_mul, jn_neg, li_0, li_1, li_2, li_3, li_4, li_5, li_6, li_7, li_8, li_9, li_10, li_11, li_12, li_13, li_14, li_15, li_16, li_17, li_18, li_20, li_24, li_29, li_30, li_31, li_32, li_37, li_39, li_40, li_42, li_43, li_45, li_46, li_47, li_48, li_53, li_57, li_59, li_60, li_61, li_62, li_63, li_80, li_81, li_91, li_93, li_97, li_100, li_122, li_200, li_255, li_256, li_257, li_258, li_259, li_260, li_300, li_314, li_400, li_580, li_999, li_5040, li_9999, li_65536, li_99999, li_7654321] <;> first | rfl | exact congrArg jn (by omega)) | exact congrArg jn (by omega))) (by omega) (fun q => by omega) (fun _ => by rw [q]; exact ⟨rfl, rfl⟩) (by omega)
          refine ⟨fun q => ?_, fun _ => ?_⟩
          · rw [li_0, jn_eq (by omega) (by omega)] at q; omega
          · by_cases hi0 : i = 0
            · obtain ⟨e2, e3⟩ := e0 hi0
              subst e2 e3
              refine ⟨fun _ => st (by rw [hi0]; rfl), fun q => absurd (by decide) q⟩
            · obtain ⟨e2, e3⟩ := e1 (by omega)
              obtain ⟨j, rfl⟩ : ∃ j, i = j + 1 := ⟨i - 1, by omega⟩
              rw [show j + 1 - 1 = j by omega] at e2 e3
              have bl := bmn_le (V := vA P F (rm + 1)) (n := j)
              have v2' := vle (bmn (vA P F (rm + 1)) j)
              have hbs : bmn (vA P F (rm + 1)) (j + 1) = if vA P F (rm + 1) (j + 1) < vA P F (rm + 1) (bmn (vA P F (rm + 1)) j) then j + 1 else bmn (vA P F (rm + 1)) j := rfl
              rw [e2, e3, jn_lt (by omega) (by omega)]
              refine ⟨fun q => ?_, fun _ => ⟨fun q => st ?_, fun q => ?_⟩⟩
              · rw [li_0, jn_lt (by omega) (by omega)] at q; omega
              · rw [if_pos (by omega)] at hbs; exact hbs
              · rw [if_neg (by omega)] at hbs
                refine ih (j + 1 + 1) _ _ _ (by (first | rfl | (simp (disch := omega) only [jn_add, jn_sub, jn_mul, jn_neg, li_0, li_1, li_2, li_3, li_4, li_5, li_6, li_7, li_8, li_9, li_10, li_11, li_12, li_13, li_14, li_15, li_16, li_17, li_18, li_20, li_24, li_29, li_30, li_31, li_32, li_37, li_39, li_40, li_42, li_43, li_45, li_46, li_47, li_48, li_53, li_57, li_59, li_60, li_61, li_62, li_63, li_80, li_81, li_91, li_93, li_97, li_100, li_122, li_200, li_255, li_256, li_257, li_258, li_259, li_260, li_300, li_314, li_400, li_580, li_999, li_5040, li_9999, li_65536, li_99999, li_7654321] <;> first | rfl | exact congrArg jn (by omega)) | exact congrArg jn (by omega))) (by omega) (fun q => by omega) (fun _ => ?_) (by omega)
                rw [show j + 1 + 1 - 1 = j + 1 by omega, hbs]
                exact ⟨rfl, rfl⟩
    exact key N 0 _ _ _ rfl (by omega) (fun _ => ⟨rfl, rfl⟩) (fun q => by omega) (by omega)
end MRU
