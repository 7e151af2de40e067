/-! class Reach: the leaps of one child from an order -/
theorem ls_mv {m : Nat} {r : Nat → Nat} {p : Nat} (h : Pm m r) (hp : p < m) : ∀ {k q : Nat}, k ≤ p → q < p - k → ls m (mv r p k) q = ls m r q
  | 0, q, _, _ => by rw [mv_zero]
  | k + 1, q, hk, hq => by
    rw [mv_succ (by omega), ls_sw_o (mv_Pm h hp (by omega)) (by omega) (by omega) (by omega) (by omega)]
    exact ls_mv h hp (by omega) (by omega)
theorem mv_lo {r : Nat → Nat} {p k q : Nat} (h : q < p - k) : mv r p k q = r q := by unfold mv; rw [if_neg (by omega), if_neg (by omega)]
theorem mv_to {r : Nat → Nat} {p k : Nat} : mv r p k (p - k) = r p := by unfold mv; rw [if_pos rfl]
theorem jn_ck {c k : Nat} (hk : k < 8) : jn (c : Int) <<< ((3 : Int32) &&& 31) ||| jn (k : Int) = jn ((8 * c + k : Nat) : Int) := by
  rw [show (3 : Int32) = jn ((3 : Nat) : Int) from rfl, jn_shl (by omega), jn_or, Nat.mul_comm]
  have := Nat.two_pow_add_eq_or_of_lt (i := 3) hk c
  rw [show (8 : Nat) = 2 ^ 3 from rfl, this]
theorem jn_x9 {x t : Nat} (ht : t < 10) : (jn (x : Int) * (9 : Int32)) <<< (((3 : Int32) * jn (t : Int)) &&& 31) = jn ((x * 9 * 8 ^ t : Nat) : Int) := by
  rw [show jn (x : Int) * (9 : Int32) = jn ((x * 9 : Nat) : Int) from by rw [li_9, jn_mul]; rfl, show (3 : Int32) * jn (t : Int) = jn ((3 * t : Nat) : Int) from by rw [li_3, jn_mul]; rfl, jn_shl (by omega), show (8 : Nat) = 2 ^ 3 from rfl, ← Nat.pow_mul]
theorem lb_tst {m : Nat} {cl : Nat → Nat → Bool} {c d : Nat} (hm : m ≤ 7) (hd : d < m) : ((jn (lb m cl c : Int) >>> (jn (d : Int) &&& 31)) &&& (1 : Int32) = 0) = (cl c d = false) := by
  unfold lb
  rw [jn_tst (bs_lt7 hm) (by omega), bs_bit, decide_eq_true hd, Bool.true_and]
section CLE
variable {N m sp S : Nat} {cl : Nat → Nat → Bool}
/-- found, and how it was found -/
def cI (m sp S : Nat) (cl : Nat → Nat → Bool) (i l F : Nat) (Q : Nat → Nat → Nat) (pa la dp : Nat → Nat) (fo : Int32) (wh rw' fr de : Nat → Int32) : Prop := cB m F Q pa la dp fo wh rw' fr de ∧ BI (Lg m sp cl) S i l F (fun j => rk m (Q j)) pa la dp
theorem unQ_ro {F : Nat} {Q : Nat → Nat → Nat} {s : Nat → Nat} : (fun j => rk m (unQ Q F s j)) = un (fun j => rk m (Q j)) F (rk m s) := by
  funext j
  unfold unQ un
  split <;> rfl
theorem wl_rLeap {i c F : Nat} {r : Nat → Nat} {Q : Nat → Nat → Nat} {pa la dp : Nat → Nat} {K : Int32 → (Nat → Int32) → (Nat → Int32) → (Nat → Int32) → (Nat → Int32) → Prop} {p0 p1 p2 fo : Int32} {el eo es wh rw' fr de : Nat → Int32} (hN : 10 ≤ N) (hm : m ≤ 7) (hsp : sp ≤ 9999) (hc : c < m) (hr : Pm m r) (hel : ∀ c, c < m → el c = jn (lb m cl c : Int)) (heo : ar m eo r) (hes : ar m es (ls m r)) (hi : i < F) (hQ : Q i = r) (h : cI m sp S cl i (8 * c) F Q pa la dp fo wh rw' fr de) (e0 : p0 = jn i) (e1 : p1 = jn (rk m r : Int)) (e2 : p2 = jn (iv r c m : Int))
    (hK : ∀ F' Q' pa' la' dp' fo' wh' rw2 fr' de', cI m sp S cl i (8 * (c + 1)) F' Q' pa' la' dp' fo' wh' rw2 fr' de' → i < F' → Q' i = r → Q' 0 = Q 0 → K fo' wh' rw2 fr' de') : wp_X5_leapFrom N (jn m) (jn sp) el eo es K p0 p1 p2 fo wh rw' fr de := by
  have hp := iv_lt hr hc
  have hpc := iv_at hr hc
  generalize hpp : iv r c m = p at *
  have nok : ∀ l', 8 * c ≤ l' → l' < 8 * (c + 1) → l' / 8 = c ∧ l' % 8 = l' - 8 * c := fun l' a b => by omega
  have key : ∀ (n k F : Nat) (Q' : Nat → Nat → Nat) (pa la dp : Nat → Nat) (v5 v6 v7 v8 fo : Int32) (wh rw' fr de : Nat → Int32), v8 = jn ((k + 1 : Nat) : Int) → k ≤ p → v5 = jn (p8 m (mv r p k) : Int) → v6 = jn (rk m (mv r p k) : Int) → v7 = jn (ls m (mv r p k) (p - k) : Int) → i < F → Q' i = r → Q' 0 = Q 0 → k ≤ sp → (∀ j, 1 ≤ j → j ≤ k → cl c (r (p - j)) = true) → cI m sp S cl i (8 * c + (k + 1)) F Q' pa la dp fo wh rw' fr de → 8 < n + k → wp_X5_leapFrom_30 N (jn m) (jn sp) el eo es K n (jn i) (jn p) (jn c) v5 v6 v7 v8 fo wh rw' fr de := by
    intro n
    induction n with
    | zero => intro k F Q' pa la dp v5 v6 v7 v8 fo wh rw' fr de _ h1 _ _ _ _ _ _ _ _ _ h2; omega
    | succ n ih =>
      intro k F Q' pa la dp v5 v6 v7 v8 fo wh rw' fr de e8 hk e5 e6 e7 hiF hQi hQ0 hks hall hcI hn
      have out : ¬ okl m sp cl r c (k + 1) → K fo wh rw' fr de := by
        intro hno
        refine hK F Q' pa la dp fo wh rw' fr de ⟨hcI.1, BI_skip hcI.2 (by omega) (fun l' b a d hE => ?_)⟩ hiF hQi hQ0
        have hE' : Lg m sp cl (rk m (Q' i)) l' b := hE
        rw [hQi, Lg_iff hm hr] at hE'
        obtain ⟨q1, q2⟩ := nok l' (by omega) d
        rw [q1, q2] at hE'
        obtain ⟨o1, o2, o3, o4, o5⟩ := hE'.1
        exact hno ⟨o1, by omega, by omega, by omega, fun j x y => o5 j x (by omega)⟩
      unfold wp_X5_leapFrom_30 wp_X5_leapFrom_203
      subst e8
      refine ⟨fun z => ?_, fun z => ⟨fun y => ?_, fun y x4 e4 => ?_⟩⟩
      · simp (disch := omega) only [jn_le, jn_lt, jn_eq, jn_in, jn_add, jn_sub, jn_mul, jn_neg, li_0, li_1, li_2, li_3, li_4, li_5, li_6, li_7, li_8, li_9, li_10, li_11, li_12, li_13, li_14, li_15, li_16, li_17, li_18, li_20, li_24, li_29, li_30, li_31, li_32, li_37, li_39, li_40, li_42, li_43, li_45, li_46, li_47, li_48, li_53, li_57, li_59, li_60, li_61, li_62, li_63, li_80, li_81, li_91, li_93, li_97, li_100, li_122, li_200, li_255, li_256, li_257, li_258, li_259, li_260, li_300, li_314, li_400, li_580, li_999, li_5040, li_9999, li_65536, li_99999, li_7654321] at z
        refine out (fun o => ?_)
        have := o.2.2.1; omega
      · simp (disch := omega) only [jn_le, jn_lt, jn_eq, jn_in, jn_add, jn_sub, jn_mul, jn_neg, li_0, li_1, li_2, li_3, li_4, li_5, li_6, li_7, li_8, li_9, li_10, li_11, li_12, li_13, li_14, li_15, li_16, li_17, li_18, li_20, li_24, li_29, li_30, li_31, li_32, li_37, li_39, li_40, li_42, li_43, li_45, li_46, li_47, li_48, li_53, li_57, li_59, li_60, li_61, li_62, li_63, li_80, li_81, li_91, li_93, li_97, li_100, li_122, li_200, li_255, li_256, li_257, li_258, li_259, li_260, li_300, li_314, li_400, li_580, li_999, li_5040, li_9999, li_65536, li_99999, li_7654321] at y
        refine out (fun o => ?_)
        have := o.2.2.2.1; omega
      · simp (disch := omega) only [jn_le, jn_lt, jn_eq, jn_in, jn_add, jn_sub, jn_mul, jn_neg, li_0, li_1, li_2, li_3, li_4, li_5, li_6, li_7, li_8, li_9, li_10, li_11, li_12, li_13, li_14, li_15, li_16, li_17, li_18, li_20, li_24, li_29, li_30, li_31, li_32, li_37, li_39, li_40, li_42, li_43, li_45, li_46, li_47, li_48, li_53, li_57, li_59, li_60, li_61, li_62, li_63, li_80, li_81, li_91, li_93, li_97, li_100, li_122, li_200, li_255, li_256, li_257, li_258, li_259, li_260, li_300, li_314, li_400, li_580, li_999, li_5040, li_9999, li_65536, li_99999, li_7654321] at z y
        have hkp : k + 1 ≤ p := by omega
        rw [show jn (p : Int) - jn ((k + 1 : Nat) : Int) = jn ((p - (k + 1) : Nat) : Int) from by (first | rfl | (simp (disch := omega) only [jn_add, jn_sub, jn_mul, jn_neg, li_0, li_1, li_2, li_3, li_4, li_5, li_6, li_7, li_8, li_9, li_10, li_11, li_12, li_13, li_14, li_15, li_16, li_17, li_18, li_20, li_24, li_29, li_30, li_31, li_32, li_37, li_39, li_40, li_42, li_43, li_45, li_46, li_47, li_48, li_53, li_57, li_59, li_60, li_61, li_62, li_63, li_80, li_81, li_91, li_93, li_97, li_100, li_122, li_200, li_255, li_256, li_257, li_258, li_259, li_260, li_300, li_314, li_400, li_580, li_999, li_5040, li_9999, li_65536, li_99999, li_7654321] <;> first | rfl | exact congrArg jn (by omega)) | exact congrArg jn (by omega))] at e4
        subst e4
        generalize hto : p - (k + 1) = to at *
        have hto1 : p - k = to + 1 := by omega
        have hto2 : to + 1 ≤ p := by omega
        have hrt := hr.1 to (by omega)
        refine ⟨by simp (disch := omega) only [jn_le, jn_lt, jn_eq, jn_in, jn_add, jn_sub, jn_mul, jn_neg, li_0, li_1, li_2, li_3, li_4, li_5, li_6, li_7, li_8, li_9, li_10, li_11, li_12, li_13, li_14, li_15, li_16, li_17, li_18, li_20, li_24, li_29, li_30, li_31, li_32, li_37, li_39, li_40, li_42, li_43, li_45, li_46, li_47, li_48, li_53, li_57, li_59, li_60, li_61, li_62, li_63, li_80, li_81, li_91, li_93, li_97, li_100, li_122, li_200, li_255, li_256, li_257, li_258, li_259, li_260, li_300, li_314, li_400, li_580, li_999, li_5040, li_9999, li_65536, li_99999, li_7654321] <;> omega, fun x5 e5' => ?_⟩
        rw [jn_cln (by omega), heo to (by omega)] at e5'
        subst e5'
        refine ⟨by simp (disch := omega) only [jn_le, jn_lt, jn_eq, jn_in, jn_add, jn_sub, jn_mul, jn_neg, li_0, li_1, li_2, li_3, li_4, li_5, li_6, li_7, li_8, li_9, li_10, li_11, li_12, li_13, li_14, li_15, li_16, li_17, li_18, li_20, li_24, li_29, li_30, li_31, li_32, li_37, li_39, li_40, li_42, li_43, li_45, li_46, li_47, li_48, li_53, li_57, li_59, li_60, li_61, li_62, li_63, li_80, li_81, li_91, li_93, li_97, li_100, li_122, li_200, li_255, li_256, li_257, li_258, li_259, li_260, li_300, li_314, li_400, li_580, li_999, li_5040, li_9999, li_65536, li_99999, li_7654321] <;> omega, ?_⟩
        rw [jn_cln (by omega), hel c hc, lb_tst hm hrt]
        have hcur := mv_Pm (b := k) hr hp (by omega)
        have hct : mv r p k to = r to := mv_lo (by omega)
        have hcc : mv r p k (to + 1) = c := by rw [← hto1, mv_to, hpc]
        have hne : r to ≠ c := by
          rw [← hct, ← hcc]; exact Pm_ne hcur (by omega) (by omega) (by omega)
        have hsw : mv r p (k + 1) = sw (mv r p k) to := by rw [mv_succ (by omega), hto]
        have hlt : ls m (mv r p k) to = ls m r to := ls_mv hr hp hk (by omega)
        have hsa := ls_sw_a hcur (i := to) (by omega)
        have hsb := ls_sw_b hcur (i := to) (by omega)
        have hrk := rk_sw hcur (i := to) (by omega)
        rw [hct, hcc] at hsa hsb
        rw [← hsw] at hsa hsb hrk
        rw [hlt] at hsb hrk
        rw [hto1] at e7
        refine ⟨fun q => ?_, fun q => ?_⟩
        · refine out (fun o => ?_)
          have := o.2.2.2.2 (k + 1) (by omega) (Nat.le_refl _)
          rw [hpp, hto, q] at this; cases this
        · have hok : okl m sp cl r c (k + 1) := by
            refine ⟨hc, by omega, by omega, by omega, fun j a b => ?_⟩
            rw [hpp]
            by_cases e : j = k + 1
            · rw [e, hto]
              cases hcl : cl c (r to) with
              | false => exact absurd hcl q
              | true => rfl
            · exact hall j a (by omega)
          have hall' : ∀ j, 1 ≤ j → j ≤ k + 1 → cl c (r (p - j)) = true := by
            intro j a b
            have := hok.2.2.2.2 j a b
            rw [hpp] at this; exact this
          have hsP : Pm m (mv r p (k + 1)) := mv_Pm hr hp (by omega)
          have hle : (8 * c + (k + 1)) / 8 = c ∧ (8 * c + (k + 1)) % 8 = k + 1 := by omega
          have hE : Lg m sp cl (rk m (Q' i)) (8 * c + (k + 1)) (rk m (mv r p (k + 1))) := by
            rw [hQi, Lg_iff hm hr, hle.1, hle.2]
            refine ⟨hok, ?_⟩
            unfold nxl; rw [hpp]
          have go : ∀ (mT tT : Int32), mT = jn (ls m (mv r p (k + 1)) to : Int) → tT = jn (ls m (mv r p (k + 1)) (to + 1) : Int) → wp_X5_leapFrom_120 N (jn m) (jn sp) el eo es (wp_X5_leapFrom_30 N (jn m) (jn sp) el eo es K n) K (jn i) (jn p) (jn c) v5 v6 v7 (jn ((k + 1 : Nat) : Int)) (jn to) (jn (r to)) mT tT fo wh rw' fr de := by
            intro mT tT hmT htT
            unfold wp_X5_leapFrom_120
            refine ⟨by simp (disch := omega) only [jn_le, jn_lt, jn_eq, jn_in, jn_add, jn_sub, jn_mul, jn_neg, li_0, li_1, li_2, li_3, li_4, li_5, li_6, li_7, li_8, li_9, li_10, li_11, li_12, li_13, li_14, li_15, li_16, li_17, li_18, li_20, li_24, li_29, li_30, li_31, li_32, li_37, li_39, li_40, li_42, li_43, li_45, li_46, li_47, li_48, li_53, li_57, li_59, li_60, li_61, li_62, li_63, li_80, li_81, li_91, li_93, li_97, li_100, li_122, li_200, li_255, li_256, li_257, li_258, li_259, li_260, li_300, li_314, li_400, li_580, li_999, li_5040, li_9999, li_65536, li_99999, li_7654321] <;> omega, wl_weight hm (by omega) rfl (wl_weight hm (show to + 1 < m by omega) (by (first | rfl | (simp (disch := omega) only [jn_add, jn_sub, jn_mul, jn_neg, li_0, li_1, li_2, li_3, li_4, li_5, li_6, li_7, li_8, li_9, li_10, li_11, li_12, li_13, li_14, li_15, li_16, li_17, li_18, li_20, li_24, li_29, li_30, li_31, li_32, li_37, li_39, li_40, li_42, li_43, li_45, li_46, li_47, li_48, li_53, li_57, li_59, li_60, li_61, li_62, li_63, li_80, li_81, li_91, li_93, li_97, li_100, li_122, li_200, li_255, li_256, li_257, li_258, li_259, li_260, li_300, li_314, li_400, li_580, li_999, li_5040, li_9999, li_65536, li_99999, li_7654321] <;> first | rfl | exact congrArg jn (by omega)) | exact congrArg jn (by omega))) (fun x8 e8 x9 e9 => ?_))⟩
            rw [jn_cln (by omega), hes to (by omega), hmT, htT, e6, e7, jn_sub, jn_sub, jn_mul, jn_mul, jn_add, jn_add] at e8
            have e8' : x8 = jn (rk m (mv r p (k + 1)) : Int) := by
              rw [e8]
              refine congrArg jn ?_
              rw [Int.sub_mul, Int.sub_mul]
              have := congrArg (fun x : Nat => (x : Int)) hrk
              simp only [Int.natCast_add, Int.natCast_mul] at this
              omega
            rw [e5, jn_xor, jn_x9 (by omega), jn_xor, show c ^^^ r to = mv r p k (to + 1) ^^^ mv r p k to by rw [hct, hcc], p8_sw (Pm8 hm hcur) (by omega), ← hsw] at e9
            have e9' := e9
            rw [jn_ck (by omega)]
            refine wl_add (i := i) (l := 8 * c + (k + 1)) hm hcI.1 hcI.2.2.2.2.2.2.1 hsP (Or.inl hiF) (by omega) e8' e9' rfl rfl (fun hex => ?_) (fun hno fo' wh' rw2 fr' de' hB' => ?_)
            · refine ih (k + 1) F Q' pa la dp _ _ _ _ _ _ _ _ _ (by (first | rfl | (simp (disch := omega) only [jn_add, jn_sub, jn_mul, jn_neg, li_0, li_1, li_2, li_3, li_4, li_5, li_6, li_7, li_8, li_9, li_10, li_11, li_12, li_13, li_14, li_15, li_16, li_17, li_18, li_20, li_24, li_29, li_30, li_31, li_32, li_37, li_39, li_40, li_42, li_43, li_45, li_46, li_47, li_48, li_53, li_57, li_59, li_60, li_61, li_62, li_63, li_80, li_81, li_91, li_93, li_97, li_100, li_122, li_200, li_255, li_256, li_257, li_258, li_259, li_260, li_300, li_314, li_400, li_580, li_999, li_5040, li_9999, li_65536, li_99999, li_7654321] <;> first | rfl | exact congrArg jn (by omega)) | exact congrArg jn (by omega))) (by omega) e9' e8' (by rw [hmT, hto]) hiF hQi hQ0 (by omega) hall' ⟨hcI.1, BI_old (Lg_fun hm) hcI.2 hE hex⟩ (by omega)
            · have hF0 : F ≠ 0 := by omega
              rw [if_neg hF0] at hB'
              refine ih (k + 1) (F + 1) (unQ Q' F (mv r p (k + 1))) _ _ _ _ _ _ _ _ _ _ _ _ (by (first | rfl | (simp (disch := omega) only [jn_add, jn_sub, jn_mul, jn_neg, li_0, li_1, li_2, li_3, li_4, li_5, li_6, li_7, li_8, li_9, li_10, li_11, li_12, li_13, li_14, li_15, li_16, li_17, li_18, li_20, li_24, li_29, li_30, li_31, li_32, li_37, li_39, li_40, li_42, li_43, li_45, li_46, li_47, li_48, li_53, li_57, li_59, li_60, li_61, li_62, li_63, li_80, li_81, li_91, li_93, li_97, li_100, li_122, li_200, li_255, li_256, li_257, li_258, li_259, li_260, li_300, li_314, li_400, li_580, li_999, li_5040, li_9999, li_65536, li_99999, li_7654321] <;> first | rfl | exact congrArg jn (by omega)) | exact congrArg jn (by omega))) (by omega) e9' e8' (by rw [hmT, hto]) (by omega) ?_ ?_ (by omega) hall' ⟨hB', ?_⟩ (by omega)
              · unfold unQ; rw [if_neg (by omega)]; exact hQi
              · unfold unQ; rw [if_neg (by omega)]; exact hQ0
              · rw [unQ_ro]
                exact BI_add (Lg_fun hm) hcI.2 hiF hE hno
          have hles : es to = jn (ls m r to : Int) := hes to (by omega)
          rw [jn_le (by omega) (by omega)]
          refine ⟨fun w => ?_, fun w => ?_⟩
          · unfold wp_X5_leapFrom_92
            refine ⟨fun _ => ⟨by simp (disch := omega) only [jn_le, jn_lt, jn_eq, jn_in, jn_add, jn_sub, jn_mul, jn_neg, li_0, li_1, li_2, li_3, li_4, li_5, li_6, li_7, li_8, li_9, li_10, li_11, li_12, li_13, li_14, li_15, li_16, li_17, li_18, li_20, li_24, li_29, li_30, li_31, li_32, li_37, li_39, li_40, li_42, li_43, li_45, li_46, li_47, li_48, li_53, li_57, li_59, li_60, li_61, li_62, li_63, li_80, li_81, li_91, li_93, li_97, li_100, li_122, li_200, li_255, li_256, li_257, li_258, li_259, li_260, li_300, li_314, li_400, li_580, li_999, li_5040, li_9999, li_65536, li_99999, li_7654321] <;> omega, ?_⟩, fun w' => ?_⟩
            · rw [if_neg (by omega)] at hsa
              rw [if_pos (by omega)] at hsb
              refine go _ _ ?_ ?_
              · rw [e7, hsa]; rfl
              · rw [jn_cln (by omega), hles, li_1, jn_sub]; exact congrArg jn (by omega)
            · rw [jn_le (by omega) (by omega)] at w'; omega
          · unfold wp_X5_leapFrom_92
            refine ⟨fun w' => ?_, fun _ => ⟨by simp (disch := omega) only [jn_le, jn_lt, jn_eq, jn_in, jn_add, jn_sub, jn_mul, jn_neg, li_0, li_1, li_2, li_3, li_4, li_5, li_6, li_7, li_8, li_9, li_10, li_11, li_12, li_13, li_14, li_15, li_16, li_17, li_18, li_20, li_24, li_29, li_30, li_31, li_32, li_37, li_39, li_40, li_42, li_43, li_45, li_46, li_47, li_48, li_53, li_57, li_59, li_60, li_61, li_62, li_63, li_80, li_81, li_91, li_93, li_97, li_100, li_122, li_200, li_255, li_256, li_257, li_258, li_259, li_260, li_300, li_314, li_400, li_580, li_999, li_5040, li_9999, li_65536, li_99999, li_7654321] <;> omega, ?_⟩⟩
            · rw [jn_le (by omega) (by omega)] at w'; omega
            · rw [if_pos (by omega)] at hsa
              rw [if_neg (by omega)] at hsb
              refine go _ _ ?_ ?_
              · rw [e7, hsa, li_1, jn_add]; rfl
              · rw [jn_cln (by omega), hles, hsb]; rfl
  unfold wp_X5_leapFrom
  subst e0 e2
  have hF := hi
  have hF5 := h.1.2.1
  have hrow := (h.1.2.2.1 i hi).2.1
  rw [hQ] at hrow
  refine ⟨by simp (disch := omega) only [jn_le, jn_lt, jn_eq, jn_in, jn_add, jn_sub, jn_mul, jn_neg, li_0, li_1, li_2, li_3, li_4, li_5, li_6, li_7, li_8, li_9, li_10, li_11, li_12, li_13, li_14, li_15, li_16, li_17, li_18, li_20, li_24, li_29, li_30, li_31, li_32, li_37, li_39, li_40, li_42, li_43, li_45, li_46, li_47, li_48, li_53, li_57, li_59, li_60, li_61, li_62, li_63, li_80, li_81, li_91, li_93, li_97, li_100, li_122, li_200, li_255, li_256, li_257, li_258, li_259, li_260, li_300, li_314, li_400, li_580, li_999, li_5040, li_9999, li_65536, li_99999, li_7654321] <;> omega, fun x1 q1 => ⟨by simp (disch := omega) only [jn_le, jn_lt, jn_eq, jn_in, jn_add, jn_sub, jn_mul, jn_neg, li_0, li_1, li_2, li_3, li_4, li_5, li_6, li_7, li_8, li_9, li_10, li_11, li_12, li_13, li_14, li_15, li_16, li_17, li_18, li_20, li_24, li_29, li_30, li_31, li_32, li_37, li_39, li_40, li_42, li_43, li_45, li_46, li_47, li_48, li_53, li_57, li_59, li_60, li_61, li_62, li_63, li_80, li_81, li_91, li_93, li_97, li_100, li_122, li_200, li_255, li_256, li_257, li_258, li_259, li_260, li_300, li_314, li_400, li_580, li_999, li_5040, li_9999, li_65536, li_99999, li_7654321] <;> omega, fun x2 q2 => ⟨by simp (disch := omega) only [jn_le, jn_lt, jn_eq, jn_in, jn_add, jn_sub, jn_mul, jn_neg, li_0, li_1, li_2, li_3, li_4, li_5, li_6, li_7, li_8, li_9, li_10, li_11, li_12, li_13, li_14, li_15, li_16, li_17, li_18, li_20, li_24, li_29, li_30, li_31, li_32, li_37, li_39, li_40, li_42, li_43, li_45, li_46, li_47, li_48, li_53, li_57, li_59, li_60, li_61, li_62, li_63, li_80, li_81, li_91, li_93, li_97, li_100, li_122, li_200, li_255, li_256, li_257, li_258, li_259, li_260, li_300, li_314, li_400, li_580, li_999, li_5040, li_9999, li_65536, li_99999, li_7654321] <;> omega, fun x3 q3 => ?_⟩⟩⟩
  rw [jn_cln (by omega), heo p hp, hpc] at q1
  rw [jn_cln (by omega), hrow] at q2
  rw [jn_cln (by omega), hes p hp] at q3
  subst q1
  refine key N 0 F Q pa la dp _ _ _ _ _ _ _ _ _ rfl (by omega) ?_ ?_ ?_ hi hQ rfl (by omega) (fun j a b => by omega) ⟨h.1, BI_skip h.2 (by omega) (fun l' b a d hE => ?_)⟩ (by omega)
  · rw [mv_zero]; exact q2
  · rw [mv_zero]; exact e1
  · rw [mv_zero]; exact q3
  · have hE' : Lg m sp cl (rk m (Q i)) l' b := hE
    rw [hQ, Lg_iff hm hr] at hE'
    have := hE'.1.2.1
    omega
end CLE
