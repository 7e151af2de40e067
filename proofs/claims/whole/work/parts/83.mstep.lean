/-! the reference: the i-th leap of the first row of leaps -/
theorem least {P : Nat → Prop} : ∀ n, P n → ∃ l, P l ∧ ∀ l', P l' → l ≤ l' := by
  intro n
  induction n using Nat.strongRecOn with
  | ind n ih =>
    intro hn
    by_cases q : ∃ k, k < n ∧ P k
    · obtain ⟨k, k1, k2⟩ := q
      exact ih k k1 k2
    · refine ⟨n, hn, fun l' hl => ?_⟩
      by_cases z : n ≤ l'
      · exact z
      · exact absurd ⟨l', by omega, hl⟩ q
theorem Nx_ex {E : Nat → Nat → Nat → Prop} {a T d : Nat} (h : Ds E a T (d + 1)) : ∃ l b, Nx E T a l b d := by
  obtain ⟨⟨l, b, h1, h2⟩, h3⟩ := h
  obtain ⟨l0, ⟨b0, g1, g2⟩, g3⟩ := least (P := fun l => ∃ b, E a l b ∧ Wy E d b T) l ⟨b, h1, h2⟩
  refine ⟨l0, b0, g1, ⟨g2, fun e he => ?_⟩, fun l' b' e w => g3 l' ⟨b', e, w⟩⟩
  have := h3 (e + 1) ⟨l0, b0, g1, he⟩
  omega
section MST
variable {N m sp : Nat} {LP BK O : Nat → Nat} {sd : Nat → Int32}
theorem wm_stepLoop {T F i : Nat} {ro dp : Nat → Nat} {G : Nat → Prop} {what : Int32} {fa qu : Nat → Int32} {re : Int32} {Q : Int32 → (Nat → Int32) → (Nat → Int32) → (Nat → Int32) → (Nat → Int32) → Int32 → Int32 → Int32 → Prop} (hN : 6000 ≤ N) (hi5 : i < 5040) (hq : mQ m sp LP BK sd) (hs6 : sp ≤ 6) (hB : mB m F ro dp fa qu re) (hF : FB (Rl (Lg m sp (clf LP BK))) T F ro dp)
    (h : ∀ l, G l → ∀ rw' rt' sw' sb, Q (if what = 0 then jn ((l / 8 : Nat) : Int) else jn ((l % 8 : Nat) : Int)) rw' rt' fa qu re sw' sb) : ∀ (n j d : Nat) (r : Nat → Nat) (v5 v6 sw' sb : Int32) (rw' rt' : Nat → Int32), v5 = jn (rk m r : Int) → v6 = jn j → Pm m r → Ds (Lg m sp (clf LP BK)) (rk m r) T d → i + 1 ≤ d + j → j ≤ i + 1 → (j ≤ i → ∀ l, Gp (Lg m sp (clf LP BK)) T (i - j) (rk m r) d l → G l) → (j = i + 1 → ∃ l, G l ∧ sw' = jn ((l / 8 : Nat) : Int) ∧ sb = jn ((l % 8 : Nat) : Int)) → i + 1 < n + j → wp_X12_step_77 N sd Q n (jn i) what v5 v6 rw' rt' fa qu re sw' sb := by
  have hm := hq.2.2.2.2.1
  intro n
  induction n with
  | zero => intro j d r v5 v6 sw' sb rw' rt' _ _ _ _ _ h1 _ _ h2; omega
  | succ n ih =>
    intro j d r v5 v6 sw' sb rw' rt' e5 e6 hr hD hdj hj hG hE hn
    unfold wp_X12_step_77 wp_X12_step_112
    subst e6
    rw [jn_lt (by omega) (by omega)]
    refine ⟨fun z => ?_, fun z => ?_⟩
    · obtain ⟨l, l1, l2, l3⟩ := hE (by omega)
      have hh := h l l1 rw' rt' sw' sb
      refine ⟨fun w => ?_, fun w => ?_⟩
      · rw [if_pos w] at hh; rw [l2] at hh ⊢; exact hh
      · rw [if_neg w] at hh; rw [l3] at hh ⊢; exact hh
    · obtain ⟨d, rfl⟩ : ∃ d', d = d' + 1 := ⟨d - 1, by omega⟩
      obtain ⟨l0, b, hx⟩ := Nx_ex hD
      have hx1 := hx.1
      rw [Lg_iff hm hr] at hx1
      obtain ⟨ho, hb⟩ := hx1
      have hr' := nxl_Pm hr ho
      have far : ∀ s e, Pm m s → Ds (Lg m sp (clf LP BK)) (rk m s) T e → e < 5040 ∧ fa (rk m s) = jn (e : Int) := by
        intro s e hs he
        rcases mB_at hB hF (rk_lt (r := s) hm) with ⟨d1, g1, g2, g3⟩ | ⟨g1, g2⟩
        · have := Ds_un (Ds_rl.mp g1) he
          subst this; exact ⟨g2, g3⟩
        · exact absurd (Ds_rl.mpr he) (g1 e)
      have f1 := far r (d + 1) hr hD
      have hx2 := hx.2.1
      rw [← hb] at hx2
      have f2 := far _ d hr' hx2
      have hsub : fa (rk m r) - 1 = jn (d : Int) := by
        rw [f1.2, li_1, jn_sub]; exact congrArg jn (by omega)
      refine wm_nearer (c0 := l0 / 8) (k0 := l0 % 8) (by omega) hq hs6 hr e5 ho (by rw [hsub]; exact f2.2) (fun c k hok hlt hfa => ?_) (fun rw2 rt2 => ?_)
      · have hk6 : k ≤ 6 := by have := hok.2.2.1; omega
        have hl : (8 * c + k) / 8 = c ∧ (8 * c + k) % 8 = k := by omega
        have hP := nxl_Pm hr hok
        have hEd : Lg m sp (clf LP BK) (rk m r) (8 * c + k) (rk m (nxl m r c k)) := by
          rw [Lg_iff hm hr, hl.1, hl.2]; exact ⟨hok, rfl⟩
        rw [hsub] at hfa
        rcases mB_at hB hF (rk_lt (r := nxl m r c k) hm) with ⟨d1, g1, g2, g3⟩ | ⟨g1, g2⟩
        · rw [g3, jn_eq (by omega) (by omega)] at hfa
          have e : d1 = d := by omega
          subst e
          have := hx.2.2 _ _ hEd (Ds_rl.mp g1).1
          omega
        · rw [g2, show (-1 : Int32) = jn (-1) from rfl, jn_eq (by omega) (by omega)] at hfa
          omega
      · refine ih (j + 1) d (nxl m r (l0 / 8) (l0 % 8)) _ _ _ _ _ _ rfl (by (first | rfl | (simp (disch := omega) only [jn_add, jn_sub, jn_mul, jn_neg, li_0, li_1, li_2, li_3, li_4, li_5, li_6, li_7, li_8, li_9, li_10, li_11, li_12, li_13, li_14, li_15, li_16, li_17, li_18, li_20, li_24, li_29, li_30, li_31, li_32, li_37, li_39, li_40, li_42, li_43, li_45, li_46, li_47, li_48, li_53, li_57, li_59, li_60, li_61, li_62, li_63, li_80, li_81, li_91, li_93, li_97, li_100, li_122, li_200, li_255, li_256, li_257, li_258, li_259, li_260, li_300, li_314, li_400, li_580, li_999, li_5040, li_9999, li_65536, li_99999, li_7654321] <;> first | rfl | exact congrArg jn (by omega)) | exact congrArg jn (by omega))) hr' hx2 (by omega) (by omega) (fun hji l hl => ?_) (fun hji => ⟨l0, ?_, rfl, rfl⟩) (by omega)
        · refine hG (by omega) l ?_
          rw [show i - j = (i - (j + 1)) + 1 by omega]
          rw [hb] at hl
          exact ⟨l0, b, d, rfl, hx, hl⟩
        · refine hG (by omega) l0 ?_
          rw [show i - j = 0 by omega]
          exact ⟨b, d, rfl, hx⟩
end MST
