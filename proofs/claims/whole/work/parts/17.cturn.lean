/-! the class's Umpire -/
def cL (t s m : Int32) (b p r : Nat → Int32) (l : lS) : Prop := t = jn (l_t l) ∧ s = jn (l_s l) ∧ m = jn (l_k l) ∧ ar (l_k l) b (l_b l) ∧ ar (l_k l) p (l_l l) ∧ ar (l_k l) r (l_r l)
def cG (k : Nat) (t : Int32) (o b r p : Nat → Int32) (g : gS) : Prop := t = jn (g_t g) ∧ ar k o (g_o g) ∧ ar k b (g_b g) ∧ ar k r (g_r g) ∧ ar k p (g_p g)
theorem wl_bitCount {N n : Nat} {Q : Int32 → Prop} {x : Int32} (hn : n < 128) (hx : x = jn n) (h : Q (jn (cnt (fun c => n.testBit c) 7))) : wp_J6_bitCount_0f7a4 N Q x := by
  unfold wp_J6_bitCount_0f7a4
  intro x1 e1 x2 e2 x3 e3 x4 e4 x5 e5
  have key : ∀ n : Fin 128, ∀ p0 : Int32, p0 = jn (n.val : Int) → ∀ x1 : Int32, x1 = p0 - (((p0.toUInt32 >>> ((1 : Int32).toUInt32 &&& Int32.toUInt32 31)).toInt32) &&& (1431655765 : Int32)) → (∀ x2 : Int32, x2 = (x1 &&& (858993459 : Int32)) + (((x1.toUInt32 >>> ((2 : Int32).toUInt32 &&& Int32.toUInt32 31)).toInt32) &&& (858993459 : Int32)) → (∀ x3 : Int32, x3 = (x2 + ((x2.toUInt32 >>> ((4 : Int32).toUInt32 &&& Int32.toUInt32 31)).toInt32)) &&& (252645135 : Int32) → (∀ x4 : Int32, x4 = x3 + ((x3.toUInt32 >>> ((8 : Int32).toUInt32 &&& Int32.toUInt32 31)).toInt32) → (∀ x5 : Int32, x5 = x4 + ((x4.toUInt32 >>> ((16 : Int32).toUInt32 &&& Int32.toUInt32 31)).toInt32) → (x5 &&& (63 : Int32)) = jn (cnt (fun c => n.val.testBit c) 7))))) := by
    have k2 : ∀ n : Fin 128, (let p0 := jn (n.val : Int); let x1 := p0 - (((p0.toUInt32 >>> ((1 : Int32).toUInt32 &&& Int32.toUInt32 31)).toInt32) &&& (1431655765 : Int32)); let x2 := (x1 &&& (858993459 : Int32)) + (((x1.toUInt32 >>> ((2 : Int32).toUInt32 &&& Int32.toUInt32 31)).toInt32) &&& (858993459 : Int32)); let x3 := (x2 + ((x2.toUInt32 >>> ((4 : Int32).toUInt32 &&& Int32.toUInt32 31)).toInt32)) &&& (252645135 : Int32); let x4 := x3 + ((x3.toUInt32 >>> ((8 : Int32).toUInt32 &&& Int32.toUInt32 31)).toInt32); let x5 := x4 + ((x4.toUInt32 >>> ((16 : Int32).toUInt32 &&& Int32.toUInt32 31)).toInt32); (x5 &&& (63 : Int32)) = jn (cnt (fun c => n.val.testBit c) 7)) := by decide +kernel
    intro n p0 e0 x1 e1 x2 e2 x3 e3 x4 e4 x5 e5
    subst e0 e1 e2 e3 e4 e5
    exact k2 n
  rw [key ⟨n, hn⟩ x hx x1 e1 x2 e2 x3 e3 x4 e4 x5 e5]
  exact h
theorem wl_tellWords {N : Nat} {l : lS} {g : gS} {p : Nat} {od bk br lp lv : Nat → Int32} {tn x : Int32} {Q : (Nat → Int64) → Prop} {u : Nat → Int64} (hN : 10 ≤ N) (hl : LOk l) (hg : GOk (l_k l) g) (hG : cG (l_k l) tn od bk br lp g) (hL : ar (l_k l) lv (l_l l)) (ht : g_t g < 1000000) (hp : p < l_k l) (hx : x = jn p) (h : ∀ w : Nat → Int64, (∀ i, i < 10 → i ≠ 8 → w i = wds l g (g_o g p) i) → Q w) : wp_X10_tellWords N (jn (l_s l)) (jn (l_k l)) lv tn od bk br lp Q x u := by
  obtain ⟨-, hs6, hk, -, -, hll, -⟩ := hl
  obtain ⟨hP, hb, hr, hpp⟩ := hg
  obtain ⟨h1, h2, h3, h4, h5⟩ := hG
  have hc := hP.1 p hp
  have b1 := hb (g_o g p)
  have b2 := hr (g_o g p)
  have b3 := hpp (g_o g p)
  have b4 := hll (g_o g p)
  have hiv := iv_eq hP hp
  have hpl : plc l g (g_o g p) = p := hiv
  unfold wp_X10_tellWords
  subst hx
  refine ⟨by simp (disch := omega) only [jn_le, jn_lt, jn_eq, jn_in, jn_add, jn_sub, jn_mul, jn_neg, li_0, li_1, li_2, li_3, li_4, li_5, li_6, li_7, li_8, li_9, li_10, li_11, li_12, li_13, li_14, li_15, li_16, li_17, li_18, li_20, li_24, li_29, li_30, li_31, li_32, li_37, li_39, li_40, li_42, li_43, li_45, li_46, li_47, li_48, li_53, li_57, li_59, li_60, li_61, li_62, li_63, li_80, li_81, li_91, li_93, li_97, li_100, li_122, li_200, li_255, li_256, li_257, li_258, li_259, li_260, li_300, li_314, li_400, li_580, li_999, li_5040, li_9999, li_65536, li_99999, li_7654321] <;> omega, fun y hy => ?_⟩
  rw [jn_cln (by omega), h2 p hp] at hy
  subst hy
  rw [jn_cln (by omega), h3 _ hc, h4 _ hc, h5 _ hc, hL _ hc]
  have hi : vp_in (jn (g_o g p)) 7 := by simp (disch := omega) only [jn_le, jn_lt, jn_eq, jn_in, jn_add, jn_sub, jn_mul, jn_neg, li_0, li_1, li_2, li_3, li_4, li_5, li_6, li_7, li_8, li_9, li_10, li_11, li_12, li_13, li_14, li_15, li_16, li_17, li_18, li_20, li_24, li_29, li_30, li_31, li_32, li_37, li_39, li_40, li_42, li_43, li_45, li_46, li_47, li_48, li_53, li_57, li_59, li_60, li_61, li_62, li_63, li_80, li_81, li_91, li_93, li_97, li_100, li_122, li_200, li_255, li_256, li_257, li_258, li_259, li_260, li_300, li_314, li_400, li_580, li_999, li_5040, li_9999, li_65536, li_99999, li_7654321] <;> omega
  refine ⟨by unfold vp_in; decide, fun a2 e2 => ⟨by unfold vp_in; decide, fun a3 e3 => ⟨hi, by unfold vp_in; decide, fun a4 e4 => ⟨hi, by unfold vp_in; decide, fun a5 e5 => ⟨hi, by unfold vp_in; decide, fun a6 e6 => ?_⟩⟩⟩⟩⟩
  refine wl_overFrom hk hs6 hN h2 h3 hL hP hb hll hp rfl ?_
  refine ⟨by unfold vp_in; decide, fun a8 e8 => ⟨hi, by unfold vp_in; decide, fun a9 e9 => ⟨by unfold vp_in; decide, fun a10 e10 => ⟨by unfold vp_in; decide, fun a11 e11 => ?_⟩⟩⟩⟩
  refine h a11 (fun i hi hn => ?_)
  have bo : ovr (l_s l) (g_o g) (g_b g) (l_l l) p ≤ min (l_s l) p := ovr_le
  have e : i = 0 ∨ i = 1 ∨ i = 2 ∨ i = 3 ∨ i = 4 ∨ i = 5 ∨ i = 6 ∨ i = 7 ∨ i = 9 := by omega
  rcases e with e | e | e | e | e | e | e | e | e <;> subst e
  · rw [e11, updL_ne (by decide), e10, updL_ne (by decide), e9, updL_ne (by decide), e8, updL_ne (by decide), e6, updL_ne (by decide), e5, updL_ne (by decide), e4, updL_ne (by decide), e3, updL_ne (by decide), e2]
    exact (updL_at).trans (jn_l (by omega))
  · rw [e11, updL_ne (by decide), e10, updL_ne (by decide), e9, updL_ne (by decide), e8, updL_ne (by decide), e6, updL_ne (by decide), e5, updL_ne (by decide), e4, updL_ne (by decide), e3]
    refine (updL_at).trans ((jn_l (by omega)).trans ?_)
    show jl p = jl (plc l g (g_o g p)); rw [hpl]
  · rw [e11, updL_ne (by decide), e10, updL_ne (by decide), e9, updL_ne (by decide), e8, updL_ne (by decide), e6, updL_ne (by decide), e5, updL_ne (by decide), e4]
    exact (updL_at).trans (jn_l (by omega))
  · rw [e11, updL_ne (by decide), e10, updL_ne (by decide), e9, updL_ne (by decide), e8, updL_ne (by decide), e6, updL_ne (by decide), e5]
    exact (updL_at).trans (jn_l (by omega))
  · rw [e11, updL_ne (by decide), e10, updL_ne (by decide), e9, updL_ne (by decide), e8, updL_ne (by decide), e6]
    exact (updL_at).trans (jn_l (by omega))
  · rw [e11, updL_ne (by decide), e10, updL_ne (by decide), e9, updL_ne (by decide), e8]
    refine (updL_at).trans ((jn_l (by omega)).trans ?_)
    show _ = jl (ovr (l_s l) (g_o g) (g_b g) (l_l l) (plc l g (g_o g p))); rw [hpl]
  · rw [e11, updL_ne (by decide), e10, updL_ne (by decide), e9]
    exact (updL_at).trans (jn_l (by omega))
  · rw [e11, updL_ne (by decide), e10]
    exact (updL_at).trans (jn_l (by omega))
  · rw [e11, h1]
    exact (updL_at).trans (jn_l (by omega))
