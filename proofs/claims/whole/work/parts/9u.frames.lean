/-! what a call leaves as it is -/
section FRM
variable {a : aS} {v0 v1 v2 v3 v4 p q : Int32} {pb : Nat → Int32} {pl : Int32} {t s m tn nm inf inf' x x' rm nm' : Int32} {lb lv lr od bk br lp nt nc nt' nc' : Nat → Int32} {rl : Nat → Option Nat}
theorem fr_feed : a_r (F_feed a v0 v1 v2 v3 v4).2 = a_r a ∧ a_s (F_feed a v0 v1 v2 v3 v4).2 = a_s a ∧ a_m (F_feed a v0 v1 v2 v3 v4).2 = a_m a := by
  unfold F_feed; split <;> exact ⟨rfl, rfl, rfl⟩
theorem fr_end : a_r (F_end a p).2 = a_r a ∧ a_s (F_end a p).2 = a_s a ∧ a_m (F_end a p).2 = a_m a := by
  unfold F_end; split <;> exact ⟨rfl, rfl, rfl⟩
theorem fr_force : (mTp a pb pl → mTp (F_force a p).2 pb pl) ∧ a_r (F_force a p).2 = a_r a ∧ a_m (F_force a p).2 = a_m a ∧ (cSt t s m lb lv lr tn od bk br lp nm nt nc inf x (a_s a) → inf' = jn (s_f (a_s (F_force a p).2)) → cSt t s m lb lv lr tn od bk br lp nm nt nc inf' x (a_s (F_force a p).2)) := by
  unfold F_force
  split <;> exact ⟨fun h => h, rfl, rfl, fun h e => ⟨h.1, h.2.1, h.2.2.1, e, h.2.2.2.2⟩⟩
theorem fr_seed : (mTp a pb pl → mTp (F_seed a p).2 pb pl) ∧ a_r (F_seed a p).2 = a_r a ∧ a_m (F_seed a p).2 = a_m a ∧ (cSt t s m lb lv lr tn od bk br lp nm nt nc inf x (a_s a) → x' = jn (s_x (a_s (F_seed a p).2) : Int) → cSt t s m lb lv lr tn od bk br lp nm nt nc inf x' (a_s (F_seed a p).2)) := by
  unfold F_seed
  split <;> exact ⟨fun h => h, rfl, rfl, fun h e => ⟨h.1, h.2.1, h.2.2.1, h.2.2.2.1, e⟩⟩
theorem fr_note : (mTp a pb pl → mTp (F_note a p q).2 pb pl) ∧ a_r (F_note a p q).2 = a_r a ∧ a_m (F_note a p q).2 = a_m a ∧ (cSt t s m lb lv lr tn od bk br lp nm nt nc inf x (a_s a) → cN nm' nt' nc' (a_v (F_note a p q).2) → cSt t s m lb lv lr tn od bk br lp nm' nt' nc' inf x (a_s (F_note a p q).2)) := by
  unfold F_note
  split
  · exact ⟨fun h => h, rfl, rfl, fun h e => ⟨h.1, h.2.1, e, h.2.2.2⟩⟩
  · split
    · exact ⟨fun h => h, rfl, rfl, fun h e => ⟨h.1, h.2.1, e, h.2.2.2⟩⟩
    · split <;> exact ⟨fun h => h, rfl, rfl, fun h e => ⟨h.1, h.2.1, e, h.2.2.2⟩⟩
theorem fr_lane : a_r (F_lane a).2 = a_r a := by
  unfold F_lane; split <;> rfl
theorem f_neg (hA : AOk a) (h : s_f (a_s a) < 0) (e : inf = jn (s_f (a_s a))) : inf < 0 := by
  have h4 := (AOk_s hA).2.2.2.1
  rw [e, li_0, jn_lt (by omega) (by omega)]; omega
theorem f_pos {i : Nat} (hA : AOk a) (h : s_f (a_s a) = (i : Int)) (hr : rm = jn (a_r a : Int)) (hl : rl i = some 39) (e : inf = jn (s_f (a_s a))) : ¬ inf < 0 ∧ ¬ rm ≤ inf ∧ vp_in inf 6 ∧ rl inf.toNatClampNeg = some 39 := by
  have h4 := (AOk_s hA).2.2.2.1
  have h6 := hA.2.2.1
  subst hr
  rw [e, h, li_0, jn_lt (by omega) (by omega), jn_le (by omega) (by omega), jn_cln (by omega)]
  exact ⟨by omega, by omega, by simp (disch := omega) only [jn_le, jn_lt, jn_eq, jn_in, jn_add, jn_sub, jn_mul, jn_neg, li_0, li_1, li_2, li_3, li_4, li_5, li_6, li_7, li_8, li_9, li_10, li_11, li_12, li_13, li_14, li_15, li_16, li_17, li_18, li_20, li_24, li_29, li_30, li_31, li_32, li_37, li_39, li_40, li_42, li_43, li_45, li_46, li_47, li_48, li_53, li_57, li_59, li_60, li_61, li_62, li_63, li_80, li_81, li_91, li_93, li_97, li_100, li_122, li_200, li_255, li_256, li_257, li_258, li_259, li_260, li_300, li_314, li_400, li_580, li_999, li_5040, li_9999, li_65536, li_99999, li_7654321] <;> omega, hl⟩
theorem rNow_none (h : s_f (a_s a) < 0) : rNow a = none := if_pos h
theorem rNow_some {i : Nat} (h : s_f (a_s a) = (i : Int)) : rNow a = some (rFn a i) := by
  unfold rNow
  rw [if_neg (by omega), h, Int.toNat_natCast]
end FRM
