/-! the reference reads a rule: signs laid down, values -/
def mC (t : Nat) (sg ln : Nat → Int32) (T : List Nat) : Prop := (∀ (i v : Nat), T[i]? = some v → sg (400 * t + i) = jn (mt v)) ∧ ln t = jn T.length
/-- only the rows of one text change -/
def mFr (t : Nat) (sg ln sg' ln' : Nat → Int32) : Prop := (∀ j, ¬ (400 * t ≤ j ∧ j < 400 * t + 400) → sg' j = sg j) ∧ (∀ j, j ≠ t → ln' j = ln j)
theorem mFr_refl {t : Nat} {sg ln : Nat → Int32} : mFr t sg ln sg ln := ⟨fun _ _ => rfl, fun _ _ => rfl⟩
theorem mFr_trans {t : Nat} {sg ln sg1 ln1 sg2 ln2 : Nat → Int32} (h : mFr t sg ln sg1 ln1) (h' : mFr t sg1 ln1 sg2 ln2) : mFr t sg ln sg2 ln2 :=
  ⟨fun j hj => (h'.1 j hj).trans (h.1 j hj), fun j hj => (h'.2 j hj).trans (h.2 j hj)⟩
/-- what is laid down once all that binds so strongly is -/
def TM (m : Nat) (s : pS) : List Nat := fm (p_d s) ++ p_u s ++ (popG m (p_p s) (p_w s)).2
section MS
variable {N n : Nat} {b : Nat → Int} {bt : Nat → Int32} {t : Nat}
theorem wm_puts {Q : (Nat → Int32) → (Nat → Int32) → Prop} {tx x y : Int32} {sg ln : Nat → Int32} {T : List Nat} {v : Nat} (ht : t < 6) (htx : tx = jn t) (hC : mC t sg ln T) (hl : T.length < 400) (hv : x + (16 : Int32) * y = jn (mt v)) (h : ∀ sg' ln', mC t sg' ln' (T ++ [v]) → mFr t sg ln sg' ln' → Q sg' ln') : wp_X12_puts N tx Q x y sg ln := by
  subst htx
  unfold wp_X12_puts
  rw [jn_cln (by omega), hC.2, show (400 : Int32) * jn t + jn (T.length : Int) = jn ((400 * t + T.length : Nat) : Int) from by (first | rfl | (simp (disch := omega) only [jn_add, jn_sub, jn_mul, jn_neg, li_0, li_1, li_2, li_3, li_4, li_5, li_6, li_7, li_8, li_9, li_10, li_11, li_12, li_13, li_14, li_15, li_16, li_17, li_18, li_20, li_24, li_29, li_30, li_31, li_32, li_37, li_39, li_40, li_42, li_43, li_45, li_46, li_47, li_48, li_53, li_57, li_59, li_60, li_61, li_62, li_63, li_80, li_81, li_91, li_93, li_97, li_100, li_122, li_200, li_255, li_256, li_257, li_258, li_259, li_260, li_300, li_314, li_400, li_580, li_999, li_5040, li_9999, li_65536, li_99999, li_7654321] <;> first | rfl | exact congrArg jn (by omega)) | exact congrArg jn (by omega)), jn_cln (by omega), hv]
  refine ⟨by simp (disch := omega) only [jn_le, jn_lt, jn_eq, jn_in, jn_add, jn_sub, jn_mul, jn_neg, li_0, li_1, li_2, li_3, li_4, li_5, li_6, li_7, li_8, li_9, li_10, li_11, li_12, li_13, li_14, li_15, li_16, li_17, li_18, li_20, li_24, li_29, li_30, li_31, li_32, li_37, li_39, li_40, li_42, li_43, li_45, li_46, li_47, li_48, li_53, li_57, li_59, li_60, li_61, li_62, li_63, li_80, li_81, li_91, li_93, li_97, li_100, li_122, li_200, li_255, li_256, li_257, li_258, li_259, li_260, li_300, li_314, li_400, li_580, li_999, li_5040, li_9999, li_65536, li_99999, li_7654321] <;> omega, by simp (disch := omega) only [jn_le, jn_lt, jn_eq, jn_in, jn_add, jn_sub, jn_mul, jn_neg, li_0, li_1, li_2, li_3, li_4, li_5, li_6, li_7, li_8, li_9, li_10, li_11, li_12, li_13, li_14, li_15, li_16, li_17, li_18, li_20, li_24, li_29, li_30, li_31, li_32, li_37, li_39, li_40, li_42, li_43, li_45, li_46, li_47, li_48, li_53, li_57, li_59, li_60, li_61, li_62, li_63, li_80, li_81, li_91, li_93, li_97, li_100, li_122, li_200, li_255, li_256, li_257, li_258, li_259, li_260, li_300, li_314, li_400, li_580, li_999, li_5040, li_9999, li_65536, li_99999, li_7654321] <;> omega, fun a1 h1 => ⟨by simp (disch := omega) only [jn_le, jn_lt, jn_eq, jn_in, jn_add, jn_sub, jn_mul, jn_neg, li_0, li_1, li_2, li_3, li_4, li_5, li_6, li_7, li_8, li_9, li_10, li_11, li_12, li_13, li_14, li_15, li_16, li_17, li_18, li_20, li_24, li_29, li_30, li_31, li_32, li_37, li_39, li_40, li_42, li_43, li_45, li_46, li_47, li_48, li_53, li_57, li_59, li_60, li_61, li_62, li_63, li_80, li_81, li_91, li_93, li_97, li_100, li_122, li_200, li_255, li_256, li_257, li_258, li_259, li_260, li_300, li_314, li_400, li_580, li_999, li_5040, li_9999, li_65536, li_99999, li_7654321] <;> omega, by simp (disch := omega) only [jn_le, jn_lt, jn_eq, jn_in, jn_add, jn_sub, jn_mul, jn_neg, li_0, li_1, li_2, li_3, li_4, li_5, li_6, li_7, li_8, li_9, li_10, li_11, li_12, li_13, li_14, li_15, li_16, li_17, li_18, li_20, li_24, li_29, li_30, li_31, li_32, li_37, li_39, li_40, li_42, li_43, li_45, li_46, li_47, li_48, li_53, li_57, li_59, li_60, li_61, li_62, li_63, li_80, li_81, li_91, li_93, li_97, li_100, li_122, li_200, li_255, li_256, li_257, li_258, li_259, li_260, li_300, li_314, li_400, li_580, li_999, li_5040, li_9999, li_65536, li_99999, li_7654321] <;> omega, fun a2 h2 => h a1 a2 ⟨fun i w hi => ?_, ?_⟩ ⟨fun j hj => ?_, fun j hj => ?_⟩⟩⟩
  · by_cases e : i < T.length
    · rw [List.getElem?_append_left e] at hi
      rw [h1, upd_ne (by omega)]; exact hC.1 i w hi
    · by_cases e2 : i = T.length
      · subst e2
        rw [List.getElem?_append_right (Nat.le_refl _), Nat.sub_self] at hi
        cases hi
        rw [h1, upd_at]
      · rw [List.getElem?_eq_none (by rw [List.length_append, List.length_singleton]; omega)] at hi; cases hi
  · rw [h2, upd_at, List.length_append, List.length_singleton, li_1, jn_add]; rfl
  · rw [h1, upd_ne (by omega)]
  · rw [h2, upd_ne hj]
theorem wm_makes {Q : Int32 → Int32 → Int32 → Prop} {x md : Int32} {p v : Nat} (hx : x = jn p) (hm : md = jn v) (hv : v ≤ 60) (h0 : v = 60 → Q 0 (jn ((1 + 8 * p + 3 : Nat) : Int)) md) (h1 : v < 60 → Q 1 0 (jn ((v + 1 : Nat) : Int))) : wp_X12_makes N Q x 0 md := by
  unfold wp_X12_makes
  rw [show (md = (60 : Int32)) = (v = 60) by rw [hm, li_60, jn_eq (by omega) (by omega)]; exact propext ⟨fun z => by omega, fun z => by omega⟩]
  refine ⟨fun z => wm_fails (kd := 3) rfl hx ⟨Or.inl rfl, h0 z⟩, fun z => ?_⟩
  rw [hm, li_1, jn_add]; exact h1 (by omega)
theorem wm_value {s : pS} {k a : Nat} {T : List Nat} {Q : Int32 → (Nat → Int32) → (Nat → Int32) → Int32 → Int32 → Int32 → Int32 → Prop} {tx nx nu md : Int32} {sg ln : Nat → Int32} (hN : 500 ≤ N) (hn : n ≤ 400) (hB : ∀ i, i < n → bt i = jn (b i)) (bB : ∀ i, -128 ≤ b i ∧ b i ≤ 127) (ht : t < 6) (htx : tx = jn t) (ha : a ≤ n) (hnx : nx = jn a) (hsa : skp b n a = skp b n (p_a s)) (hmd : md = jn (p_v s)) (hv60 : p_v s ≤ 60) (hC : mC t sg ln T) (hl : T.length < 400)
    (h0 : p_f (tkV b n s k) ≠ 0 → ∀ nx nu md, Q 0 sg ln nx (jn (p_f (tkV b n s k))) nu md)
    (h1 : p_f (tkV b n s k) = 0 → ∀ sg' ln' nu, mC t sg' ln' (T ++ [vtok b n s]) → mFr t sg ln sg' ln' → Q 1 sg' ln' (jn (at1 b n s)) 0 nu (jn ((p_v s + 1 : Nat) : Int))) : wp_X12_value N bt (jn n) tx Q sg ln nx 0 nu md := by
  have hsk := skp_le (b := b) ha
  have hss := skp_skp (b := b) ha
  have hr := numb_r (b := b) (n := n) (p := skp b n (p_a s))
  unfold wp_X12_value
  refine wm_see hN hn hB bB ha hnx ?_
  rw [hsa] at hsk hss ⊢
  have fl0 : ∀ kd, tkV b n s k = flt b n s kd → p_f (tkV b n s k) = 1 + 8 * skp b n (p_a s) + kd := fun kd e => by rw [e]; rfl
  refine wm_isDigit hn hB bB (by omega) rfl ?_
  by_cases hs : sg0 b n s = 257
  · rw [if_pos (sgn_num.mp hs)]
    refine ⟨fun z => absurd z (by decide), fun _ => ?_⟩
    unfold wp_X12_value_39
    refine wm_numberHere (lo := 0) (hi := 99999) hN hn hB bB hsk.2 rfl rfl rfl (by omega) (by omega) (fun z => ?_) (fun z z2 e v => ?_) (fun z z2 => ?_)
    · rw [hss] at z; exact absurd hs z
    · rw [hss] at z2 ⊢
      have e1 : tkV b n s k = flt b n s 1 := by
        unfold tkV; rw [if_neg (by omega), if_pos ⟨hs, by omega⟩]
      have hf := fl0 1 e1
      refine ⟨fun _ => ?_, fun y => absurd rfl y⟩
      rw [← hf]; exact h0 (by rw [hf]; omega) _ _ _
    · rw [hss] at z2 ⊢
      refine ⟨fun y => absurd y (by decide), fun _ => ?_⟩
      refine wm_makes rfl hmd hv60 (fun y => ?_) (fun y => ?_)
      · have e1 : tkV b n s k = flt b n s 3 := by
          unfold tkV; rw [if_neg (by omega), if_neg (by omega), if_pos (by omega)]
        have hf := fl0 3 e1
        refine ⟨fun _ => ?_, fun y => absurd rfl y⟩
        rw [← hf]; exact h0 (by rw [hf]; omega) _ _ _
      · have e1 : p_f (tkV b n s k) = 0 := by
          unfold tkV; rw [if_neg (by omega), if_neg (by omega), if_neg (by omega)]; rfl
        refine ⟨fun y => absurd y (by decide), fun _ => ?_⟩
        have ev : vtok b n s = 32 * (numb b n (skp b n (p_a s))).toNat := by unfold vtok; rw [if_pos hs]
        refine wm_puts (v := vtok b n s) ht htx hC hl ?_ (fun sg' ln' g1 g2 => h1 e1 sg' ln' _ g1 g2)
        rw [ev]
        unfold mt
        rw [if_pos (by omega), li_0, show (16 : Int32) = jn 16 from rfl, jn_mul, jn_add]
        exact congrArg jn (by omega)
  · rw [if_neg (fun y => hs (sgn_num.mpr y))]
    refine ⟨fun _ => ?_, fun y => absurd rfl y⟩
    refine wm_wordHere hN hn hB bB hsk.2 rfl (fun i hi hw => ?_) (fun hw => ?_)
    · rw [hss] at hw ⊢
      have hw : sg0 b n s = 300 + i := hw
      refine ⟨fun _ => ?_, fun y => ?_⟩
      · refine wm_makes rfl hmd hv60 (fun y => ?_) (fun y => ?_)
        · have e1 : tkV b n s k = flt b n s 3 := by
            unfold tkV; rw [if_neg (by omega), if_neg (by omega), if_pos (by omega)]
          have hf := fl0 3 e1
          refine ⟨fun _ => ?_, fun y => absurd rfl y⟩
          rw [← hf]; exact h0 (by rw [hf]; omega) _ _ _
        · have e1 : p_f (tkV b n s k) = 0 := by
            unfold tkV; rw [if_neg (by omega), if_neg (by omega), if_neg (by omega)]; rfl
          refine ⟨fun y => absurd y (by decide), fun _ => ?_⟩
          refine wm_passWord hN hn hB bB hsk.2 rfl ?_
          rw [← en_word (i := i) (by omega) hw]
          have ev : vtok b n s = 1 + 32 * i := by unfold vtok; rw [if_neg hs, hw]; omega
          refine wm_puts (v := vtok b n s) ht htx hC hl ?_ (fun sg' ln' g1 g2 => h1 e1 sg' ln' _ g1 g2)
          rw [ev]
          unfold mt
          rw [if_pos (by omega), li_1, show (16 : Int32) = jn 16 from rfl, jn_mul, jn_add]
          exact congrArg jn (by omega)
      · rw [li_0, jn_le (by omega) (by omega)] at y; omega
    · rw [hss] at hw ⊢
      refine ⟨fun y => absurd y (by decide), fun _ => ?_⟩
      have e1 : tkV b n s k = flt b n s 0 := by
        unfold tkV
        rw [if_pos]
        refine ⟨hs, fun y => ?_⟩
        have : sgn b n (skp b n (p_a s)) ≠ 300 + (sg0 b n s - 300) := hw (sg0 b n s - 300) (by omega)
        unfold sg0 at this y
        omega
      have hf := fl0 0 e1
      refine wm_fails (kd := 0) rfl rfl ⟨Or.inl rfl, ?_⟩
      rw [← hf]; exact h0 (by rw [hf]; omega) _ _ _
end MS
