/-! the reference reckons a rule, clause by clause -/
def fmc (c : cS1) : List Nat := c.1 ++ c.2.getD []
def fm (d : List cS1) : List Nat := d.flatMap fmc
theorem fm_app {d d' : List cS1} : fm (d ++ d') = fm d ++ fm d' := by unfold fm; rw [List.flatMap_append]
theorem fm_one {c : cS1} : fm [c] = fmc c := by unfold fm; simp
/-- where a clause begins -/
def bg (d : List cS1) (j : Nat) : Nat := (fm (d.take j)).length
/-- a clause in the reference's table -/
def mCl (cl : Nat → Int32) (at' : Nat) (b0 : Nat) (c : cS1) : Prop := cl at' = jn b0 ∧ cl (at' + 1) = jn ((b0 + c.1.length : Nat) : Int) ∧ (c.2 = none → cl (at' + 2) = -1) ∧ (∀ t, c.2 = some t → cl (at' + 2) = jn ((b0 + c.1.length : Nat) : Int) ∧ cl (at' + 3) = jn ((b0 + c.1.length + t.length : Nat) : Int))
/-- the reference's rows hold a rule -/
def mRu (sg cl cs : Nat → Int32) (r : Nat) (d : List cS1) : Prop := cs r = jn d.length ∧ d.length ≤ 12 ∧ (fm d).length ≤ 400 ∧ (∀ (i v : Nat), (fm d)[i]? = some v → sg (400 * r + i) = jn (mt v)) ∧ (∀ (j : Nat) (c : cS1), d[j]? = some c → mCl cl (48 * r + 4 * j) (bg d j) c)
theorem fm_split {d : List cS1} {j : Nat} {c : cS1} (h : d[j]? = some c) : fm d = fm (d.take j) ++ (fmc c ++ fm (d.drop (j + 1))) := by
  have hj : j < d.length := by
    by_cases e : j < d.length
    · exact e
    · rw [List.getElem?_eq_none (by omega)] at h; cases h
  have e : d = d.take j ++ (c :: d.drop (j + 1)) := by
    rw [List.getElem?_eq_getElem hj] at h
    cases h
    rw [List.getElem_cons_drop, List.take_append_drop]
  conv => lhs; rw [e]
  rw [fm_app]
  congr 1
section MW2
variable {N : Nat} {sg cl cs : Nat → Int32}
theorem wm_reckons {Q : Int64 → (Nat → Int64) → Int32 → Prop} {w sk : Nat → Int64} {tp x y z : Int32} {r b0 : Nat} {l : List Nat} {t : Bool} (hN : 500 ≤ N) (hr : r < 6) (he : b0 + l.length ≤ 400) (hx : x = jn r) (hy : y = jn b0) (hz : z = jn ((b0 + l.length : Nat) : Int)) (hc : ∀ (j v : Nat), l[j]? = some v → sg (400 * r + (b0 + j)) = jn (mt v)) (ht : tyr l [] = some [t]) (h : ∀ sk tp, Q (hd0 (evl w l [])) sk tp) : wp_X12_reckons N sg w Q x y z sk tp := by
  subst hx hy hz
  unfold wp_X12_reckons
  obtain ⟨m, rfl⟩ : ∃ m, N = (m + 1) + l.length := ⟨N - l.length - 1, by omega⟩
  refine wm_evl hr he (l := l) (ts := []) (st := []) (i := b0) (m := m + 1) hc (by omega) ht (by simp) trivial (fun j v hj => by simp at hj) (fun sk' hs' => ?_)
  obtain ⟨v, hv, -⟩ := evl_one (w := w) ht
  rw [hv] at hs' h ⊢
  unfold wp_X12_reckons_8
  rw [jn_le (by omega) (by omega)]
  refine ⟨fun _ => ?_, fun q => by omega⟩
  exact wm_pop hs' rfl (by simp) (h _ _)
theorem wm_summed {Q : Int64 → (Nat → Int64) → Int32 → Prop} {w sk : Nat → Int64} {tp x : Int32} {r : Nat} {d : List cS1} (hN : 500 ≤ N) (hr : r < 6) (hx : x = jn r) (hd : mRu sg cl cs r d) (ht : ∀ c, c ∈ d → ctO c) (h : ∀ sk tp, Q (ruv w d) sk tp) : wp_X12_summedBy N sg cl cs w Q x sk tp := by
  subst hx
  obtain ⟨h1, h2, h3, h4, h5⟩ := hd
  have key : ∀ (m j : Nat) (v : Int32) (sk : Nat → Int64) (tp : Int32), v = jn j → j ≤ d.length → ruv w d = ruv w (d.drop j) → d.length < m + j → wp_X12_summedBy_2 N sg cl cs w Q m (jn r) v sk tp := by
    intro m
    induction m with
    | zero => intro j v sk tp _ g1 _ g2; omega
    | succ m ih =>
      intro j v sk tp hv hj hru hm
      unfold wp_X12_summedBy_2
      subst hv
      rw [jn_cln (by omega), h1, jn_le (by omega) (by omega)]
      refine ⟨by simp (disch := omega) only [jn_le, jn_lt, jn_eq, jn_in, jn_add, jn_sub, jn_mul, jn_neg, li_0, li_1, li_2, li_3, li_4, li_5, li_6, li_7, li_8, li_9, li_10, li_11, li_12, li_13, li_14, li_15, li_16, li_17, li_18, li_20, li_24, li_29, li_30, li_31, li_32, li_37, li_39, li_40, li_42, li_43, li_45, li_46, li_47, li_48, li_53, li_57, li_59, li_60, li_61, li_62, li_63, li_80, li_81, li_91, li_93, li_97, li_100, li_122, li_200, li_255, li_256, li_257, li_258, li_259, li_260, li_300, li_314, li_400, li_580, li_999, li_5040, li_9999, li_65536, li_99999, li_7654321] <;> omega, fun z => ?_, fun z => ?_⟩
      · have e : j = d.length := by omega
        have := h sk tp
        rw [hru, e, List.drop_length] at this
        exact this
      · have hjl : j < d.length := by omega
        intro x1 hx1
        rw [show (48 : Int32) * jn r + (4 : Int32) * jn j = jn ((48 * r + 4 * j : Nat) : Int) from by (first | rfl | (simp (disch := omega) only [jn_add, jn_sub, jn_mul, jn_neg, li_0, li_1, li_2, li_3, li_4, li_5, li_6, li_7, li_8, li_9, li_10, li_11, li_12, li_13, li_14, li_15, li_16, li_17, li_18, li_20, li_24, li_29, li_30, li_31, li_32, li_37, li_39, li_40, li_42, li_43, li_45, li_46, li_47, li_48, li_53, li_57, li_59, li_60, li_61, li_62, li_63, li_80, li_81, li_91, li_93, li_97, li_100, li_122, li_200, li_255, li_256, li_257, li_258, li_259, li_260, li_300, li_314, li_400, li_580, li_999, li_5040, li_9999, li_65536, li_99999, li_7654321] <;> first | rfl | exact congrArg jn (by omega)) | exact congrArg jn (by omega))] at hx1
        subst hx1
        have hg := List.getElem?_eq_getElem hjl
        generalize d[j] = c at hg
        have hct := ht c (List.mem_of_getElem? hg)
        obtain ⟨c1, c2, c3, c4⟩ := h5 j c hg
        have hsp := fm_split hg
        have hb0 : bg d j = (fm (d.take j)).length := rfl
        have hlen : bg d j + (c.1.length + (c.2.getD []).length) ≤ (fm d).length := by
          rw [hsp, hb0]
          unfold fmc
          simp only [List.length_append]
          omega
        have hdrop : d.drop j = c :: d.drop (j + 1) := by
          rw [List.getElem?_eq_getElem hjl] at hg
          cases hg
          exact List.drop_eq_getElem_cons hjl
        rw [show jn ((48 * r + 4 * j : Nat) : Int) + (2 : Int32) = jn ((48 * r + 4 * j + 2 : Nat) : Int) from by (first | rfl | (simp (disch := omega) only [jn_add, jn_sub, jn_mul, jn_neg, li_0, li_1, li_2, li_3, li_4, li_5, li_6, li_7, li_8, li_9, li_10, li_11, li_12, li_13, li_14, li_15, li_16, li_17, li_18, li_20, li_24, li_29, li_30, li_31, li_32, li_37, li_39, li_40, li_42, li_43, li_45, li_46, li_47, li_48, li_53, li_57, li_59, li_60, li_61, li_62, li_63, li_80, li_81, li_91, li_93, li_97, li_100, li_122, li_200, li_255, li_256, li_257, li_258, li_259, li_260, li_300, li_314, li_400, li_580, li_999, li_5040, li_9999, li_65536, li_99999, li_7654321] <;> first | rfl | exact congrArg jn (by omega)) | exact congrArg jn (by omega)), show jn ((48 * r + 4 * j : Nat) : Int) + (3 : Int32) = jn ((48 * r + 4 * j + 3 : Nat) : Int) from by (first | rfl | (simp (disch := omega) only [jn_add, jn_sub, jn_mul, jn_neg, li_0, li_1, li_2, li_3, li_4, li_5, li_6, li_7, li_8, li_9, li_10, li_11, li_12, li_13, li_14, li_15, li_16, li_17, li_18, li_20, li_24, li_29, li_30, li_31, li_32, li_37, li_39, li_40, li_42, li_43, li_45, li_46, li_47, li_48, li_53, li_57, li_59, li_60, li_61, li_62, li_63, li_80, li_81, li_91, li_93, li_97, li_100, li_122, li_200, li_255, li_256, li_257, li_258, li_259, li_260, li_300, li_314, li_400, li_580, li_999, li_5040, li_9999, li_65536, li_99999, li_7654321] <;> first | rfl | exact congrArg jn (by omega)) | exact congrArg jn (by omega)), jn_cln (by omega), jn_cln (by omega)]
        have sum : ∀ sk tp, (∀ sk tp, Q (hd0 (evl w c.1 [])) sk tp) → wp_X12_summedBy_58 N sg cl cs w Q (jn r) (jn ((48 * r + 4 * j : Nat) : Int)) sk tp := by
          intro sk tp hq
          unfold wp_X12_summedBy_58
          rw [show jn ((48 * r + 4 * j : Nat) : Int) + (1 : Int32) = jn ((48 * r + 4 * j + 1 : Nat) : Int) from by (first | rfl | (simp (disch := omega) only [jn_add, jn_sub, jn_mul, jn_neg, li_0, li_1, li_2, li_3, li_4, li_5, li_6, li_7, li_8, li_9, li_10, li_11, li_12, li_13, li_14, li_15, li_16, li_17, li_18, li_20, li_24, li_29, li_30, li_31, li_32, li_37, li_39, li_40, li_42, li_43, li_45, li_46, li_47, li_48, li_53, li_57, li_59, li_60, li_61, li_62, li_63, li_80, li_81, li_91, li_93, li_97, li_100, li_122, li_200, li_255, li_256, li_257, li_258, li_259, li_260, li_300, li_314, li_400, li_580, li_999, li_5040, li_9999, li_65536, li_99999, li_7654321] <;> first | rfl | exact congrArg jn (by omega)) | exact congrArg jn (by omega)), jn_cln (by omega), jn_cln (by omega), c1, c2]
          refine ⟨by simp (disch := omega) only [jn_le, jn_lt, jn_eq, jn_in, jn_add, jn_sub, jn_mul, jn_neg, li_0, li_1, li_2, li_3, li_4, li_5, li_6, li_7, li_8, li_9, li_10, li_11, li_12, li_13, li_14, li_15, li_16, li_17, li_18, li_20, li_24, li_29, li_30, li_31, li_32, li_37, li_39, li_40, li_42, li_43, li_45, li_46, li_47, li_48, li_53, li_57, li_59, li_60, li_61, li_62, li_63, li_80, li_81, li_91, li_93, li_97, li_100, li_122, li_200, li_255, li_256, li_257, li_258, li_259, li_260, li_300, li_314, li_400, li_580, li_999, li_5040, li_9999, li_65536, li_99999, li_7654321] <;> omega, by simp (disch := omega) only [jn_le, jn_lt, jn_eq, jn_in, jn_add, jn_sub, jn_mul, jn_neg, li_0, li_1, li_2, li_3, li_4, li_5, li_6, li_7, li_8, li_9, li_10, li_11, li_12, li_13, li_14, li_15, li_16, li_17, li_18, li_20, li_24, li_29, li_30, li_31, li_32, li_37, li_39, li_40, li_42, li_43, li_45, li_46, li_47, li_48, li_53, li_57, li_59, li_60, li_61, li_62, li_63, li_80, li_81, li_91, li_93, li_97, li_100, li_122, li_200, li_255, li_256, li_257, li_258, li_259, li_260, li_300, li_314, li_400, li_580, li_999, li_5040, li_9999, li_65536, li_99999, li_7654321] <;> omega, wm_reckons (l := c.1) hN hr (by omega) rfl rfl rfl (fun i v hi => ?_) hct.1 hq⟩
          refine h4 _ _ ?_
          rw [hsp, hb0]
          exact get_r (get_l (get_l hi))
        cases hq : c.2 with
        | none =>
          rw [c3 hq]
          refine ⟨by simp (disch := omega) only [jn_le, jn_lt, jn_eq, jn_in, jn_add, jn_sub, jn_mul, jn_neg, li_0, li_1, li_2, li_3, li_4, li_5, li_6, li_7, li_8, li_9, li_10, li_11, li_12, li_13, li_14, li_15, li_16, li_17, li_18, li_20, li_24, li_29, li_30, li_31, li_32, li_37, li_39, li_40, li_42, li_43, li_45, li_46, li_47, li_48, li_53, li_57, li_59, li_60, li_61, li_62, li_63, li_80, li_81, li_91, li_93, li_97, li_100, li_122, li_200, li_255, li_256, li_257, li_258, li_259, li_260, li_300, li_314, li_400, li_580, li_999, li_5040, li_9999, li_65536, li_99999, li_7654321] <;> omega, fun _ => ?_, fun y => absurd (by decide) y⟩
          refine sum sk tp (fun sk tp => ?_)
          have := h sk tp
          rw [hru, hdrop] at this
          unfold ruv at this
          rw [hq] at this
          exact this
        | some t =>
          obtain ⟨d1, d2⟩ := c4 t hq
          rw [hq] at hlen
          have hlen : bg d j + (c.1.length + t.length) ≤ (fm d).length := hlen
          rw [d1, d2]
          have htt := hct.2 t hq
          obtain ⟨b, hb, hb2⟩ := evl_one (w := w) htt
          refine ⟨by simp (disch := omega) only [jn_le, jn_lt, jn_eq, jn_in, jn_add, jn_sub, jn_mul, jn_neg, li_0, li_1, li_2, li_3, li_4, li_5, li_6, li_7, li_8, li_9, li_10, li_11, li_12, li_13, li_14, li_15, li_16, li_17, li_18, li_20, li_24, li_29, li_30, li_31, li_32, li_37, li_39, li_40, li_42, li_43, li_45, li_46, li_47, li_48, li_53, li_57, li_59, li_60, li_61, li_62, li_63, li_80, li_81, li_91, li_93, li_97, li_100, li_122, li_200, li_255, li_256, li_257, li_258, li_259, li_260, li_300, li_314, li_400, li_580, li_999, li_5040, li_9999, li_65536, li_99999, li_7654321] <;> omega, fun y => ?_, fun y => ⟨by simp (disch := omega) only [jn_le, jn_lt, jn_eq, jn_in, jn_add, jn_sub, jn_mul, jn_neg, li_0, li_1, li_2, li_3, li_4, li_5, li_6, li_7, li_8, li_9, li_10, li_11, li_12, li_13, li_14, li_15, li_16, li_17, li_18, li_20, li_24, li_29, li_30, li_31, li_32, li_37, li_39, li_40, li_42, li_43, li_45, li_46, li_47, li_48, li_53, li_57, li_59, li_60, li_61, li_62, li_63, li_80, li_81, li_91, li_93, li_97, li_100, li_122, li_200, li_255, li_256, li_257, li_258, li_259, li_260, li_300, li_314, li_400, li_580, li_999, li_5040, li_9999, li_65536, li_99999, li_7654321] <;> omega, by simp (disch := omega) only [jn_le, jn_lt, jn_eq, jn_in, jn_add, jn_sub, jn_mul, jn_neg, li_0, li_1, li_2, li_3, li_4, li_5, li_6, li_7, li_8, li_9, li_10, li_11, li_12, li_13, li_14, li_15, li_16, li_17, li_18, li_20, li_24, li_29, li_30, li_31, li_32, li_37, li_39, li_40, li_42, li_43, li_45, li_46, li_47, li_48, li_53, li_57, li_59, li_60, li_61, li_62, li_63, li_80, li_81, li_91, li_93, li_97, li_100, li_122, li_200, li_255, li_256, li_257, li_258, li_259, li_260, li_300, li_314, li_400, li_580, li_999, li_5040, li_9999, li_65536, li_99999, li_7654321] <;> omega, ?_⟩⟩
          · rw [li_0, jn_lt (by omega) (by omega)] at y; omega
          · refine wm_reckons (l := t) (b0 := bg d j + c.1.length) hN hr (by omega) rfl rfl rfl (fun i v hi => ?_) htt (fun sk tp => ?_)
            · refine h4 _ _ ?_
              rw [hsp, hb0, Nat.add_assoc]
              refine get_r (get_l ?_)
              unfold fmc
              rw [hq]
              exact get_r hi
            · rw [hb, show hd0 [b] = b from rfl, jn_cmp0]
              refine ⟨fun z1 => sum sk tp (fun sk tp => ?_), fun z1 => ?_⟩
              · have := h sk tp
                rw [hru, hdrop] at this
                unfold ruv at this
                rw [hq] at this
                dsimp only at this
                rw [hb, show hd0 [b] = b from rfl, if_neg (by rw [z1]; decide)] at this
                exact this
              · refine ih (j + 1) _ sk tp (by (first | rfl | (simp (disch := omega) only [jn_add, jn_sub, jn_mul, jn_neg, li_0, li_1, li_2, li_3, li_4, li_5, li_6, li_7, li_8, li_9, li_10, li_11, li_12, li_13, li_14, li_15, li_16, li_17, li_18, li_20, li_24, li_29, li_30, li_31, li_32, li_37, li_39, li_40, li_42, li_43, li_45, li_46, li_47, li_48, li_53, li_57, li_59, li_60, li_61, li_62, li_63, li_80, li_81, li_91, li_93, li_97, li_100, li_122, li_200, li_255, li_256, li_257, li_258, li_259, li_260, li_300, li_314, li_400, li_580, li_999, li_5040, li_9999, li_65536, li_99999, li_7654321] <;> first | rfl | exact congrArg jn (by omega)) | exact congrArg jn (by omega))) (by omega) ?_ (by omega)
                rw [hru, hdrop]
                conv => lhs; unfold ruv
                rw [hq]
                dsimp only
                rw [hb, show hd0 [b] = b from rfl, if_pos]
                rcases hb2 rfl with e | e
                · exact e
                · exact absurd e z1
  exact key N 0 _ _ _ rfl (by omega) (by rw [List.drop_zero]) (by omega)
theorem mR_of {fc : Int32} {r : Nat} {d : List cS1} (hN : 500 ≤ N) (hr : r < 6) (hf : fc = jn r) (hd : mRu sg cl cs r d) (ht : ∀ c, c ∈ d → ctO c) : mR N sg cl cs fc (some (fun w => ruv w d)) :=
  ⟨r, hr, hf, fun _ _ _ _ h => wm_summed hN hr hf hd ht h⟩
theorem ROk_of {d : List cS1} (ht : ∀ c, c ∈ d → ctO c) : ROk (some (fun w => ruv w d)) := by
  intro f hf w w' hw
  cases hf
  exact ruv_w hw ht
end MW2
