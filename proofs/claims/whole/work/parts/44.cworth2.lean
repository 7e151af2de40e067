/-! the class reckons a rule, clause by clause -/
theorem fl_cons {c : cS1} {d : List cS1} : fl (c :: d) = flc c ++ fl d := by unfold fl; rw [List.flatMap_cons]
theorem get_l {α : Type} {A B : List α} {j : Nat} {v : α} (h : A[j]? = some v) : (A ++ B)[j]? = some v := by
  have hl : j < A.length := by
    by_cases e : j < A.length
    · exact e
    · rw [List.getElem?_eq_none (by omega)] at h; cases h
  rw [List.getElem?_append_left hl]; exact h
theorem get_r {α : Type} {A B : List α} {j : Nat} {v : α} (h : B[j]? = some v) : (A ++ B)[A.length + j]? = some v := by
  rw [List.getElem?_append_right (by omega), show A.length + j - A.length = j by omega]; exact h
section CW2
variable {N len : Nat} {w : Nat → Int64} {code : Nat → Int32} {Q : Int64 → (Nat → Int64) → Prop}
/-- the end of a clause -/
theorem wl_clEnd {m i o k : Nat} {pl : Nat → Int64} {v : Int64} {st : List Int64} (hlen : len ≤ 400) (hi : i < len) (hc : code i = jn o) (hk : k ≤ 40) (hs : sR pl st) (hst : (o = 16 ∧ st = [v]) ∨ (o = 17 ∧ ∃ b, st = [b, v]))
    (h1 : (o = 16 ∨ ∃ b, st = [b, v] ∧ b ≠ 0) → Q v pl) (h2 : o = 17 → st = [0, v] → wp_X6_worth_5 N code w len Q m 0 (jn ((i + 1 : Nat) : Int)) pl) : wp_X6_worth_5 N code w len Q (m + 1) (jn k) (jn i) pl := by
  unfold wp_X6_worth_5
  have ho : o = 16 ∨ o = 17 := by rcases hst with ⟨e, -⟩ | ⟨e, -⟩ <;> omega
  rw [show (Int32.ofNat len) = jn (len : Nat) by rw [← Int32.ofInt_eq_ofNat]; rfl, jn_le (by omega) (by omega), jn_cln (by omega), hc]
  refine ⟨fun z => by omega, fun _ => ⟨by simp (disch := omega) only [jn_le, jn_lt, jn_eq, jn_in, jn_add, jn_sub, jn_mul, jn_neg, li_0, li_1, li_2, li_3, li_4, li_5, li_6, li_7, li_8, li_9, li_10, li_11, li_12, li_13, li_14, li_15, li_16, li_17, li_18, li_20, li_24, li_29, li_30, li_31, li_32, li_37, li_39, li_40, li_42, li_43, li_45, li_46, li_47, li_48, li_53, li_57, li_59, li_60, li_61, li_62, li_63, li_80, li_81, li_91, li_93, li_97, li_100, li_122, li_200, li_255, li_256, li_257, li_258, li_259, li_260, li_300, li_314, li_400, li_580, li_999, li_5040, li_9999, li_65536, li_99999, li_7654321] <;> omega, fun x hx => ?_⟩⟩
  rw [jn_m31, show o % 32 = o by omega] at hx
  subst hx
  rw [li_0, li_1, show (16 : Int32) = jn ((16 : Nat) : Int) from rfl, show (17 : Int32) = jn ((17 : Nat) : Int) from rfl, jn_eq (by omega) (by omega), jn_eq (by omega) (by omega), jn_eq (by omega) (by omega), jn_eq (by omega) (by omega)]
  have p0 : pl 0 = v := by
    rcases hst with ⟨-, e⟩ | ⟨-, b, e⟩
    · subst e; exact hs 0 v rfl
    · subst e; exact hs 0 v rfl
  unfold wp_X6_worth_86
  refine ⟨fun z => by omega, fun _ => ⟨fun z => by omega, fun _ => ⟨fun z => ?_, fun z => ⟨fun y => ⟨by unfold vp_in; decide, fun x => ?_, fun x => ?_⟩, fun y => by omega⟩⟩⟩⟩
  · rw [show (0 : Int32).toNatClampNeg = 0 from rfl, p0]
    exact ⟨by unfold vp_in; decide, h1 (Or.inl (by omega))⟩
  · rcases hst with ⟨e, -⟩ | ⟨-, b, e⟩
    · omega
    · have p1 : pl 1 = b := by subst e; exact hs 1 b rfl
      rw [show (jn 1).toNatClampNeg = 1 from rfl, p1, ← li_0, jn_cmp0] at x
      unfold wp_X6_worth_90 wp_X6_worth_151
      refine ⟨fun _ => ?_, fun q => absurd (congrArg jn (by omega)) q⟩
      rw [show jn (i : Int) + 1 = jn ((i + 1 : Nat) : Int) from by (first | rfl | (simp (disch := omega) only [jn_add, jn_sub, jn_mul, jn_neg, li_0, li_1, li_2, li_3, li_4, li_5, li_6, li_7, li_8, li_9, li_10, li_11, li_12, li_13, li_14, li_15, li_16, li_17, li_18, li_20, li_24, li_29, li_30, li_31, li_32, li_37, li_39, li_40, li_42, li_43, li_45, li_46, li_47, li_48, li_53, li_57, li_59, li_60, li_61, li_62, li_63, li_80, li_81, li_91, li_93, li_97, li_100, li_122, li_200, li_255, li_256, li_257, li_258, li_259, li_260, li_300, li_314, li_400, li_580, li_999, li_5040, li_9999, li_65536, li_99999, li_7654321] <;> first | rfl | exact congrArg jn (by omega)) | exact congrArg jn (by omega))]
      exact h2 (by omega) (by rw [e, x])
  · rcases hst with ⟨e, -⟩ | ⟨-, b, e⟩
    · omega
    · have p1 : pl 1 = b := by subst e; exact hs 1 b rfl
      rw [show (jn 1).toNatClampNeg = 1 from rfl, p1, ← li_0, jn_cmp0] at x
      rw [show (0 : Int32).toNatClampNeg = 0 from rfl, p0]
      exact ⟨by unfold vp_in; decide, h1 (Or.inr ⟨b, e, x⟩)⟩
theorem wl_clauses (hlen : len ≤ 400) : ∀ {d : List cS1} {i m : Nat} {pl : Nat → Int64}, (∀ (j v : Nat), (fl d)[j]? = some v → code (i + j) = jn v ∧ v < 2147483648) → i + (fl d).length = len → (∀ c, c ∈ d → ctO c) → (fl d).length < m → (∀ pl', Q (ruv w d) pl') → wp_X6_worth_5 N code w len Q m 0 (jn i) pl
  | [], i, m, pl, hc, hi, ht, hm, h => by
    obtain ⟨m, rfl⟩ : ∃ m', m = m' + 1 := ⟨m - 1, by omega⟩
    unfold wp_X6_worth_5
    have e : (fl []).length = 0 := rfl
    rw [show (Int32.ofNat len) = jn (len : Nat) by rw [← Int32.ofInt_eq_ofNat]; rfl, jn_le (by omega) (by omega)]
    exact ⟨fun _ => h pl, fun z => by omega⟩
  | c :: d, i, m, pl, hc, hi, ht, hm, h => by
    have hct := ht c (List.mem_cons_self ..)
    obtain ⟨v, hv, -⟩ := evl_one (w := w) hct.1
    rw [fl_cons] at hc hi hm
    cases hq : c.2 with
    | none =>
      have ef : flc c = c.1 ++ [16] := by unfold flc; rw [hq]
      rw [ef] at hc hi hm
      simp only [List.length_append, List.length_cons, List.length_nil] at hi hm
      obtain ⟨m2, rfl⟩ : ∃ m2, m = (m2 + 1) + c.1.length := ⟨m - c.1.length - 1, by omega⟩
      have run := wl_evl (N := N) (Q := Q) (w := w) (code := code) (len := len) (bs := []) (by simp) hlen (l := c.1) (ts := []) (st := []) (i := i) (m := m2 + 1) (pl := pl) (fun j v hj => hc j v (get_l (get_l hj))) (by omega) hct.1 (by simp) trivial (fun j v hj => by simp at hj)
      refine run (fun pl' hs' => ?_)
      rw [hv] at hs' ⊢
      have h16 := hc c.1.length 16 (get_l (by have := get_r (A := c.1) (B := [16]) (j := 0) (v := 16) rfl; rwa [Nat.add_zero] at this))
      refine wl_clEnd (o := 16) (v := v) (st := [v]) hlen (by omega) h16.1 (by simp) hs' (Or.inl ⟨rfl, rfl⟩) (fun _ => ?_) (fun z => by omega)
      have := h pl'
      unfold ruv at this
      rw [hq, hv] at this
      exact this
    | some t =>
      have ef : flc c = c.1 ++ t ++ [17] := by unfold flc; rw [hq]
      rw [ef] at hc hi hm
      simp only [List.length_append, List.length_cons, List.length_nil] at hi hm
      have htt := hct.2 t hq
      obtain ⟨b, hb, hb2⟩ := evl_one (w := w) htt
      obtain ⟨m2, rfl⟩ : ∃ m2, m = ((m2 + 1) + t.length) + c.1.length := ⟨m - c.1.length - t.length - 1, by omega⟩
      have run := wl_evl (N := N) (Q := Q) (w := w) (code := code) (len := len) (bs := []) (by simp) hlen (l := c.1) (ts := []) (st := []) (i := i) (m := (m2 + 1) + t.length) (pl := pl) (fun j v hj => hc j v (get_l (get_l (get_l hj)))) (by omega) hct.1 (by simp) trivial (fun j v hj => by simp at hj)
      refine run (fun pl' hs' => ?_)
      rw [hv] at hs' ⊢
      have run2 := wl_evl (N := N) (Q := Q) (w := w) (code := code) (len := len) (bs := [v]) (by simp) hlen (l := t) (ts := []) (st := []) (i := i + c.1.length) (m := m2 + 1) (pl := pl') (fun j v hj => by
        have := hc (c.1.length + j) v (get_l (get_l (get_r hj)))
        rwa [← Nat.add_assoc] at this) (by omega) htt (by simp) trivial hs'
      refine run2 (fun pl2 hs2 => ?_)
      rw [hb] at hs2 ⊢
      have h17 := hc (c.1.length + t.length) 17 (get_l (by
        have := get_r (A := c.1 ++ t) (B := [17]) (j := 0) (v := 17) rfl
        rwa [Nat.add_zero, List.length_append] at this))
      rw [← Nat.add_assoc] at h17
      refine wl_clEnd (o := 17) (v := v) (st := [b, v]) hlen (by omega) h17.1 (by simp) hs2 (Or.inr ⟨rfl, b, rfl⟩) (fun z => ?_) (fun _ z => ?_)
      · rcases z with z | ⟨b', e, hb'⟩
        · omega
        · cases e
          have := h pl2
          unfold ruv at this
          rw [hq] at this
          dsimp only at this
          rw [hb, hv, show hd0 [b] = b from rfl, show hd0 [v] = v from rfl, if_neg hb'] at this
          exact this
      · cases z
        refine wl_clauses hlen (d := d) (fun j v hj => ?_) (by omega) (fun c' h' => ht c' (List.mem_cons_of_mem _ h')) (by omega) (fun pl3 => ?_)
        · have := hc ((c.1 ++ t ++ [17]).length + j) v (get_r hj)
          simp only [List.length_append, List.length_cons, List.length_nil] at this
          rwa [show i + (c.1.length + t.length + (0 + 1) + j) = i + c.1.length + t.length + 1 + j by omega] at this
        · have := h pl3
          unfold ruv at this
          rw [hq] at this
          dsimp only at this
          rw [hb, show hd0 [(0 : Int64)] = 0 from rfl, if_pos rfl] at this
          exact this
/-- a rule's signs are small -/
theorem tyt_small {t : Nat} {ts ts' : List Bool} (h : tyt t ts = some ts') : t < 3300000 := by
  unfold tyt at h
  by_cases e0 : t % 32 = 0
  · rw [if_pos e0] at h
    split at h
    · rename_i y; omega
    · cases h
  · rw [if_neg e0] at h
    by_cases e1 : t % 32 = 1
    · rw [if_pos e1] at h
      split at h
      · rename_i y; omega
      · cases h
    · rw [if_neg e1] at h
      by_cases e14 : t ≤ 14
      · omega
      · rw [if_neg (by omega), if_neg (by omega), if_neg (by omega), if_neg e14] at h; cases h
theorem tyr_small : ∀ {l : List Nat} {ts ts' : List Bool}, tyr l ts = some ts' → ∀ v, v ∈ l → v < 3300000
  | [], _, _, _, v, hv => by cases hv
  | t :: l, ts, ts', h, v, hv => by
    rw [tyr_cons] at h
    cases q : tyt t ts with
    | none => rw [q] at h; cases h
    | some ts1 =>
      rw [q] at h
      rw [List.mem_cons] at hv
      rcases hv with e | e
      · subst e; exact tyt_small q
      · exact tyr_small h v e
theorem fl_small {d : List cS1} (ht : ∀ c, c ∈ d → ctO c) : ∀ v, v ∈ fl d → v < 3300000 := by
  intro v hv
  unfold fl at hv
  rw [List.mem_flatMap] at hv
  obtain ⟨c, hc, hv⟩ := hv
  have h := ht c hc
  unfold flc at hv
  cases q : c.2 with
  | none =>
    rw [q] at hv
    rw [List.mem_append, List.mem_singleton] at hv
    rcases hv with e | e
    · exact tyr_small h.1 v e
    · omega
  | some t =>
    rw [q] at hv
    rw [List.mem_append, List.mem_append, List.mem_singleton] at hv
    rcases hv with (e | e) | e
    · exact tyr_small h.1 v e
    · exact tyr_small (h.2 t q) v e
    · omega
theorem wl_worth {d : List cS1} (hN : 500 ≤ N) (hlen : len ≤ 400) (hl : len = (fl d).length) (hc : lA code (fl d)) (ht : ∀ c, c ∈ d → ctO c) : cR N code len (fun w => ruv w d) := by
  have hsm := fl_small ht
  intro w Q pl h
  unfold wp_X6_worth
  refine wl_clauses hlen (d := d) (i := 0) (fun j v hj => ?_) (by omega) ht (by omega) (fun pl' => h pl')
  rw [Nat.zero_add]
  exact ⟨hc j v hj, by have := hsm v (List.mem_of_getElem? hj); omega⟩
end CW2
