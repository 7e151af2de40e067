/-! the reference reads a lane, clause by clause -/
section ML2
variable {N n : Nat} {b : Nat → Int} {bt : Nat → Int32}
theorem sgn_mark {p m : Nat} (bB : ∀ i, -128 ≤ b i ∧ b i ≤ 127) (h1 : m < 128) (h2 : ¬ (97 ≤ m ∧ m ≤ 122)) (h3 : ¬ (48 ≤ m ∧ m ≤ 57)) (h4 : m ≠ 60 ∧ m ≠ 62) : sgn b n p = m ↔ p < n ∧ b p = m := by
  have hw := wxf_r (b := b) (n := n) (p := p) (i := 15)
  have hb := bB p
  constructor
  · intro h
    unfold sgn at h
    split at h
    · omega
    · split at h
      · split at h <;> omega
      · split at h
        · omega
        · split at h
          · split at h <;> omega
          · unfold mk8 at h; exact ⟨by omega, by omega⟩
  · rintro ⟨a, c⟩
    unfold sgn mk8
    rw [if_neg (by omega), if_neg (by omega), if_neg (by omega), if_neg (by omega)]
    omega
theorem en_mark {p m : Nat} (bB : ∀ i, -128 ≤ b i ∧ b i ≤ 127) (h1 : m < 128) (h2 : ¬ (97 ≤ m ∧ m ≤ 122)) (h3 : ¬ (48 ≤ m ∧ m ≤ 57)) (h4 : m ≠ 60 ∧ m ≠ 62) (h : sgn b n p = m) : en b n p = p + 1 := by
  obtain ⟨a, c⟩ := (sgn_mark bB h1 h2 h3 h4).mp h
  unfold en
  rw [if_neg (by omega), if_neg (by omega), if_neg (by omega), if_neg (by omega)]
theorem sgn_end {p : Nat} : sgn b n p = 256 ↔ n ≤ p := by
  have hw := wxf_r (b := b) (n := n) (p := p) (i := 15)
  have h8 := mk8_lt (x := b p)
  constructor
  · intro h
    unfold sgn at h
    split at h
    · assumption
    · split at h
      · split at h <;> omega
      · split at h
        · omega
        · split at h
          · split at h <;> omega
          · omega
  · intro h; unfold sgn; rw [if_pos h]
/-- what see() answers is a mark -/
theorem see_mark {p m : Nat} (bB : ∀ i, -128 ≤ b i ∧ b i ≤ 127) (h1 : m < 128) (h2 : ¬ (97 ≤ m ∧ m ≤ 122)) (h3 : ¬ (48 ≤ m ∧ m ≤ 57)) (h4 : m ≠ 60 ∧ m ≠ 62) : ((if p < n then jn (mk8 (b p)) else (-1 : Int32)) = jn m) = (sgn b n p = m) := by
  have hb := bB p
  have h8 := mk8_lt (x := b p)
  refine propext ?_
  rw [sgn_mark bB h1 h2 h3 h4]
  by_cases hp : p < n
  · rw [if_pos hp, jn_eq (by omega) (by omega)]
    unfold mk8
    exact ⟨fun h => ⟨hp, by omega⟩, fun h => by omega⟩
  · rw [if_neg hp, show (-1 : Int32) = jn (-1) from rfl, jn_eq (by omega) (by omega)]
    exact ⟨fun h => by omega, fun h => by omega⟩
theorem see_end {p : Nat} : ((if p < n then jn (mk8 (b p)) else (-1 : Int32)) = -1) = (sgn b n p = 256) := by
  have h8 := mk8_lt (x := b p)
  refine propext ?_
  rw [sgn_end]
  by_cases hp : p < n
  · rw [if_pos hp, show (-1 : Int32) = jn (-1) from rfl, jn_eq (by omega) (by omega)]
    exact ⟨fun h => by omega, fun h => by omega⟩
  · rw [if_neg hp]
    exact ⟨fun h => by omega, fun h => rfl⟩
theorem wm_clauseL {a c : Nat} {l : lS} {Q : Int32 → (Nat → Int32) → (Nat → Int32) → (Nat → Int32) → (Nat → Int32) → (Nat → Int32) → Int32 → Int32 → Int32 → Int32 → Int32 → Int32 → (Nat → Int32) → Int32 → Prop} {sg ln cl cs rd op : Nat → Int32} {nx nu md dp li opd : Int32} (hN : 500 ≤ N) (hn : n ≤ 400) (hB : ∀ i, i < n → bt i = jn (b i)) (bB : ∀ i, -128 ≤ b i ∧ b i ≤ 127) (ha : a ≤ n) (hnx : nx = jn a) (hli : li = jn c) (hc : c ≤ 40) (hk : l_k l ≤ 7) (h0 : c = 0 → l_k l = 0) (hr : mRd rd c l)
    (h : match cS b n c a l with
      | .inl e => ∀ rd nx nu li, Q 0 sg ln cl cs rd nx (jn e) nu md dp li op opd
      | .inr v => ∀ rd nu, mRd rd (c + 1) v.2 → Q 1 sg ln cl cs rd (jn v.1) 0 nu md dp (jn ((c + 1 : Nat) : Int)) op opd) : wp_X12_clauseHere N bt (jn n) 6 Q sg ln cl cs rd nx 0 nu md dp li op opd := by
  have hsk := skp_le (b := b) ha
  have hss := skp_skp (b := b) ha
  unfold wp_X12_clauseHere
  refine wm_see hN hn hB bB ha hnx ⟨fun _ => ?_, fun z => absurd rfl z⟩
  have hcs : cS b n c a l = cS b n c (skp b n a) l := by unfold cS; rw [hss]
  rw [hcs] at h
  generalize skp b n a = q at hsk hss h ⊢
  unfold wp_X12_clauseHere_24
  refine ⟨fun z => absurd z (by decide), fun _ => ?_⟩
  have go : sgn b n q = 314 ∨ sgn b n q = 300 → wp_X12_clauseHere_69 N bt (jn n) 6 Q (jn q) 1 sg ln cl cs rd (jn q) 0 nu md dp li op opd := by
    intro hs
    unfold wp_X12_clauseHere_69 wp_X12_clauseHere_84
    refine ⟨fun z => absurd z (by decide), fun _ => ?_⟩
    rw [hli, li_40, jn_eq (by omega) (by omega)]
    refine ⟨fun z => ?_, fun z => ⟨fun y => absurd y (by decide), fun _ => ?_⟩⟩
    · unfold cS at h
      rw [hss, if_neg (by omega), if_pos (by omega)] at h
      exact wm_fails (kd := 4) rfl rfl ⟨Or.inl rfl, h _ _ _ _⟩
    · refine wm_laneLine hN hn hB bB hsk.2 hss rfl rfl (by omega) hs hk h0 hr ?_
      unfold wp_X12_clauseHere_120
      cases q1 : cS b n c q l with
      | inl e =>
        rw [q1] at h
        intro rd w u
        exact ⟨Or.inl rfl, h _ _ _ _⟩
      | inr v =>
        rw [q1] at h
        intro rd u hrd
        refine ⟨Or.inr rfl, ?_⟩
        rw [show jn (c : Int) + (1 : Int32) = jn ((c + 1 : Nat) : Int) from by (first | rfl | (simp (disch := omega) only [jn_add, jn_sub, jn_mul, jn_neg, li_0, li_1, li_2, li_3, li_4, li_5, li_6, li_7, li_8, li_9, li_10, li_11, li_12, li_13, li_14, li_15, li_16, li_17, li_18, li_20, li_24, li_29, li_30, li_31, li_32, li_37, li_39, li_40, li_42, li_43, li_45, li_46, li_47, li_48, li_53, li_57, li_59, li_60, li_61, li_62, li_63, li_80, li_81, li_91, li_93, li_97, li_100, li_122, li_200, li_255, li_256, li_257, li_258, li_259, li_260, li_300, li_314, li_400, li_580, li_999, li_5040, li_9999, li_65536, li_99999, li_7654321] <;> first | rfl | exact congrArg jn (by omega)) | exact congrArg jn (by omega))]
        exact h _ _ hrd
  refine wm_isWord (i := 14) hN hn hB bB hsk.2 rfl (by omega) rfl ?_
  rw [hss]
  by_cases e3 : sgn b n q = 314
  · rw [if_pos (show sgn b n q = 300 + 14 from e3)]
    exact ⟨fun z => absurd z (by decide), fun _ => go (Or.inl e3)⟩
  · rw [if_neg (show ¬ sgn b n q = 300 + 14 from e3)]
    refine ⟨fun _ => ?_, fun z => absurd rfl z⟩
    refine wm_isWord (i := 0) hN hn hB bB hsk.2 rfl (by omega) rfl ?_
    rw [hss]
    by_cases e4 : sgn b n q = 300
    · rw [if_pos (show sgn b n q = 300 + 0 from e4)]
      exact ⟨fun z => absurd z (by decide), fun _ => go (Or.inr e4)⟩
    · rw [if_neg (show ¬ sgn b n q = 300 + 0 from e4)]
      refine ⟨fun _ => ?_, fun z => absurd rfl z⟩
      unfold wp_X12_clauseHere_62
      unfold cS at h
      rw [hss, if_pos ⟨e3, e4⟩] at h
      exact wm_fails (kd := 0) rfl rfl ⟨Or.inl rfl, h _ _ _ _⟩
theorem wm_readsL {Q : Int32 → Int32 → (Nat → Int32) → (Nat → Int32) → (Nat → Int32) → (Nat → Int32) → (Nat → Int32) → Int32 → Int32 → Int32 → Int32 → Int32 → Int32 → (Nat → Int32) → Int32 → Prop} {sg ln cl cs rd op : Nat → Int32} {nx wr nu md dp li opd : Int32} (hN : 500 ≤ N) (hn : n ≤ 400) (hB : ∀ i, i < n → bt i = jn (b i)) (bB : ∀ i, -128 ≤ b i ∧ b i ≤ 127) (hr : mRd rd 0 l0)
    (h : match lnP b n 41 0 0 l0 with
      | .inl e => ∀ ln' rd nx nu md li, (∀ i, i ≠ 6 → ln' i = ln i) → Q 0 0 sg ln' cl cs rd nx (jn e) nu md dp li op opd
      | .inr v => ∀ ln' rd nx nu md li, (∀ i, i ≠ 6 → ln' i = ln i) → (∃ c, 0 < c ∧ mRd rd c v) → Q 1 0 sg ln' cl cs rd nx 0 nu md dp li op opd) : wp_X12_readsAll N bt 6 Q (jn n) sg ln cl cs rd nx wr nu md dp li op opd := by
  unfold wp_X12_readsAll
  refine ⟨by unfold vp_in; decide, fun a1 e1 => ?_⟩
  have hln : ∀ i, i ≠ 6 → a1 i = ln i := by
    intro i hi
    rw [e1, show (6 : Int32).toNatClampNeg = 6 from rfl, upd_ne hi]
  have bad : ∀ m e rd nx nu li, 0 < e → e < 4000 → lnP b n 41 0 0 l0 = .inl e → wp_X12_readsAll_35 N bt 6 Q (m + 1) 0 (jn n) sg a1 cl cs rd nx (jn e) nu 0 dp li op opd := by
    intro m e rd nx nu li h1 h2 hl
    rw [hl] at h
    unfold wp_X12_readsAll_35 wp_X12_readsAll_66 wp_X12_readsAll_88 wp_X12_readsAll_105
    refine ⟨fun _ => ⟨fun _ => ⟨fun z => ?_, fun z => ⟨Or.inl rfl, h _ _ _ _ _ _ hln⟩⟩, fun z => absurd rfl z⟩, fun z => absurd rfl z⟩
    rw [li_0, jn_eq (by omega) (by omega)] at z
    omega
  have key : ∀ (m c a : Nat) (l : lS) (rd : Nat → Int32) (nx nu li : Int32), nx = jn a → li = jn ((c + 1 : Nat) : Int) → a ≤ n → c ≤ 39 → l_k l ≤ 7 → mRd rd (c + 1) l → (if sgn b n (skp b n a) = 59 then lnP b n (40 - c) (c + 1) (en b n (skp b n a)) l else if sgn b n (skp b n a) = 256 then .inr l else .inl (1 + 8 * skp b n a)) = lnP b n 41 0 0 l0 → 42 < m + c → wp_X12_readsAll_35 N bt 6 Q m 1 (jn n) sg a1 cl cs rd nx 0 nu 0 dp li op opd := by
    intro m
    induction m with
    | zero => intro c a l rd nx nu li _ _ _ h1 _ _ _ h2; omega
    | succ m ih =>
      intro c a l rd nx nu li hnx hli ha hc hk hrd hl hm
      have hsk := skp_le (b := b) ha
      have hss := skp_skp (b := b) ha
      have hen := en_le (b := b) hsk.2
      obtain ⟨m, rfl⟩ : ∃ m', m = m' + 1 := ⟨m - 1, by omega⟩
      unfold wp_X12_readsAll_35
      refine ⟨fun z => absurd z (by decide), fun _ => ?_⟩
      refine wm_see hN hn hB bB ha hnx ?_
      rw [show (59 : Int32) = jn (59 : Nat) from rfl, see_mark bB (by omega) (by omega) (by omega) (by omega)]
      refine ⟨fun z => ?_, fun z => ?_⟩
      · rw [if_pos z] at hl
        have he := en_mark bB (by omega) (by omega) (by omega) (by omega) z
        rw [show jn (skp b n a : Int) + (1 : Int32) = jn (en b n (skp b n a) : Int) by rw [he]; exact by (first | rfl | (simp (disch := omega) only [jn_add, jn_sub, jn_mul, jn_neg, li_0, li_1, li_2, li_3, li_4, li_5, li_6, li_7, li_8, li_9, li_10, li_11, li_12, li_13, li_14, li_15, li_16, li_17, li_18, li_20, li_24, li_29, li_30, li_31, li_32, li_37, li_39, li_40, li_42, li_43, li_45, li_46, li_47, li_48, li_53, li_57, li_59, li_60, li_61, li_62, li_63, li_80, li_81, li_91, li_93, li_97, li_100, li_122, li_200, li_255, li_256, li_257, li_258, li_259, li_260, li_300, li_314, li_400, li_580, li_999, li_5040, li_9999, li_65536, li_99999, li_7654321] <;> first | rfl | exact congrArg jn (by omega)) | exact congrArg jn (by omega))]
        have hcs := cS_r (b := b) (c := c + 1) hen.2 hn hk
        refine wm_clauseL (c := c + 1) (l := l) hN hn hB bB hen.2 rfl hli (by omega) hk (fun q => by omega) hrd ?_
        rw [show 40 - c = (39 - c) + 1 by omega] at hl
        unfold lnP at hl
        cases q1 : cS b n (c + 1) (en b n (skp b n a)) l with
        | inl e =>
          rw [q1] at hl hcs
          intro rd nx nu li
          exact bad _ _ _ _ _ _ hcs.1 hcs.2 hl.symm
        | inr v =>
          rw [q1] at hl hcs
          dsimp only at hl
          intro rd nu hrd
          by_cases e39 : c = 39
          · subst e39
            exfalso
            unfold cS at q1
            split at q1
            · cases q1
            · rw [if_pos (Or.inl (by omega))] at q1
              cases q1
          · refine ih (c + 1) v.1 v.2 rd _ _ _ rfl rfl hcs.1 (by omega) hcs.2 hrd ?_ (by omega)
            rw [show 40 - (c + 1) = 39 - c by omega]; exact hl
      · rw [if_neg z] at hl
        unfold wp_X12_readsAll_66
        refine ⟨fun y => absurd y (by decide), fun _ => ?_⟩
        refine wm_see hN hn hB bB hsk.2 rfl ?_
        rw [hss, see_end]
        unfold wp_X12_readsAll_88 wp_X12_readsAll_105
        refine ⟨fun y => ?_, fun y => ?_⟩
        · rw [if_pos y] at hl
          rw [← hl] at h
          exact ⟨fun _ => ⟨Or.inr rfl, h _ _ _ _ _ _ hln ⟨c + 1, by omega, hrd⟩⟩, fun x => absurd rfl x⟩
        · rw [if_neg y] at hl
          rw [← hl] at h
          refine wm_fails (kd := 0) rfl rfl ⟨fun x => ?_, fun x => ⟨Or.inl rfl, h _ _ _ _ _ _ hln⟩⟩
          rw [li_0, jn_eq (by omega) (by omega)] at x
          omega
  have hcs := cS_r (b := b) (c := 0) (a := 0) (l := l0) (Nat.zero_le n) hn (by decide)
  refine wm_clauseL (c := 0) (l := l0) hN hn hB bB (Nat.zero_le n) rfl rfl (by omega) (by decide) (fun _ => rfl) hr ?_
  obtain ⟨N, rfl⟩ : ∃ m', N = m' + 1 := ⟨N - 1, by omega⟩
  cases q1 : cS b n 0 0 l0 with
  | inl e =>
    rw [q1] at hcs
    intro rd nx nu li
    refine bad _ _ _ _ _ _ hcs.1 hcs.2 ?_
    rw [show (41 : Nat) = 40 + 1 from rfl]
    unfold lnP
    rw [q1]
  | inr v =>
    rw [q1] at hcs
    intro rd nu hrd
    refine key _ 0 v.1 v.2 rd _ _ _ rfl rfl hcs.1 (by omega) hcs.2 hrd ?_ (by omega)
    conv => rhs; rw [show (41 : Nat) = 40 + 1 from rfl]; unfold lnP
    rw [q1]
end ML2
