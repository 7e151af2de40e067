/-! the class's RuleReader: what is written and what waits -/
/-- a row holds a list -/
def lA (f : Nat → Int32) (L : List Nat) : Prop := ∀ (i v : Nat), L[i]? = some v → f i = jn v
theorem lA_push {f : Nat → Int32} {L : List Nat} {v : Nat} (h : lA f L) : lA (upd f L.length (jn v)) (L ++ [v]) := by
  intro i w hi
  by_cases e : i = L.length
  · subst e
    rw [List.getElem?_append_right (Nat.le_refl _), Nat.sub_self] at hi
    cases hi
    exact upd_at
  · rw [upd_ne e]
    by_cases e2 : i < L.length
    · rw [List.getElem?_append_left e2] at hi; exact h i w hi
    · rw [List.getElem?_eq_none (by rw [List.length_append, List.length_singleton]; omega)] at hi; cases hi
theorem lA_pre {f : Nat → Int32} {L M : List Nat} (h : lA f (L ++ M)) : lA f L := by
  intro i v hi
  have hl : i < L.length := by
    by_cases e : i < L.length
    · exact e
    · rw [List.getElem?_eq_none (by omega)] at hi; cases hi
  exact h i v (by rw [List.getElem?_append_left hl]; exact hi)
theorem lA_nil {f : Nat → Int32} : lA f [] := fun i v h => by simp at h
theorem lA_top {f : Nat → Int32} {o : Nat} {p : List Nat} (h : lA f (o :: p).reverse) : f p.length = jn o ∧ lA f p.reverse := by
  rw [List.reverse_cons] at h
  refine ⟨h _ _ ?_, lA_pre h⟩
  rw [List.getElem?_append_right (by rw [List.length_reverse]; exact Nat.le_refl _), List.length_reverse, Nat.sub_self]; rfl
def cQ (C p : List Nat) (cd : Nat → Int32) (ln : Int32) (pl : Nat → Int32) (tp dp op : Int32) : Prop := lA cd C ∧ ln = jn C.length ∧ lA pl p.reverse ∧ tp = jn p.length ∧ dp = jn (dep p) ∧ op = jn (opn p)
theorem popG_app {m : Nat} {x : List Nat} : ∀ {p c : List Nat}, popG m p (x ++ c) = ((popG m p c).1, x ++ (popG m p c).2)
  | [], c => rfl
  | o :: p, c => by
    unfold popG
    by_cases e : m ≤ str o
    · rw [if_pos e, if_pos e, List.append_assoc]; exact popG_app
    · rw [if_neg e, if_neg e]
theorem bO_r : ∀ {p : List Nat} {m : Nat}, bO m p → ∀ o, o ∈ p → 12 ≤ o ∧ o ≤ 15
  | [], _, _, o, h => by cases h
  | x :: p, m, h, o, ho => by
    rw [List.mem_cons] at ho
    rcases h with ⟨e, h⟩ | ⟨e, h⟩ | ⟨e, h1, h⟩ | ⟨e, h1, h⟩ <;> subst e <;> rcases ho with z | z <;> first | omega | exact bO_r h o z
theorem aO_r {k : Nat} : ∀ {p : List Nat} {m : Nat}, aO (RK k) m p → ∀ o, o ∈ p → 2 ≤ o ∧ o ≤ 15
  | [], _, _, o, h => by cases h
  | x :: p, m, h, o, ho => by
    rcases h with ⟨h1, h2, h3, h⟩ | h
    · rw [List.mem_cons] at ho
      rcases ho with z | z
      · omega
      · exact aO_r h o z
    · rcases h with ⟨-, e⟩ | ⟨-, h⟩ | ⟨-, o', p', e, h1, h2, h⟩
      · cases e
      · have := bO_r h o ho; omega
      · cases e
        rw [List.mem_cons] at ho
        rcases ho with z | z
        · omega
        · have := bO_r h o z; omega
theorem ax_str_is {o : Nat} (h : o < 19) : ax_str o = jn (str o) := by
  have : ∀ o : Fin 19, ax_str o.val = jn (str o.val) := by decide +kernel
  exact this ⟨o, h⟩
theorem str_lt {o : Nat} (h : o < 19) : str o < 7 := by
  have : ∀ o : Fin 19, str o.val < 7 := by decide +kernel
  exact this ⟨o, h⟩
theorem str_1 {o : Nat} (h : 2 ≤ o ∧ o ≤ 15) : 1 ≤ str o ↔ o ≠ 15 := by
  have : ∀ o : Fin 16, 2 ≤ o.val → (1 ≤ str o.val ↔ o.val ≠ 15) := by decide +kernel
  exact this ⟨o, by omega⟩ h.1
section CRU
variable {N : Nat}
theorem wl_write {C : List Nat} {v : Nat} {Q : (Nat → Int32) → Int32 → Prop} {cd : Nat → Int32} {ln x : Int32} (hC : lA cd C) (hln : ln = jn C.length) (hl : C.length < 400) (hx : x = jn v) (h : ∀ cd', lA cd' (C ++ [v]) → Q cd' (jn (C ++ [v]).length)) : wp_X7_write N Q x cd ln := by
  subst hln hx
  unfold wp_X7_write wp_X7_write_29
  rw [show (Int32.ofNat 400) = jn (400 : Nat) from rfl, jn_le (by omega) (by omega)]
  refine ⟨fun q => by omega, fun _ => ⟨by simp (disch := omega) only [jn_le, jn_lt, jn_eq, jn_in, jn_add, jn_sub, jn_mul, jn_neg, li_0, li_1, li_2, li_3, li_4, li_5, li_6, li_7, li_8, li_9, li_10, li_11, li_12, li_13, li_14, li_15, li_16, li_17, li_18, li_20, li_24, li_29, li_30, li_31, li_32, li_37, li_39, li_40, li_42, li_43, li_45, li_46, li_47, li_48, li_53, li_57, li_59, li_60, li_61, li_62, li_63, li_80, li_81, li_91, li_93, li_97, li_100, li_122, li_200, li_255, li_256, li_257, li_258, li_259, li_260, li_300, li_314, li_400, li_580, li_999, li_5040, li_9999, li_65536, li_99999, li_7654321] <;> omega, fun a ha => ?_⟩⟩
  have := h a (by rw [ha, jn_cln (by omega)]; exact lA_push hC)
  rw [List.length_append, List.length_singleton] at this
  rw [li_1, jn_add]; exact this
theorem wl_lay {p : List Nat} {o : Nat} {Q : (Nat → Int32) → Int32 → Prop} {pl : Nat → Int32} {tp x : Int32} (hp : lA pl p.reverse) (htp : tp = jn p.length) (hl : p.length < 48) (hx : x = jn o) (h : ∀ pl', lA pl' (o :: p).reverse → Q pl' (jn (o :: p).length)) : wp_X7_lay N Q x pl tp := by
  subst htp hx
  unfold wp_X7_lay wp_X7_lay_29
  rw [show (Int32.ofNat 48) = jn (48 : Nat) from rfl, jn_le (by omega) (by omega)]
  refine ⟨fun q => by omega, fun _ => ⟨by simp (disch := omega) only [jn_le, jn_lt, jn_eq, jn_in, jn_add, jn_sub, jn_mul, jn_neg, li_0, li_1, li_2, li_3, li_4, li_5, li_6, li_7, li_8, li_9, li_10, li_11, li_12, li_13, li_14, li_15, li_16, li_17, li_18, li_20, li_24, li_29, li_30, li_31, li_32, li_37, li_39, li_40, li_42, li_43, li_45, li_46, li_47, li_48, li_53, li_57, li_59, li_60, li_61, li_62, li_63, li_80, li_81, li_91, li_93, li_97, li_100, li_122, li_200, li_255, li_256, li_257, li_258, li_259, li_260, li_300, li_314, li_400, li_580, li_999, li_5040, li_9999, li_65536, li_99999, li_7654321] <;> omega, fun a ha => ?_⟩⟩
  have := h a (by
    rw [ha, jn_cln (by omega), List.reverse_cons]
    have := lA_push (v := o) hp
    rwa [List.length_reverse] at this)
  rw [List.length_cons] at this
  rw [li_1, jn_add]; exact this
theorem wl_fromPile {p : List Nat} {o : Nat} {Q : Int32 → Int32 → Int32 → Int32 → Prop} {pl : Nat → Int32} {tp dp op : Int32} (hp : lA pl (o :: p).reverse) (htp : tp = jn (o :: p).length) (hl : p.length < 48) (ho : o < 19) (hd : dp = jn (dep (o :: p))) (hop : op = jn (opn (o :: p))) (h : Q (jn o) (jn p.length) (jn (dep p)) (jn (opn p))) : wp_X7_takeFromPile N pl Q tp dp op := by
  subst htp hd hop
  obtain ⟨h1, h2⟩ := lA_top hp
  have e1 : (jn ((o :: p).length : Int) - (1 : Int32)) = jn (p.length : Int) := by rw [List.length_cons, li_1, jn_sub]; exact congrArg jn (by omega)
  have dle : dep p ≤ p.length := List.countP_le_length
  have ole : opn p ≤ p.length := List.countP_le_length
  unfold wp_X7_takeFromPile wp_X7_takeFromPile_42 wp_X7_takeFromPile_72 wp_X7_takeFromPile_68
  rw [e1, jn_cln (by omega), h1, List.length_cons, dep_cons, opn_cons]
  refine ⟨fun q => ?_, fun _ => ⟨by simp (disch := omega) only [jn_le, jn_lt, jn_eq, jn_in, jn_add, jn_sub, jn_mul, jn_neg, li_0, li_1, li_2, li_3, li_4, li_5, li_6, li_7, li_8, li_9, li_10, li_11, li_12, li_13, li_14, li_15, li_16, li_17, li_18, li_20, li_24, li_29, li_30, li_31, li_32, li_37, li_39, li_40, li_42, li_43, li_45, li_46, li_47, li_48, li_53, li_57, li_59, li_60, li_61, li_62, li_63, li_80, li_81, li_91, li_93, li_97, li_100, li_122, li_200, li_255, li_256, li_257, li_258, li_259, li_260, li_300, li_314, li_400, li_580, li_999, li_5040, li_9999, li_65536, li_99999, li_7654321] <;> omega, fun x hx => ?_⟩⟩
  · rw [li_0, jn_eq (by omega) (by omega)] at q; omega
  · subst hx
    rw [li_12, li_15, jn_eq (by omega) (by omega), jn_eq (by omega) (by omega)]
    have a1 : ∀ c : Int32, c = jn 1 → ∀ y : Nat, (jn ((y + 1 : Nat) : Int) - c) = jn (y : Int) := by
      intro c hc y; rw [hc, jn_sub]; exact congrArg jn (by omega)
    refine ⟨fun q => ⟨fun z => by omega, fun _ => ?_⟩, fun q => ⟨fun z => ⟨fun _ => ?_, fun y => absurd z y⟩, fun z => ?_⟩⟩
    · rw [if_pos (by omega), if_neg (by omega), a1 1 rfl, li_0, jn_sub, show (((opn p + 0 : Nat) : Int) - 0) = (opn p : Nat) by omega]; exact h
    · rw [if_pos (by omega), if_pos (by omega), a1 1 rfl, a1 1 rfl]; exact h
    · rw [if_neg (by omega), if_neg (by omega)]; exact h
theorem wl_layBS {C p : List Nat} {w : Nat} {Q : (Nat → Int32) → Int32 → (Nat → Int32) → Int32 → Int32 → Int32 → Prop} {cd pl : Nat → Int32} {ln tp dp op x : Int32} (hN : 100 ≤ N) (hw : w < 19) (hw2 : w ≠ 12 ∧ w ≠ 15) (hx : x = jn w) (hQ : cQ C p cd ln pl tp dp op) (hr : ∀ o, o ∈ p → 2 ≤ o ∧ o ≤ 15) (hl : p.length < 48) (hc : C.length + p.length ≤ 400) (h : ∀ cd' ln' pl' tp' dp' op', cQ (popG (str w) p C).2 (w :: (popG (str w) p C).1) cd' ln' pl' tp' dp' op' → Q cd' ln' pl' tp' dp' op') : wp_X7_layBehindStronger N Q x cd ln pl tp dp op := by
  subst hx
  have hsw := str_lt hw
  have key : ∀ (m : Nat) (p C : List Nat) (cd pl : Nat → Int32) (ln tp dp op v : Int32), cQ C p cd ln pl tp dp op → v = jn p.length → (∀ o, o ∈ p → 2 ≤ o ∧ o ≤ 15) → p.length < 48 → C.length + p.length ≤ 400 → p.length < m → (∀ cd' ln' pl' tp' dp' op', lA cd' (popG (str w) p C).2 → ln' = jn (popG (str w) p C).2.length → lA pl' (w :: (popG (str w) p C).1).reverse → tp' = jn (w :: (popG (str w) p C).1).length → dp' = jn (dep (popG (str w) p C).1) → op' = jn (opn (popG (str w) p C).1) → Q cd' ln' pl' tp' dp' op') → wp_X7_layBehindStronger_5 N Q m (jn w) v cd ln pl tp dp op := by
    intro m
    induction m with
    | zero => intro p C cd pl ln tp dp op v _ _ _ _ _ h2; omega
    | succ m ih =>
      intro p C cd pl ln tp dp op v hQ hv hr hl hc hm h
      obtain ⟨q1, q2, q3, q4, q5, q6⟩ := hQ
      unfold wp_X7_layBehindStronger_5 wp_X7_layBehindStronger_43
      have stop : popG (str w) p C = (p, C) → wp_X7_lay N (fun m7 m8 => Q cd ln m7 m8 dp op) (jn w) pl tp := by
        intro e
        rw [e] at h
        exact wl_lay q3 q4 hl rfl (fun pl' hp' => h cd ln pl' _ dp op q1 q2 hp' rfl q5 q6)
      cases p with
      | nil =>
        refine ⟨fun _ => stop rfl, fun z => ?_⟩
        rw [hv] at z; exact absurd (by decide) z
      | cons o p =>
        obtain ⟨t1, t2⟩ := lA_top q3
        have ho := hr o (List.mem_cons_self ..)
        rw [List.length_cons] at hl hc hm
        have e1 : (v - (1 : Int32)) = jn (p.length : Int) := by rw [hv, List.length_cons, li_1, jn_sub]; exact congrArg jn (by omega)
        rw [e1, jn_cln (by omega), t1, jn_cln (by omega), jn_cln (by omega), ax_str_is (by omega), ax_str_is hw]
        have hso := str_lt (o := o) (by omega)
        rw [jn_lt (by omega) (by omega)]
        refine ⟨fun z => ?_, fun _ => ⟨by simp (disch := omega) only [jn_le, jn_lt, jn_eq, jn_in, jn_add, jn_sub, jn_mul, jn_neg, li_0, li_1, li_2, li_3, li_4, li_5, li_6, li_7, li_8, li_9, li_10, li_11, li_12, li_13, li_14, li_15, li_16, li_17, li_18, li_20, li_24, li_29, li_30, li_31, li_32, li_37, li_39, li_40, li_42, li_43, li_45, li_46, li_47, li_48, li_53, li_57, li_59, li_60, li_61, li_62, li_63, li_80, li_81, li_91, li_93, li_97, li_100, li_122, li_200, li_255, li_256, li_257, li_258, li_259, li_260, li_300, li_314, li_400, li_580, li_999, li_5040, li_9999, li_65536, li_99999, li_7654321] <;> omega, by simp (disch := omega) only [jn_le, jn_lt, jn_eq, jn_in, jn_add, jn_sub, jn_mul, jn_neg, li_0, li_1, li_2, li_3, li_4, li_5, li_6, li_7, li_8, li_9, li_10, li_11, li_12, li_13, li_14, li_15, li_16, li_17, li_18, li_20, li_24, li_29, li_30, li_31, li_32, li_37, li_39, li_40, li_42, li_43, li_45, li_46, li_47, li_48, li_53, li_57, li_59, li_60, li_61, li_62, li_63, li_80, li_81, li_91, li_93, li_97, li_100, li_122, li_200, li_255, li_256, li_257, li_258, li_259, li_260, li_300, li_314, li_400, li_580, li_999, li_5040, li_9999, li_65536, li_99999, li_7654321] <;> omega, by simp (disch := omega) only [jn_le, jn_lt, jn_eq, jn_in, jn_add, jn_sub, jn_mul, jn_neg, li_0, li_1, li_2, li_3, li_4, li_5, li_6, li_7, li_8, li_9, li_10, li_11, li_12, li_13, li_14, li_15, li_16, li_17, li_18, li_20, li_24, li_29, li_30, li_31, li_32, li_37, li_39, li_40, li_42, li_43, li_45, li_46, li_47, li_48, li_53, li_57, li_59, li_60, li_61, li_62, li_63, li_80, li_81, li_91, li_93, li_97, li_100, li_122, li_200, li_255, li_256, li_257, li_258, li_259, li_260, li_300, li_314, li_400, li_580, li_999, li_5040, li_9999, li_65536, li_99999, li_7654321] <;> omega, fun z => ?_, fun z => ?_⟩⟩
        · rw [hv, List.length_cons, li_0, jn_le (by omega) (by omega)] at z; omega
        · refine stop ?_
          rw [popG, if_neg (by omega)]
        · have e : str w ≤ str o := by omega
          refine wl_fromPile q3 q4 (by omega) (by omega) q5 q6 ?_
          refine wl_write q1 q2 (by omega) rfl (fun cd' hcd' => ?_)
          have eg : popG (str w) (o :: p) C = popG (str w) p (C ++ [o]) := by rw [popG, if_pos e]
          rw [eg] at h
          refine ih p (C ++ [o]) _ _ _ _ _ _ _ ⟨hcd', rfl, t2, rfl, rfl, rfl⟩ ?_ (fun o' ho' => hr o' (List.mem_cons_of_mem _ ho')) (by omega) ?_ (by omega) h
          · rw [hv, List.length_cons, li_1, jn_neg, jn_add]; exact congrArg jn (by omega)
          · rw [List.length_append, List.length_singleton]; omega
  unfold wp_X7_layBehindStronger
  exact key N p C cd pl ln tp dp op tp hQ hQ.2.2.2.1 hr hl hc (by omega) (fun cd' ln' pl' tp' dp' op' a b c d e f => h cd' ln' pl' tp' dp' op' ⟨a, b, c, d, by rw [e, dep_cons, if_neg (by omega)]; rfl, by rw [f, opn_cons, if_neg (by omega)]; rfl⟩)
theorem wl_waiting {C p : List Nat} {Q : (Nat → Int32) → Int32 → Int32 → Int32 → Int32 → Prop} {cd pl : Nat → Int32} {ln tp dp op : Int32} (hN : 100 ≤ N) (hQ : cQ C p cd ln pl tp dp op) (hr : ∀ o, o ∈ p → 2 ≤ o ∧ o ≤ 15) (hl : p.length < 48) (hc : C.length + p.length ≤ 400) (h : ∀ cd' ln' tp' dp' op', cQ (popG 1 p C).2 (popG 1 p C).1 cd' ln' pl tp' dp' op' → Q cd' ln' tp' dp' op') : wp_X7_writeWaiting N pl Q cd ln tp dp op := by
  have key : ∀ (m : Nat) (p C : List Nat) (cd : Nat → Int32) (ln tp dp op v : Int32), cQ C p cd ln pl tp dp op → v = jn p.length → (∀ o, o ∈ p → 2 ≤ o ∧ o ≤ 15) → p.length < 48 → C.length + p.length ≤ 400 → p.length < m → (∀ cd' ln' tp' dp' op', cQ (popG 1 p C).2 (popG 1 p C).1 cd' ln' pl tp' dp' op' → Q cd' ln' tp' dp' op') → wp_X7_writeWaiting_5 N pl Q m v cd ln tp dp op := by
    intro m
    induction m with
    | zero => intro p C cd ln tp dp op v _ _ _ _ _ h2; omega
    | succ m ih =>
      intro p C cd ln tp dp op v hQ hv hr hl hc hm h
      have hQ' := hQ
      obtain ⟨q1, q2, q3, q4, q5, q6⟩ := hQ
      unfold wp_X7_writeWaiting_5 wp_X7_writeWaiting_36
      cases p with
      | nil =>
        refine ⟨fun _ => h _ _ _ _ _ hQ', fun z => ?_⟩
        rw [hv] at z; exact absurd (by decide) z
      | cons o p =>
        obtain ⟨t1, t2⟩ := lA_top q3
        have ho := hr o (List.mem_cons_self ..)
        rw [List.length_cons] at hl hc hm
        have e1 : (v - (1 : Int32)) = jn (p.length : Int) := by rw [hv, List.length_cons, li_1, jn_sub]; exact congrArg jn (by omega)
        rw [e1, jn_cln (by omega), t1, li_15, jn_eq (by omega) (by omega)]
        have hs1 := str_1 ho
        refine ⟨fun z => ?_, fun _ => ⟨by simp (disch := omega) only [jn_le, jn_lt, jn_eq, jn_in, jn_add, jn_sub, jn_mul, jn_neg, li_0, li_1, li_2, li_3, li_4, li_5, li_6, li_7, li_8, li_9, li_10, li_11, li_12, li_13, li_14, li_15, li_16, li_17, li_18, li_20, li_24, li_29, li_30, li_31, li_32, li_37, li_39, li_40, li_42, li_43, li_45, li_46, li_47, li_48, li_53, li_57, li_59, li_60, li_61, li_62, li_63, li_80, li_81, li_91, li_93, li_97, li_100, li_122, li_200, li_255, li_256, li_257, li_258, li_259, li_260, li_300, li_314, li_400, li_580, li_999, li_5040, li_9999, li_65536, li_99999, li_7654321] <;> omega, fun z => ?_, fun z => ?_⟩⟩
        · rw [hv, List.length_cons, li_0, jn_le (by omega) (by omega)] at z; omega
        · have eg : popG 1 (o :: p) C = (o :: p, C) := by rw [popG, if_neg (fun y => hs1.mp y (by omega))]
          rw [eg] at h
          exact h _ _ _ _ _ hQ'
        · have eg : popG 1 (o :: p) C = popG 1 p (C ++ [o]) := by rw [popG, if_pos (hs1.mpr (by omega))]
          rw [eg] at h
          refine wl_fromPile q3 q4 (by omega) (by omega) q5 q6 ?_
          refine wl_write q1 q2 (by omega) rfl (fun cd' hcd' => ?_)
          refine ih p (C ++ [o]) _ _ _ _ _ _ ⟨hcd', rfl, t2, rfl, rfl, rfl⟩ ?_ (fun o' ho' => hr o' (List.mem_cons_of_mem _ ho')) (by omega) ?_ (by omega) h
          · rw [hv, List.length_cons, li_1, jn_neg, jn_add]; exact congrArg jn (by omega)
          · rw [List.length_append, List.length_singleton]; omega
  unfold wp_X7_writeWaiting
  exact key N p C cd ln tp dp op tp hQ hQ.2.2.2.1 hr hl hc (by omega) h
end CRU
