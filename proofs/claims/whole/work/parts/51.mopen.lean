/-! the reference reads a rule: what is open -/
def oo (o : Nat) : Nat := if o = 12 then 11 else if o = 13 then 12 else if o = 14 then 13 else 91
def oA (op : Nat → Int32) (B : List Nat) : Prop := ∀ (i v : Nat), B.reverse[i]? = some v → op i = jn (oo v)
def mO (B : List Nat) (dp : Int32) (op : Nat → Int32) (opd : Int32) : Prop := oA op B ∧ dp = jn (dep B) ∧ opd = jn B.length
theorem oA_push {op : Nat → Int32} {B : List Nat} {v : Nat} (h : oA op B) : oA (upd op B.length (jn (oo v))) (v :: B) := by
  intro i w hi
  rw [List.reverse_cons] at hi
  by_cases e : i = B.length
  · subst e
    rw [List.getElem?_append_right (by rw [List.length_reverse]; exact Nat.le_refl _), List.length_reverse, Nat.sub_self] at hi
    cases hi
    exact upd_at
  · rw [upd_ne e]
    by_cases e2 : i < B.length
    · rw [List.getElem?_append_left (by rw [List.length_reverse]; exact e2)] at hi; exact h i w hi
    · rw [List.getElem?_eq_none (by rw [List.length_append, List.length_reverse, List.length_singleton]; omega)] at hi; cases hi
theorem oA_top {op : Nat → Int32} {B : List Nat} {v : Nat} (h : oA op (v :: B)) : op B.length = jn (oo v) ∧ oA op B := by
  unfold oA at h
  rw [List.reverse_cons] at h
  refine ⟨h _ _ ?_, fun i w hi => ?_⟩
  · rw [List.getElem?_append_right (by rw [List.length_reverse]; exact Nat.le_refl _), List.length_reverse, Nat.sub_self]; rfl
  · have hl : i < B.reverse.length := by
      by_cases e : i < B.reverse.length
      · exact e
      · rw [List.getElem?_eq_none (by omega)] at hi; cases hi
    exact h i w (by rw [List.getElem?_append_left hl]; exact hi)
section MOP
variable {N n : Nat} {b : Nat → Int} {bt : Nat → Int32} {t : Nat}
theorem wm_strength {Q : Int32 → Prop} {o : Nat} {x : Int32} (ho : 12 ≤ o ∧ o ≤ 15) (hx : x = jn (oo o)) (h : Q (jn (str o))) : wp_X12_strength N Q x := by
  have e : o = 12 ∨ o = 13 ∨ o = 14 ∨ o = 15 := by omega
  unfold wp_X12_strength wp_X12_strength_31
  rcases e with e | e | e | e <;> subst e <;> subst hx
  · exact ⟨fun z => absurd z (by decide), fun _ => ⟨fun z => absurd z (by decide), fun _ => ⟨fun _ => h, fun z => absurd (by decide) z⟩⟩⟩
  · exact ⟨fun z => absurd z (by decide), fun _ => ⟨fun _ => h, fun z => absurd (by decide) z⟩⟩
  · exact ⟨fun _ => h, fun z => absurd (by decide) z⟩
  · exact ⟨fun z => absurd z (by decide), fun _ => ⟨fun z => absurd z (by decide), fun _ => ⟨fun z => absurd z (by decide), fun _ => h⟩⟩⟩
theorem oo_r {o : Nat} : oo o < 100 := by
  unfold oo
  repeat' split
  all_goals omega
theorem wm_layDown {m : Nat} {B T : List Nat} {Q : (Nat → Int32) → (Nat → Int32) → Int32 → Int32 → Prop} {tx x dp opd : Int32} {sg ln op : Nat → Int32} (hN : 500 ≤ N) (ht : t < 6) (htx : tx = jn t) (hx : x = jn m) (hm : 1 ≤ m ∧ m ≤ 3) (hB : ∀ o, o ∈ B → 12 ≤ o ∧ o ≤ 15) (hl : T.length + B.length ≤ 400) (hC : mC t sg ln T) (hO : mO B dp op opd)
    (h : ∀ sg' ln' dp' opd', mC t sg' ln' (popG m B T).2 → mFr t sg ln sg' ln' → mO (popG m B T).1 dp' op opd' → Q sg' ln' dp' opd') : wp_X12_layDown N tx op Q x sg ln dp opd := by
  subst hx
  have key : ∀ (k : Nat) (B T : List Nat) (sg1 ln1 : Nat → Int32) (dp opd : Int32), (∀ o, o ∈ B → 12 ≤ o ∧ o ≤ 15) → T.length + B.length ≤ 400 → mC t sg1 ln1 T → mFr t sg ln sg1 ln1 → mO B dp op opd → B.length < k → (∀ sg' ln' dp' opd', mC t sg' ln' (popG m B T).2 → mFr t sg ln sg' ln' → mO (popG m B T).1 dp' op opd' → Q sg' ln' dp' opd') → wp_X12_layDown_0 N tx op Q k (jn m) sg1 ln1 dp opd := by
    intro k
    induction k with
    | zero => intro B T sg1 ln1 dp opd _ _ _ _ _ h2; omega
    | succ k ih =>
      intro B T sg1 ln1 dp opd hB hl hC hFr hO hk h
      have hO' := hO
      obtain ⟨o1, o2, o3⟩ := hO
      unfold wp_X12_layDown_0 wp_X12_layDown_76
      cases B with
      | nil =>
        refine ⟨fun _ => h _ _ _ _ hC hFr hO', fun z => ?_⟩
        rw [o3] at z; exact absurd (by decide) z
      | cons o B =>
        obtain ⟨t1, t2⟩ := oA_top o1
        have ho := hB o (List.mem_cons_self ..)
        rw [List.length_cons] at hl hk
        have hos := oo_r (o := o)
        have hst := str_lt (o := o) (by omega)
        have e1 : (opd - (1 : Int32)) = jn (B.length : Int) := by rw [o3, List.length_cons, li_1, jn_sub]; exact congrArg jn (by omega)
        rw [e1, jn_cln (by omega), t1]
        refine ⟨fun z => ?_, fun _ => ⟨by simp (disch := omega) only [jn_le, jn_lt, jn_eq, jn_in, jn_add, jn_sub, jn_mul, jn_neg, li_0, li_1, li_2, li_3, li_4, li_5, li_6, li_7, li_8, li_9, li_10, li_11, li_12, li_13, li_14, li_15, li_16, li_17, li_18, li_20, li_24, li_29, li_30, li_31, li_32, li_37, li_39, li_40, li_42, li_43, li_45, li_46, li_47, li_48, li_53, li_57, li_59, li_60, li_61, li_62, li_63, li_80, li_81, li_91, li_93, li_97, li_100, li_122, li_200, li_255, li_256, li_257, li_258, li_259, li_260, li_300, li_314, li_400, li_580, li_999, li_5040, li_9999, li_65536, li_99999, li_7654321] <;> omega, wm_strength ho rfl ?_⟩⟩
        · rw [o3, List.length_cons, li_0, jn_le (by omega) (by omega)] at z; omega
        · rw [jn_lt (by omega) (by omega)]
          refine ⟨fun z => ?_, fun z => ⟨by simp (disch := omega) only [jn_le, jn_lt, jn_eq, jn_in, jn_add, jn_sub, jn_mul, jn_neg, li_0, li_1, li_2, li_3, li_4, li_5, li_6, li_7, li_8, li_9, li_10, li_11, li_12, li_13, li_14, li_15, li_16, li_17, li_18, li_20, li_24, li_29, li_30, li_31, li_32, li_37, li_39, li_40, li_42, li_43, li_45, li_46, li_47, li_48, li_53, li_57, li_59, li_60, li_61, li_62, li_63, li_80, li_81, li_91, li_93, li_97, li_100, li_122, li_200, li_255, li_256, li_257, li_258, li_259, li_260, li_300, li_314, li_400, li_580, li_999, li_5040, li_9999, li_65536, li_99999, li_7654321] <;> omega, ?_⟩⟩
          · have eg : popG m (o :: B) T = (o :: B, T) := by rw [popG, if_neg (by omega)]
            rw [eg] at h
            exact h _ _ _ _ hC hFr hO'
          · have eg : popG m (o :: B) T = popG m B (T ++ [o]) := by rw [popG, if_pos (by omega)]
            rw [eg] at h
            have ho14 : o ≤ 14 := by
              by_cases e15 : o = 15
              · subst e15; exact absurd z (by show ¬ ¬ ((0 : Nat) : Int) < m; omega)
              · omega
            refine wm_puts (v := o) ht htx hC (by omega) ?_ (fun sg2 ln2 g1 g2 => ?_)
            · rw [show (16 : Int32) = jn 16 from rfl, li_0, jn_mul, jn_add]
              have : mt o = oo o := by
                have : o = 12 ∨ o = 13 ∨ o = 14 := by omega
                rcases this with e | e | e <;> subst e <;> decide
              rw [this]; exact congrArg jn (by omega)
            · have hlen : (T ++ [o]).length + B.length ≤ 400 := by rw [List.length_append, List.length_singleton]; omega
              have dle : dep B ≤ B.length := List.countP_le_length
              rw [li_11, jn_eq (by omega) (by omega)]
              refine ⟨by simp (disch := omega) only [jn_le, jn_lt, jn_eq, jn_in, jn_add, jn_sub, jn_mul, jn_neg, li_0, li_1, li_2, li_3, li_4, li_5, li_6, li_7, li_8, li_9, li_10, li_11, li_12, li_13, li_14, li_15, li_16, li_17, li_18, li_20, li_24, li_29, li_30, li_31, li_32, li_37, li_39, li_40, li_42, li_43, li_45, li_46, li_47, li_48, li_53, li_57, li_59, li_60, li_61, li_62, li_63, li_80, li_81, li_91, li_93, li_97, li_100, li_122, li_200, li_255, li_256, li_257, li_258, li_259, li_260, li_300, li_314, li_400, li_580, li_999, li_5040, li_9999, li_65536, li_99999, li_7654321] <;> omega, fun y => ?_, fun y => ?_⟩
              · refine ih B (T ++ [o]) sg2 ln2 _ _ (fun o' h' => hB o' (List.mem_cons_of_mem _ h')) hlen g1 (mFr_trans hFr g2) ⟨t2, ?_, rfl⟩ (by omega) h
                have e12 : o = 12 := by
                  have : o = 12 ∨ o = 13 ∨ o = 14 := by omega
                  rcases this with e | e | e
                  · exact e
                  · subst e; exact absurd y (by decide)
                  · subst e; exact absurd y (by decide)
                rw [o2, dep_cons, if_pos (Or.inl e12), li_1, jn_sub]; exact congrArg jn (by omega)
              · refine ih B (T ++ [o]) sg2 ln2 _ _ (fun o' h' => hB o' (List.mem_cons_of_mem _ h')) hlen g1 (mFr_trans hFr g2) ⟨t2, ?_, rfl⟩ (by omega) h
                have e12 : ¬ (o = 12 ∨ o = 15) := by
                  intro z2
                  rcases z2 with e | e
                  · subst e; exact y rfl
                  · omega
                rw [o2, dep_cons, if_neg e12]; rfl
  unfold wp_X12_layDown
  exact key N B T sg ln dp opd hB hl hC mFr_refl hO (by omega) h
theorem opn_get : ∀ {B : List Nat}, opn B ≠ 0 ↔ ∃ i : Nat, B[i]? = some 15
  | [] => ⟨fun h => absurd rfl h, fun ⟨i, h⟩ => by simp at h⟩
  | o :: B => by
    have ih := opn_get (B := B)
    rw [opn_cons]
    constructor
    · intro h
      by_cases e : o = 15
      · exact ⟨0, by rw [e]; rfl⟩
      · rw [if_neg e, Nat.add_zero] at h
        obtain ⟨i, hi⟩ := ih.mp h
        exact ⟨i + 1, hi⟩
    · rintro ⟨i, hi⟩
      cases i with
      | zero => cases hi; rw [if_pos rfl]; omega
      | succ i =>
        have := ih.mpr ⟨i, hi⟩
        omega
theorem opn_rev {B : List Nat} : opn B.reverse = opn B := by unfold opn; rw [List.countP_reverse]
theorem wm_isInside {B : List Nat} {Q : Int32 → Prop} {dp opd : Int32} {op : Nat → Int32} (hN : 500 ≤ N) (hB : ∀ o, o ∈ B → 12 ≤ o ∧ o ≤ 15) (hl : B.length ≤ 400) (hO : mO B dp op opd) (h : Q (if opn B = 0 then 0 else 1)) : wp_X12_isInside N op opd Q := by
  obtain ⟨o1, -, o3⟩ := hO
  subst o3
  have key : ∀ (k i : Nat) (v : Int32), v = jn i → i ≤ B.length → (∀ j : Nat, j < i → B.reverse[j]? ≠ some 15) → B.length < k + i → wp_X12_isInside_2 N op (jn B.length) Q k v := by
    intro k
    induction k with
    | zero => intro i v _ h1 _ h2; omega
    | succ k ih =>
      intro i v hv h1 ha h2
      unfold wp_X12_isInside_2
      subst hv
      rw [jn_le (by omega) (by omega)]
      refine ⟨fun z => ?_, fun z => ?_⟩
      · have : opn B = 0 := by
          by_cases e : opn B = 0
          · exact e
          · rw [← opn_rev] at e
            obtain ⟨j, hj⟩ := opn_get.mp e
            by_cases hji : j < i
            · exact absurd hj (ha j hji)
            · rw [List.getElem?_eq_none (by rw [List.length_reverse]; omega)] at hj; cases hj
        rwa [if_pos this] at h
      · have hlt : i < B.reverse.length := by rw [List.length_reverse]; omega
        have hg := List.getElem?_eq_getElem hlt
        generalize B.reverse[i] = o at hg
        have ho := hB o (by rw [← List.mem_reverse]; exact List.mem_of_getElem? hg)
        have hoo := oo_r (o := o)
        rw [jn_cln (by omega), o1 i o hg, show (91 : Int32) = jn ((91 : Nat) : Int) from rfl, jn_eq (by omega) (by omega)]
        have e91 : oo o = 91 ↔ o = 15 := by
          have : o = 12 ∨ o = 13 ∨ o = 14 ∨ o = 15 := by omega
          rcases this with e | e | e | e <;> subst e <;> decide
        refine ⟨by simp (disch := omega) only [jn_le, jn_lt, jn_eq, jn_in, jn_add, jn_sub, jn_mul, jn_neg, li_0, li_1, li_2, li_3, li_4, li_5, li_6, li_7, li_8, li_9, li_10, li_11, li_12, li_13, li_14, li_15, li_16, li_17, li_18, li_20, li_24, li_29, li_30, li_31, li_32, li_37, li_39, li_40, li_42, li_43, li_45, li_46, li_47, li_48, li_53, li_57, li_59, li_60, li_61, li_62, li_63, li_80, li_81, li_91, li_93, li_97, li_100, li_122, li_200, li_255, li_256, li_257, li_258, li_259, li_260, li_300, li_314, li_400, li_580, li_999, li_5040, li_9999, li_65536, li_99999, li_7654321] <;> omega, fun y => ?_, fun y => ?_⟩
        · have e15 := e91.mp (by omega)
          subst e15
          have : opn B ≠ 0 := by rw [← opn_rev]; exact opn_get.mpr ⟨i, hg⟩
          rwa [if_neg this] at h
        · refine ih (i + 1) _ (by (first | rfl | (simp (disch := omega) only [jn_add, jn_sub, jn_mul, jn_neg, li_0, li_1, li_2, li_3, li_4, li_5, li_6, li_7, li_8, li_9, li_10, li_11, li_12, li_13, li_14, li_15, li_16, li_17, li_18, li_20, li_24, li_29, li_30, li_31, li_32, li_37, li_39, li_40, li_42, li_43, li_45, li_46, li_47, li_48, li_53, li_57, li_59, li_60, li_61, li_62, li_63, li_80, li_81, li_91, li_93, li_97, li_100, li_122, li_200, li_255, li_256, li_257, li_258, li_259, li_260, li_300, li_314, li_400, li_580, li_999, li_5040, li_9999, li_65536, li_99999, li_7654321] <;> first | rfl | exact congrArg jn (by omega)) | exact congrArg jn (by omega))) (by omega) (fun j hj => ?_) (by omega)
          by_cases e : j = i
          · subst e
            rw [hg]
            intro z; cases z
            exact y (by have := e91.mpr rfl; omega)
          · exact ha j (by omega)
  exact key N 0 _ rfl (by omega) (fun j hj => by omega) (by omega)
theorem wm_opens {B : List Nat} {o p : Nat} {Q : Int32 → Int32 → Int32 → (Nat → Int32) → Int32 → Prop} {nx x dp opd : Int32} {op : Nat → Int32} (hnx : nx = jn p) (ho : o = 12 ∨ o = 15) (hx : x = jn (oo o)) (hl : B.length < 400) (hd : dep B ≤ 10) (hO : mO B dp op opd)
    (h0 : 10 ≤ dep B → Q 0 (jn ((1 + 8 * p + 2 : Nat) : Int)) dp op opd) (h1 : dep B < 10 → ∀ dp' op' opd', mO (o :: B) dp' op' opd' → Q 1 0 dp' op' opd') : wp_X12_opens N nx Q x 0 dp op opd := by
  obtain ⟨o1, o2, o3⟩ := hO
  unfold wp_X12_opens
  rw [show (dp = (10 : Int32)) = (dep B = 10) by rw [o2, li_10, jn_eq (by omega) (by omega)]; exact propext ⟨fun z => by omega, fun z => by omega⟩]
  refine ⟨fun z => wm_fails (kd := 2) rfl hnx ⟨Or.inl rfl, h0 (by omega)⟩, fun z => ⟨by rw [o3]; exact by simp (disch := omega) only [jn_le, jn_lt, jn_eq, jn_in, jn_add, jn_sub, jn_mul, jn_neg, li_0, li_1, li_2, li_3, li_4, li_5, li_6, li_7, li_8, li_9, li_10, li_11, li_12, li_13, li_14, li_15, li_16, li_17, li_18, li_20, li_24, li_29, li_30, li_31, li_32, li_37, li_39, li_40, li_42, li_43, li_45, li_46, li_47, li_48, li_53, li_57, li_59, li_60, li_61, li_62, li_63, li_80, li_81, li_91, li_93, li_97, li_100, li_122, li_200, li_255, li_256, li_257, li_258, li_259, li_260, li_300, li_314, li_400, li_580, li_999, li_5040, li_9999, li_65536, li_99999, li_7654321] <;> omega, fun a ha => ?_⟩⟩
  refine h1 (by omega) _ _ _ ⟨?_, ?_, ?_⟩
  · rw [ha, o3, jn_cln (by omega), hx]; exact oA_push o1
  · rw [o2, dep_cons, if_pos ho, li_1, jn_add]; rfl
  · rw [o3, List.length_cons, li_1, jn_add]; rfl
end MOP
