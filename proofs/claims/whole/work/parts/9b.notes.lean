/-! notes: the class -/
abbrev nS : Type := Nat × (Nat → Nat) × (Nat → Nat)
def n_m (v : nS) : Nat := v.1
def n_t (v : nS) : Nat → Nat := v.2.1
def n_c (v : nS) : Nat → Nat := v.2.2
def NOk (v : nS) : Prop := n_m v ≤ 10 ∧ (∀ i, n_t v i ≤ 60) ∧ ∀ i, n_c v i < 8
def cN (nm : Int32) (nt nc : Nat → Int32) (v : nS) : Prop := nm = jn (n_m v : Int) ∧ ar (n_m v) nt (n_t v) ∧ ar (n_m v) nc (n_c v)
def mN (sd : Nat → Int32) (v : nS) : Prop := sd 80 = jn (n_m v : Int) ∧ (∀ i, i < n_m v → sd (60 + 2 * i) = jn (n_t v i : Int)) ∧ ∀ i, i < n_m v → sd (61 + 2 * i) = jn (n_c v i : Int)
theorem mN_7 {sd sd' : Nat → Int32} {v : nS} (hv : NOk v) (h : mF 7 sd sd') (hN : mN sd v) : mN sd' v := by
  have := hv.1
  refine ⟨by rw [h 80 (by omega)]; exact hN.1, fun i hi => ?_, fun i hi => ?_⟩
  · rw [h _ (by omega)]; exact hN.2.1 i hi
  · rw [h _ (by omega)]; exact hN.2.2 i hi
/-- the first one of a row, or none -/
def fi (l : lS) (g : gS) : Int := if l_k l = 0 then -1 else (g_o g 0 : Int)
theorem fi_b {l : lS} {g : gS} (hk : l_k l ≤ 7) (hg : GOk (l_k l) g) : -1 ≤ fi l g ∧ fi l g < 7 := by
  unfold fi
  split
  · omega
  · have := hg.1.1 0 (by omega); omega
theorem fi_jn {l : lS} {g : gS} : (if l_k l = 0 then (-1 : Int32) else jn (g_o g 0 : Int)) = jn (fi l g) := by
  unfold fi
  split <;> rfl
/-- the begin -/
def g00 (l : lS) : gS := (0, fun p => p, l_b l, l_r l, fun _ => 0)
theorem g00_ok {l : lS} (hl : LOk l) : GOk (l_k l) (g00 l) := ⟨Pm_id _, hl.2.2.2.2.1, fun c => by have := hl.2.2.2.2.2.2.1 c; show l_r l c ≤ 60; omega, fun c => Nat.zero_le _⟩
def ft (l : lS) (r : rS) (n : Nat) : Int := fi l (tI l r (n + 1) (g00 l))
def nhf (l : lS) (r : rS) (v : nS) (n : Nat) : Bool := alw (n_t v) (n_c v) n (ft l r n) (n_m v)
/-- whether a game goes as all notes say -/
def nh (l : lS) (r : rS) (v : nS) : Bool := decide (lead (nhf l r v) 61 = 61)
theorem nh_t {l : lS} {r : rS} {v : nS} (h : ∀ n, n < 61 → nhf l r v n = true) : nh l r v = true := decide_eq_true (lead_is (Nat.le_refl 61) h (Or.inl rfl))
theorem nh_f {l : lS} {r : rS} {v : nS} {n : Nat} (hn : n < 61) (h : nhf l r v n = false) : nh l r v = false := decide_eq_false (fun z => by
  have := lead_all (f := nhf l r v) (n := 61) (i := n) (by omega)
  rw [h] at this; cases this)
def noA (v : nS) (n c : Nat) : nS := (n_m v + 1, un (n_t v) (n_m v) n, un (n_c v) (n_m v) c)
def qNo (l : lS) (v : nS) (x y : Int32) (n c : Nat) : Prop := x = jn (n : Int) ∧ n ≤ 60 ∧ asC (l_k l) y = some c ∧ n_m v < 10
def lwL (l : lS) (c x : Nat) : lS := (l_t l, l_s l, l_k l, l_b l, un (l_l l) c x, l_r l)
def lwB (l : lS) (c x : Nat) : lS := (l_t l, l_s l, l_k l, un (l_b l) c x, l_l l, l_r l)
theorem lwL_ok {l : lS} {c x : Nat} (hl : LOk l) (hx : x ≤ 20) : LOk (lwL l c x) := ⟨hl.1, hl.2.1, hl.2.2.1, hl.2.2.2.1, hl.2.2.2.2.1, fun d => by
  show un (l_l l) c x d ≤ 20
  unfold un
  have := hl.2.2.2.2.2.1 d
  split <;> omega, hl.2.2.2.2.2.2.1, hl.2.2.2.2.2.2.2⟩
theorem lwB_ok {l : lS} {c x : Nat} (hl : LOk l) (hx : x ≤ 20) : LOk (lwB l c x) := ⟨hl.1, hl.2.1, hl.2.2.1, hl.2.2.2.1, fun d => by
  show un (l_b l) c x d ≤ 20
  unfold un
  have := hl.2.2.2.2.1 d
  split <;> omega, hl.2.2.2.2.2.1, hl.2.2.2.2.2.2.1, hl.2.2.2.2.2.2.2⟩
def cbF (P : Nat → Bool) (x : Nat) : Bool := decide (1 ≤ x) && P x
theorem jn_orb {P : Nat → Bool} {i : Nat} (h1 : 1 ≤ i) (hi : i < 31) (h : P i = true) : jn (bs (cbF P) i : Int) ||| ((1 : Int32) <<< (jn (i : Int) &&& 31)) = jn (bs (cbF P) (i + 1) : Int) := by
  rw [jn_bit hi, jn_or, bs, if_pos (by unfold cbF; rw [decide_eq_true h1, h]; rfl)]
theorem bs_no {P : Nat → Bool} {i : Nat} (h : P i = false) : bs (cbF P) (i + 1) = bs (cbF P) i := by
  rw [bs, if_neg (by unfold cbF; rw [h, Bool.and_false]; decide), Nat.or_zero]
theorem bs1 {P : Nat → Bool} : bs (cbF P) 1 = 0 := by
  rw [bs, if_neg (by unfold cbF; rw [decide_eq_false (by omega), Bool.false_and]; decide), Nat.or_zero]; rfl
section NOT
variable {N : Nat} {l : lS} {v : nS} {rm inf tn tn' : Int32} {rl : Nat → Option Nat} {nt nc lb lv lr od bk br lp od' bk' br' lp' : Nat → Int32}
theorem wl_note {Q : Int32 → Int32 → (Nat → Int32) → (Nat → Int32) → Prop} {x y nm : Int32} (hl : LOk l) (hv : NOk v) (hc : cN nm nt nc v) (h2 : x = -1 → Q 0 0 nt nc) (h0 : x ≠ -1 → (∀ n c, ¬ qNo l v x y n c) → Q (-2) nm nt nc) (h1 : ∀ n c, qNo l v x y n c → ∀ nm nt nc, cN nm nt nc (noA v n c) → Q (jn ((n_m v + 1 : Nat) : Int)) nm nt nc) : wp_X11_note_N N (jn (l_k l)) Q x y nm nt nc := by
  have hk := hl.2.2.1
  have hm := hv.1
  obtain ⟨a, rfl, ha⟩ := jn_of x
  unfold wp_X11_note_N wp_X11_note_N_51
  refine ⟨h2, fun z0 => ?_⟩
  have h0 := h0 z0
  rw [li_0, li_60, jn_lt ha (by omega), jn_lt (by omega) ha, ← li_0]
  have qb : ∀ n c, qNo l v (jn a) y n c → a = n ∧ n ≤ 60 ∧ asC (l_k l) y = some c ∧ n_m v < 10 := by
    rintro n c ⟨q1, q2, q3, q4⟩
    rw [jn_eq ha (by omega)] at q1
    exact ⟨q1, q2, q3, q4⟩
  refine ⟨fun z => h0 (fun n c hq => by have := qb n c hq; omega), fun z => ⟨fun z1 => h0 (fun n c hq => by have := qb n c hq; omega), fun z1 => ?_⟩⟩
  refine wl_isCh_N hk (fun hno => ⟨fun _ => h0 (fun n c hq => by have := (qb n c hq).2.2.1; rw [hno] at this; cases this), fun q => absurd rfl q⟩) (fun c hc' hs hy => ⟨fun q => absurd q (by decide), fun _ => ?_⟩)
  rw [hc.1, li_10, jn_lt (by omega) (by omega)]
  refine ⟨fun z2 => ?_, fun z2 => ?_⟩
  · obtain ⟨n, rfl⟩ : ∃ n : Nat, a = n := ⟨a.toNat, by omega⟩
    unfold wp_X3_add
    subst hy
    refine ⟨by simp (disch := omega) only [jn_le, jn_lt, jn_eq, jn_in, jn_add, jn_sub, jn_mul, jn_neg, li_0, li_1, li_2, li_3, li_4, li_5, li_6, li_7, li_8, li_9, li_10, li_11, li_12, li_13, li_14, li_15, li_16, li_17, li_18, li_20, li_24, li_29, li_30, li_31, li_32, li_37, li_39, li_40, li_42, li_43, li_45, li_46, li_47, li_48, li_53, li_57, li_59, li_60, li_61, li_62, li_63, li_80, li_81, li_91, li_93, li_97, li_100, li_122, li_200, li_255, li_256, li_257, li_258, li_259, li_260, li_300, li_314, li_400, li_580, li_999, li_5040, li_9999, li_65536, li_99999, li_7654321] <;> omega, fun a1 e1 => ⟨by simp (disch := omega) only [jn_le, jn_lt, jn_eq, jn_in, jn_add, jn_sub, jn_mul, jn_neg, li_0, li_1, li_2, li_3, li_4, li_5, li_6, li_7, li_8, li_9, li_10, li_11, li_12, li_13, li_14, li_15, li_16, li_17, li_18, li_20, li_24, li_29, li_30, li_31, li_32, li_37, li_39, li_40, li_42, li_43, li_45, li_46, li_47, li_48, li_53, li_57, li_59, li_60, li_61, li_62, li_63, li_80, li_81, li_91, li_93, li_97, li_100, li_122, li_200, li_255, li_256, li_257, li_258, li_259, li_260, li_300, li_314, li_400, li_580, li_999, li_5040, li_9999, li_65536, li_99999, li_7654321] <;> omega, fun a2 e2 => ?_⟩⟩
    rw [jn_cln (by omega)] at e1 e2
    have := h1 n c ⟨rfl, by omega, hs, by omega⟩ (jn ((n_m v + 1 : Nat) : Int)) a1 a2 ⟨rfl, fun i hi => ?_, fun i hi => ?_⟩
    · rw [show jn (n_m v : Int) + 1 = jn ((n_m v + 1 : Nat) : Int) from by (first | rfl | (simp (disch := omega) only [jn_add, jn_sub, jn_mul, jn_neg, li_0, li_1, li_2, li_3, li_4, li_5, li_6, li_7, li_8, li_9, li_10, li_11, li_12, li_13, li_14, li_15, li_16, li_17, li_18, li_20, li_24, li_29, li_30, li_31, li_32, li_37, li_39, li_40, li_42, li_43, li_45, li_46, li_47, li_48, li_53, li_57, li_59, li_60, li_61, li_62, li_63, li_80, li_81, li_91, li_93, li_97, li_100, li_122, li_200, li_255, li_256, li_257, li_258, li_259, li_260, li_300, li_314, li_400, li_580, li_999, li_5040, li_9999, li_65536, li_99999, li_7654321] <;> first | rfl | exact congrArg jn (by omega)) | exact congrArg jn (by omega))]; exact this
    · show a1 i = jn (un (n_t v) (n_m v) n i : Int)
      by_cases e : i = n_m v
      · rw [e1, e, upd_at, un_at]
      · rw [e1, upd_ne e, un_ne e]; exact hc.2.1 i (by have : i < n_m v + 1 := hi; omega)
    · show a2 i = jn (un (n_c v) (n_m v) c i : Int)
      by_cases e : i = n_m v
      · rw [e2, e, upd_at, un_at]
      · rw [e2, upd_ne e, un_ne e]; exact hc.2.2 i (by have : i < n_m v + 1 := hi; omega)
  · have := h0 (fun n c hq => by have := qb n c hq; omega)
    rwa [hc.1] at this
theorem wl_nH_N  {Q : Int32 → Int32 → (Nat → Int32) → (Nat → Int32) → (Nat → Int32) → (Nat → Int32) → Prop} (hN : 500 ≤ N) (hl : LOk l) (hv : NOk v) (hB : ar (l_k l) lb (l_b l)) (hL : ar (l_k l) lv (l_l l)) (hT : ar (l_k l) lr (l_r l)) (hnt : ar (n_m v) nt (n_t v)) (hnc : ar (n_m v) nc (n_c v)) 
    (h1 : nh l none v = true → ∀ t o b r p, Q 1 t o b r p) (h0 : nh l none v = false → ∀ t o b r p, Q 0 t o b r p) : wp_X11_notesHold_N N (jn (l_s l)) (jn (l_k l)) lb lv lr (jn (n_m v)) nt nc Q tn od bk br lp := by
  have hk := hl.2.2.1
  obtain ⟨hv1, hv2, hv3⟩ := hv
  unfold wp_X11_notesHold_N
  refine wl_lastTurn hv1 (by omega) hnt hv2 ?_
  refine wl_begin (by omega) (fun o b r p e1 e2 e3 e4 => ?_)
  have hLT := lastT_le (fun i => Nat.lt_succ_of_le (hv2 i)) (n := n_m v)
  have hG0 : cG (l_k l) 0 o b r p (g00 l) := ⟨rfl, fun c hc => e1 c (by omega), fun c hc => by rw [e2 c (by omega)]; exact hB c hc, fun c hc => by rw [e3 c (by omega)]; exact hT c hc, fun c hc => e4 c (by omega)⟩
  have key : ∀ (k i : Nat) (v4 tn' : Int32) (od' br' lp' : Nat → Int32), v4 = jn (i : Int) → i ≤ lastT (n_t v) (n_m v) → cG (l_k l) tn' od' b br' lp' (tI l none i (g00 l)) → (∀ j, j < i → nhf l none v j = true) → 61 < k + i → wp_X11_notesHold_N_22 N (jn (l_s l)) (jn (l_k l)) lb lv lr (jn (n_m v)) nt nc Q k (jn ((lastT (n_t v) (n_m v) : Int) - 1)) v4 tn' od' b br' lp' := by
    intro k
    induction k with
    | zero => intro i v4 tn' od' br' lp' _ h1 _ _ h2; omega
    | succ k ih =>
      intro i v4 tn' od' br' lp' e hi hG' ha hk'
      subst e
      unfold wp_X11_notesHold_N_22
      have hgi := tI_ok (r := none) hl (n := i) (g00_ok hl)
      have hti := tI_t (l := l) (r := none) (n := i) (g := g00 l)
      have ht0 : g_t (g00 l) = 0 := rfl
      rw [jn_lt (by omega) (by omega)]
      refine ⟨fun z => ?_, fun z => ?_⟩
      · refine h1 (nh_t (fun n hn => ?_)) _ _ _ _ _
        by_cases q : n < i
        · exact ha n q
        · unfold nhf
          rw [alw_iff]
          intro j hj e
          have := lastT_ge (NT := n_t v) hj
          omega
      · refine wl_pt_N (by omega) hl hgi hG' hL hT (by omega) (fun t o r p a1 => ?_)
        rw [← tI_add] at a1
        have hgs := tI_ok (r := none) hl (n := i + 1) (g00_ok hl)
        have hfb := fi_b hk hgs
        refine wl_whoIsFirst hk a1.2.1 ?_
        rw [fi_jn]
        refine wl_allow (t := i) (w := fi l (tI l none (i + 1) (g00 l))) hv1 (by omega) hnt hnc hv2 hv3 (by omega) (by omega) rfl rfl ?_
        by_cases q : alw (n_t v) (n_c v) i (fi l (tI l none (i + 1) (g00 l))) (n_m v) = true
        · rw [if_pos q]
          refine ⟨fun u => absurd u (by decide), fun _ => ih (i + 1) _ _ _ _ _ (by (first | rfl | (simp (disch := omega) only [jn_add, jn_sub, jn_mul, jn_neg, li_0, li_1, li_2, li_3, li_4, li_5, li_6, li_7, li_8, li_9, li_10, li_11, li_12, li_13, li_14, li_15, li_16, li_17, li_18, li_20, li_24, li_29, li_30, li_31, li_32, li_37, li_39, li_40, li_42, li_43, li_45, li_46, li_47, li_48, li_53, li_57, li_59, li_60, li_61, li_62, li_63, li_80, li_81, li_91, li_93, li_97, li_100, li_122, li_200, li_255, li_256, li_257, li_258, li_259, li_260, li_300, li_314, li_400, li_580, li_999, li_5040, li_9999, li_65536, li_99999, li_7654321] <;> first | rfl | exact congrArg jn (by omega)) | exact congrArg jn (by omega))) (by omega) a1 (fun j hj => ?_) (by omega)⟩
          by_cases e : j = i
          · subst e; exact q
          · exact ha j (by omega)
        · rw [if_neg q]
          exact ⟨fun _ => h0 (nh_f (n := i) (by omega) (by cases hq : nhf l none v i with | false => rfl | true => exact absurd hq q)) _ _ _ _ _, fun u => absurd rfl u⟩
  exact key N 0 _ _ _ _ _ rfl (by omega) hG0 (fun j hj => by omega) (by omega)
theorem wl_nH_R {f : (Nat → Int64) → Int64} {code : Nat → Int32} {len : Nat} {u pl : Nat → Int64} {Q : Int32 → (Nat → Int64) → (Nat → Int64) → Int32 → (Nat → Int32) → (Nat → Int32) → (Nat → Int32) → (Nat → Int32) → Prop} (hN : 500 ≤ N) (hl : LOk l) (hv : NOk v) (hB : ar (l_k l) lb (l_b l)) (hL : ar (l_k l) lv (l_l l)) (hT : ar (l_k l) lr (l_r l)) (hnt : ar (n_m v) nt (n_t v)) (hnc : ar (n_m v) nc (n_c v)) (hf : ROk (some f)) (hR : cR N code len f)
    (h1 : nh l (some f) v = true → ∀ u pl t o b r p, Q 1 u pl t o b r p) (h0 : nh l (some f) v = false → ∀ u pl t o b r p, Q 0 u pl t o b r p) : wp_X11_notesHold_R N (jn (l_s l)) (jn (l_k l)) lb lv lr (jn (n_m v)) nt nc code len Q u pl tn od bk br lp := by
  have hk := hl.2.2.1
  obtain ⟨hv1, hv2, hv3⟩ := hv
  unfold wp_X11_notesHold_R
  refine wl_lastTurn hv1 (by omega) hnt hv2 ?_
  refine wl_begin (by omega) (fun o b r p e1 e2 e3 e4 => ?_)
  have hLT := lastT_le (fun i => Nat.lt_succ_of_le (hv2 i)) (n := n_m v)
  have hG0 : cG (l_k l) 0 o b r p (g00 l) := ⟨rfl, fun c hc => e1 c (by omega), fun c hc => by rw [e2 c (by omega)]; exact hB c hc, fun c hc => by rw [e3 c (by omega)]; exact hT c hc, fun c hc => e4 c (by omega)⟩
  have key : ∀ (k i : Nat) (v4 tn' : Int32) (u pl : Nat → Int64) (od' br' lp' : Nat → Int32), v4 = jn (i : Int) → i ≤ lastT (n_t v) (n_m v) → cG (l_k l) tn' od' b br' lp' (tI l (some f) i (g00 l)) → (∀ j, j < i → nhf l (some f) v j = true) → 61 < k + i → wp_X11_notesHold_R_22 N (jn (l_s l)) (jn (l_k l)) lb lv lr (jn (n_m v)) nt nc code len Q k (jn ((lastT (n_t v) (n_m v) : Int) - 1)) v4 u pl tn' od' b br' lp' := by
    intro k
    induction k with
    | zero => intro i v4 tn' u pl od' br' lp' _ h1 _ _ h2; omega
    | succ k ih =>
      intro i v4 tn' u pl od' br' lp' e hi hG' ha hk'
      subst e
      unfold wp_X11_notesHold_R_22
      have hgi := tI_ok (r := (some f)) hl (n := i) (g00_ok hl)
      have hti := tI_t (l := l) (r := (some f)) (n := i) (g := g00 l)
      have ht0 : g_t (g00 l) = 0 := rfl
      rw [jn_lt (by omega) (by omega)]
      refine ⟨fun z => ?_, fun z => ?_⟩
      · refine h1 (nh_t (fun n hn => ?_)) _ _ _ _ _ _ _
        by_cases q : n < i
        · exact ha n q
        · unfold nhf
          rw [alw_iff]
          intro j hj e
          have := lastT_ge (NT := n_t v) hj
          omega
      · refine wl_pt_R (by omega) hl hgi hG' hL hT (by omega) hf hR (fun u pl t o r p a1 => ?_)
        rw [← tI_add] at a1
        have hgs := tI_ok (r := (some f)) hl (n := i + 1) (g00_ok hl)
        have hfb := fi_b hk hgs
        refine wl_whoIsFirst hk a1.2.1 ?_
        rw [fi_jn]
        refine wl_allow (t := i) (w := fi l (tI l (some f) (i + 1) (g00 l))) hv1 (by omega) hnt hnc hv2 hv3 (by omega) (by omega) rfl rfl ?_
        by_cases q : alw (n_t v) (n_c v) i (fi l (tI l (some f) (i + 1) (g00 l))) (n_m v) = true
        · rw [if_pos q]
          refine ⟨fun u => absurd u (by decide), fun _ => ih (i + 1) _ _ _ _ _ _ _ (by (first | rfl | (simp (disch := omega) only [jn_add, jn_sub, jn_mul, jn_neg, li_0, li_1, li_2, li_3, li_4, li_5, li_6, li_7, li_8, li_9, li_10, li_11, li_12, li_13, li_14, li_15, li_16, li_17, li_18, li_20, li_24, li_29, li_30, li_31, li_32, li_37, li_39, li_40, li_42, li_43, li_45, li_46, li_47, li_48, li_53, li_57, li_59, li_60, li_61, li_62, li_63, li_80, li_81, li_91, li_93, li_97, li_100, li_122, li_200, li_255, li_256, li_257, li_258, li_259, li_260, li_300, li_314, li_400, li_580, li_999, li_5040, li_9999, li_65536, li_99999, li_7654321] <;> first | rfl | exact congrArg jn (by omega)) | exact congrArg jn (by omega))) (by omega) a1 (fun j hj => ?_) (by omega)⟩
          by_cases e : j = i
          · subst e; exact q
          · exact ha j (by omega)
        · rw [if_neg q]
          exact ⟨fun _ => h0 (nh_f (n := i) (by omega) (by cases hq : nhf l (some f) v i with | false => rfl | true => exact absurd hq q)) _ _ _ _ _ _ _, fun u => absurd rfl u⟩
  exact key N 0 _ _ _ _ _ _ _ rfl (by omega) hG0 (fun j hj => by omega) (by omega)
theorem wl_nH_N_k  {Q : Int32 → Int32 → (Nat → Int32) → (Nat → Int32) → (Nat → Int32) → (Nat → Int32) → Prop} (hN : 500 ≤ N) (hl : LOk l) (hv : NOk v) (hB : ar (l_k l) lb (l_b l)) (hL : ar (l_k l) lv (l_l l)) (hT : ar (l_k l) lr (l_r l)) (hnt : ar (n_m v) nt (n_t v)) (hnc : ar (n_m v) nc (n_c v)) 
    (h1 : nh l none v = true → ∀ t o b r p, Q 1 t o b r p) (h0 : nh l none v = false → ∀ t o b r p, Q 0 t o b r p) : wp_X11_notesHold_N_k N (jn (n_m v)) nt nc (jn (l_s l)) (jn (l_k l)) lb lv lr Q tn od bk br lp := by
  have hk := hl.2.2.1
  obtain ⟨hv1, hv2, hv3⟩ := hv
  unfold wp_X11_notesHold_N_k
  refine wl_lastTurn hv1 (by omega) hnt hv2 ?_
  refine wl_begin (by omega) (fun o b r p e1 e2 e3 e4 => ?_)
  have hLT := lastT_le (fun i => Nat.lt_succ_of_le (hv2 i)) (n := n_m v)
  have hG0 : cG (l_k l) 0 o b r p (g00 l) := ⟨rfl, fun c hc => e1 c (by omega), fun c hc => by rw [e2 c (by omega)]; exact hB c hc, fun c hc => by rw [e3 c (by omega)]; exact hT c hc, fun c hc => e4 c (by omega)⟩
  have key : ∀ (k i : Nat) (v4 tn' : Int32) (od' br' lp' : Nat → Int32), v4 = jn (i : Int) → i ≤ lastT (n_t v) (n_m v) → cG (l_k l) tn' od' b br' lp' (tI l none i (g00 l)) → (∀ j, j < i → nhf l none v j = true) → 61 < k + i → wp_X11_notesHold_N_k_22 N (jn (n_m v)) nt nc (jn (l_s l)) (jn (l_k l)) lb lv lr Q k (jn ((lastT (n_t v) (n_m v) : Int) - 1)) v4 tn' od' b br' lp' := by
    intro k
    induction k with
    | zero => intro i v4 tn' od' br' lp' _ h1 _ _ h2; omega
    | succ k ih =>
      intro i v4 tn' od' br' lp' e hi hG' ha hk'
      subst e
      unfold wp_X11_notesHold_N_k_22
      have hgi := tI_ok (r := none) hl (n := i) (g00_ok hl)
      have hti := tI_t (l := l) (r := none) (n := i) (g := g00 l)
      have ht0 : g_t (g00 l) = 0 := rfl
      rw [jn_lt (by omega) (by omega)]
      refine ⟨fun z => ?_, fun z => ?_⟩
      · refine h1 (nh_t (fun n hn => ?_)) _ _ _ _ _
        by_cases q : n < i
        · exact ha n q
        · unfold nhf
          rw [alw_iff]
          intro j hj e
          have := lastT_ge (NT := n_t v) hj
          omega
      · refine wl_pt_N (by omega) hl hgi hG' hL hT (by omega) (fun t o r p a1 => ?_)
        rw [← tI_add] at a1
        have hgs := tI_ok (r := none) hl (n := i + 1) (g00_ok hl)
        have hfb := fi_b hk hgs
        refine wl_whoIsFirst hk a1.2.1 ?_
        rw [fi_jn]
        refine wl_allow (t := i) (w := fi l (tI l none (i + 1) (g00 l))) hv1 (by omega) hnt hnc hv2 hv3 (by omega) (by omega) rfl rfl ?_
        by_cases q : alw (n_t v) (n_c v) i (fi l (tI l none (i + 1) (g00 l))) (n_m v) = true
        · rw [if_pos q]
          refine ⟨fun u => absurd u (by decide), fun _ => ih (i + 1) _ _ _ _ _ (by (first | rfl | (simp (disch := omega) only [jn_add, jn_sub, jn_mul, jn_neg, li_0, li_1, li_2, li_3, li_4, li_5, li_6, li_7, li_8, li_9, li_10, li_11, li_12, li_13, li_14, li_15, li_16, li_17, li_18, li_20, li_24, li_29, li_30, li_31, li_32, li_37, li_39, li_40, li_42, li_43, li_45, li_46, li_47, li_48, li_53, li_57, li_59, li_60, li_61, li_62, li_63, li_80, li_81, li_91, li_93, li_97, li_100, li_122, li_200, li_255, li_256, li_257, li_258, li_259, li_260, li_300, li_314, li_400, li_580, li_999, li_5040, li_9999, li_65536, li_99999, li_7654321] <;> first | rfl | exact congrArg jn (by omega)) | exact congrArg jn (by omega))) (by omega) a1 (fun j hj => ?_) (by omega)⟩
          by_cases e : j = i
          · subst e; exact q
          · exact ha j (by omega)
        · rw [if_neg q]
          exact ⟨fun _ => h0 (nh_f (n := i) (by omega) (by cases hq : nhf l none v i with | false => rfl | true => exact absurd hq q)) _ _ _ _ _, fun u => absurd rfl u⟩
  exact key N 0 _ _ _ _ _ rfl (by omega) hG0 (fun j hj => by omega) (by omega)
theorem wl_nH_R_k {f : (Nat → Int64) → Int64} {code : Nat → Int32} {len : Nat} {u pl : Nat → Int64} {Q : Int32 → (Nat → Int64) → (Nat → Int64) → Int32 → (Nat → Int32) → (Nat → Int32) → (Nat → Int32) → (Nat → Int32) → Prop} (hN : 500 ≤ N) (hl : LOk l) (hv : NOk v) (hB : ar (l_k l) lb (l_b l)) (hL : ar (l_k l) lv (l_l l)) (hT : ar (l_k l) lr (l_r l)) (hnt : ar (n_m v) nt (n_t v)) (hnc : ar (n_m v) nc (n_c v)) (hf : ROk (some f)) (hR : cR N code len f)
    (h1 : nh l (some f) v = true → ∀ u pl t o b r p, Q 1 u pl t o b r p) (h0 : nh l (some f) v = false → ∀ u pl t o b r p, Q 0 u pl t o b r p) : wp_X11_notesHold_R_k N (jn (n_m v)) nt nc (jn (l_s l)) (jn (l_k l)) lb lv lr code len Q u pl tn od bk br lp := by
  have hk := hl.2.2.1
  obtain ⟨hv1, hv2, hv3⟩ := hv
  unfold wp_X11_notesHold_R_k
  refine wl_lastTurn hv1 (by omega) hnt hv2 ?_
  refine wl_begin (by omega) (fun o b r p e1 e2 e3 e4 => ?_)
  have hLT := lastT_le (fun i => Nat.lt_succ_of_le (hv2 i)) (n := n_m v)
  have hG0 : cG (l_k l) 0 o b r p (g00 l) := ⟨rfl, fun c hc => e1 c (by omega), fun c hc => by rw [e2 c (by omega)]; exact hB c hc, fun c hc => by rw [e3 c (by omega)]; exact hT c hc, fun c hc => e4 c (by omega)⟩
  have key : ∀ (k i : Nat) (v4 tn' : Int32) (u pl : Nat → Int64) (od' br' lp' : Nat → Int32), v4 = jn (i : Int) → i ≤ lastT (n_t v) (n_m v) → cG (l_k l) tn' od' b br' lp' (tI l (some f) i (g00 l)) → (∀ j, j < i → nhf l (some f) v j = true) → 61 < k + i → wp_X11_notesHold_R_k_22 N (jn (n_m v)) nt nc (jn (l_s l)) (jn (l_k l)) lb lv lr code len Q k (jn ((lastT (n_t v) (n_m v) : Int) - 1)) v4 u pl tn' od' b br' lp' := by
    intro k
    induction k with
    | zero => intro i v4 tn' u pl od' br' lp' _ h1 _ _ h2; omega
    | succ k ih =>
      intro i v4 tn' u pl od' br' lp' e hi hG' ha hk'
      subst e
      unfold wp_X11_notesHold_R_k_22
      have hgi := tI_ok (r := (some f)) hl (n := i) (g00_ok hl)
      have hti := tI_t (l := l) (r := (some f)) (n := i) (g := g00 l)
      have ht0 : g_t (g00 l) = 0 := rfl
      rw [jn_lt (by omega) (by omega)]
      refine ⟨fun z => ?_, fun z => ?_⟩
      · refine h1 (nh_t (fun n hn => ?_)) _ _ _ _ _ _ _
        by_cases q : n < i
        · exact ha n q
        · unfold nhf
          rw [alw_iff]
          intro j hj e
          have := lastT_ge (NT := n_t v) hj
          omega
      · refine wl_pt_R (by omega) hl hgi hG' hL hT (by omega) hf hR (fun u pl t o r p a1 => ?_)
        rw [← tI_add] at a1
        have hgs := tI_ok (r := (some f)) hl (n := i + 1) (g00_ok hl)
        have hfb := fi_b hk hgs
        refine wl_whoIsFirst hk a1.2.1 ?_
        rw [fi_jn]
        refine wl_allow (t := i) (w := fi l (tI l (some f) (i + 1) (g00 l))) hv1 (by omega) hnt hnc hv2 hv3 (by omega) (by omega) rfl rfl ?_
        by_cases q : alw (n_t v) (n_c v) i (fi l (tI l (some f) (i + 1) (g00 l))) (n_m v) = true
        · rw [if_pos q]
          refine ⟨fun u => absurd u (by decide), fun _ => ih (i + 1) _ _ _ _ _ _ _ (by (first | rfl | (simp (disch := omega) only [jn_add, jn_sub, jn_mul, jn_neg, li_0, li_1, li_2, li_3, li_4, li_5, li_6, li_7, li_8, li_9, li_10, li_11, li_12, li_13, li_14, li_15, li_16, li_17, li_18, li_20, li_24, li_29, li_30, li_31, li_32, li_37, li_39, li_40, li_42, li_43, li_45, li_46, li_47, li_48, li_53, li_57, li_59, li_60, li_61, li_62, li_63, li_80, li_81, li_91, li_93, li_97, li_100, li_122, li_200, li_255, li_256, li_257, li_258, li_259, li_260, li_300, li_314, li_400, li_580, li_999, li_5040, li_9999, li_65536, li_99999, li_7654321] <;> first | rfl | exact congrArg jn (by omega)) | exact congrArg jn (by omega))) (by omega) a1 (fun j hj => ?_) (by omega)⟩
          by_cases e : j = i
          · subst e; exact q
          · exact ha j (by omega)
        · rw [if_neg q]
          exact ⟨fun _ => h0 (nh_f (n := i) (by omega) (by cases hq : nhf l (some f) v i with | false => rfl | true => exact absurd hq q)) _ _ _ _ _ _ _, fun u => absurd rfl u⟩
  exact key N 0 _ _ _ _ _ _ _ rfl (by omega) hG0 (fun j hj => by omega) (by omega)
theorem wl_leapsOf_N  {Q : Int32 → Int32 → (Nat → Int32) → (Nat → Int32) → (Nat → Int32) → (Nat → Int32) → Int32 → Int32 → Int32 → (Nat → Int32) → (Nat → Int32) → (Nat → Int32) → Prop} {x kt ks km : Int32} {kb kl kr : Nat → Int32} (hN : 500 ≤ N) (hF : ∀ K : Prop, K → wp_X11_ruleInForce_N N rm rl inf K) (hl : LOk l) (hv : NOk v) (hB : ar (l_k l) lb (l_b l)) (hL : ar (l_k l) lv (l_l l)) (hT : ar (l_k l) lr (l_r l)) (hnt : ar (n_m v) nt (n_t v)) (hnc : ar (n_m v) nc (n_c v)) 
    (h0 : asC (l_k l) x = none → ∀ t o b r p kt ks km kb kl kr, Q (-1) t o b r p kt ks km kb kl kr) (h1 : ∀ c, asC (l_k l) x = some c → ∀ t o b r p kt ks km kb kl kr, Q (jn (bs (cbF (fun i => nh (lwL l c i) none v)) 21 : Int)) t o b r p kt ks km kb kl kr) : wp_X11_leapsOf_N N rm rl (jn (l_t l)) (jn (l_s l)) (jn (l_k l)) lb lv lr (jn (n_m v)) nt nc inf Q x tn od bk br lp kt ks km kb kl kr := by
  have hk := hl.2.2.1
  have hl1 := hl.1
  unfold wp_X11_leapsOf_N
  refine wl_isCh_N hk (fun hno => ⟨fun _ => h0 hno _ _ _ _ _ _ _ _ _ _ _, fun q => absurd rfl q⟩) (fun c hc hs hx => ⟨fun q => absurd q (by decide), fun _ => ?_⟩)
  have hQ := h1 c hs
  subst hx
  refine wl_takeL (by rw [li_0, li_1, jn_eq (by omega) (by omega), jn_eq (by omega) (by omega)]; omega) (fun kb kl kr e1 e2 e3 => ?_)
  have key : ∀ (k i : Nat) (v2 v3 tn : Int32) (od bk br lp kl : Nat → Int32), v3 = jn (i : Int) → 1 ≤ i → i ≤ 21 → v2 = jn (bs (cbF (fun i => nh (lwL l c i) none v)) i : Int) → (∀ d, d < l_k l → d ≠ c → kl d = jn (l_l l d : Int)) → 21 < k + i → wp_X11_leapsOf_N_28 N rm rl (jn (l_t l)) (jn (l_s l)) (jn (l_k l)) lb lv lr (jn (n_m v)) nt nc inf Q k (jn (c : Int)) v2 v3 tn od bk br lp (jn (l_t l)) (jn (l_s l)) (jn (l_k l)) kb kl kr := by
    intro k
    induction k with
    | zero => intro i v2 v3 tn od bk br lp kl _ _ h1 _ _ h2; omega
    | succ k ih =>
      intro i v2 v3 tn od bk br lp kl e hi0 hi e2 hkl hk'
      subst e
      unfold wp_X11_leapsOf_N_28 wp_X11_leapsOf_N_65
      rw [li_20, jn_lt (by omega) (by omega)]
      refine ⟨fun z => ?_, fun z => ⟨by simp (disch := omega) only [jn_le, jn_lt, jn_eq, jn_in, jn_add, jn_sub, jn_mul, jn_neg, li_0, li_1, li_2, li_3, li_4, li_5, li_6, li_7, li_8, li_9, li_10, li_11, li_12, li_13, li_14, li_15, li_16, li_17, li_18, li_20, li_24, li_29, li_30, li_31, li_32, li_37, li_39, li_40, li_42, li_43, li_45, li_46, li_47, li_48, li_53, li_57, li_59, li_60, li_61, li_62, li_63, li_80, li_81, li_91, li_93, li_97, li_100, li_122, li_200, li_255, li_256, li_257, li_258, li_259, li_260, li_300, li_314, li_400, li_580, li_999, li_5040, li_9999, li_65536, li_99999, li_7654321] <;> omega, fun a8 e8 => hF _ ?_⟩⟩
      · have e : i = 21 := by omega
        subst e
        rw [e2]; exact hQ _ _ _ _ _ _ _ _ _ _ _
      · rw [jn_cln (by omega)] at e8
        have hkl' : ∀ d, d < l_k l → d ≠ c → a8 d = jn (l_l l d : Int) := fun d hd q => by rw [e8, upd_ne q]; exact hkl d hd q
        have hL' : ar (l_k (lwL l c i)) a8 (l_l (lwL l c i)) := by
          intro d hd
          show a8 d = jn (un (l_l l) c i d : Int)
          by_cases q : d = c
          · rw [e8, q, upd_at, un_at]
          · rw [un_ne q]; exact hkl' d hd q
        refine wl_nH_N_k (l := lwL l c i) hN (lwL_ok hl (by omega)) hv (ar_of hk hB e1) hL' (ar_of hk hT e3) hnt hnc (fun hr t o b r p => ⟨fun u => absurd u (by decide), fun _ x17 e17 => ?_⟩) (fun hr t o b r p => ⟨fun _ => ?_, fun u => absurd rfl u⟩)
        · refine ih (i + 1) _ _ _ _ _ _ _ _ (by (first | rfl | (simp (disch := omega) only [jn_add, jn_sub, jn_mul, jn_neg, li_0, li_1, li_2, li_3, li_4, li_5, li_6, li_7, li_8, li_9, li_10, li_11, li_12, li_13, li_14, li_15, li_16, li_17, li_18, li_20, li_24, li_29, li_30, li_31, li_32, li_37, li_39, li_40, li_42, li_43, li_45, li_46, li_47, li_48, li_53, li_57, li_59, li_60, li_61, li_62, li_63, li_80, li_81, li_91, li_93, li_97, li_100, li_122, li_200, li_255, li_256, li_257, li_258, li_259, li_260, li_300, li_314, li_400, li_580, li_999, li_5040, li_9999, li_65536, li_99999, li_7654321] <;> first | rfl | exact congrArg jn (by omega)) | exact congrArg jn (by omega))) (by omega) (by omega) ?_ hkl' (by omega)
          rw [e17, e2]
          exact jn_orb (P := fun i => nh (lwL l c i) none v) hi0 (by omega) hr
        · refine ih (i + 1) _ _ _ _ _ _ _ _ (by (first | rfl | (simp (disch := omega) only [jn_add, jn_sub, jn_mul, jn_neg, li_0, li_1, li_2, li_3, li_4, li_5, li_6, li_7, li_8, li_9, li_10, li_11, li_12, li_13, li_14, li_15, li_16, li_17, li_18, li_20, li_24, li_29, li_30, li_31, li_32, li_37, li_39, li_40, li_42, li_43, li_45, li_46, li_47, li_48, li_53, li_57, li_59, li_60, li_61, li_62, li_63, li_80, li_81, li_91, li_93, li_97, li_100, li_122, li_200, li_255, li_256, li_257, li_258, li_259, li_260, li_300, li_314, li_400, li_580, li_999, li_5040, li_9999, li_65536, li_99999, li_7654321] <;> first | rfl | exact congrArg jn (by omega)) | exact congrArg jn (by omega))) (by omega) (by omega) ?_ hkl' (by omega)
          rw [e2, bs_no (P := fun i => nh (lwL l c i) none v) hr]
  refine key N 1 _ _ _ _ _ _ _ _ rfl (by omega) (by omega) (by rw [bs1]; rfl) (fun d hd q => ?_) (by omega)
  rw [e2 d (by omega)]; exact hL d hd
theorem wl_backsOf_N  {Q : Int32 → Int32 → (Nat → Int32) → (Nat → Int32) → (Nat → Int32) → (Nat → Int32) → Int32 → Int32 → Int32 → (Nat → Int32) → (Nat → Int32) → (Nat → Int32) → Prop} {x kt ks km : Int32} {kb kl kr : Nat → Int32} (hN : 500 ≤ N) (hF : ∀ K : Prop, K → wp_X11_ruleInForce_N N rm rl inf K) (hl : LOk l) (hv : NOk v) (hB : ar (l_k l) lb (l_b l)) (hL : ar (l_k l) lv (l_l l)) (hT : ar (l_k l) lr (l_r l)) (hnt : ar (n_m v) nt (n_t v)) (hnc : ar (n_m v) nc (n_c v)) 
    (h0 : asC (l_k l) x = none → ∀ t o b r p kt ks km kb kl kr, Q (-1) t o b r p kt ks km kb kl kr) (h1 : ∀ c, asC (l_k l) x = some c → ∀ t o b r p kt ks km kb kl kr, Q (jn (bs (cbF (fun i => nh (lwB l c i) none v)) 21 : Int)) t o b r p kt ks km kb kl kr) : wp_X11_backsOf_N N rm rl (jn (l_t l)) (jn (l_s l)) (jn (l_k l)) lb lv lr (jn (n_m v)) nt nc inf Q x tn od bk br lp kt ks km kb kl kr := by
  have hk := hl.2.2.1
  have hl1 := hl.1
  unfold wp_X11_backsOf_N
  refine wl_isCh_N hk (fun hno => ⟨fun _ => h0 hno _ _ _ _ _ _ _ _ _ _ _, fun q => absurd rfl q⟩) (fun c hc hs hx => ⟨fun q => absurd q (by decide), fun _ => ?_⟩)
  have hQ := h1 c hs
  subst hx
  refine wl_takeL (by rw [li_0, li_1, jn_eq (by omega) (by omega), jn_eq (by omega) (by omega)]; omega) (fun kb kl kr e1 e2 e3 => ?_)
  have key : ∀ (k i : Nat) (v2 v3 tn : Int32) (od bk br lp kb : Nat → Int32), v3 = jn (i : Int) → 1 ≤ i → i ≤ 21 → v2 = jn (bs (cbF (fun i => nh (lwB l c i) none v)) i : Int) → (∀ d, d < l_k l → d ≠ c → kb d = jn (l_b l d : Int)) → 21 < k + i → wp_X11_backsOf_N_28 N rm rl (jn (l_t l)) (jn (l_s l)) (jn (l_k l)) lb lv lr (jn (n_m v)) nt nc inf Q k (jn (c : Int)) v2 v3 tn od bk br lp (jn (l_t l)) (jn (l_s l)) (jn (l_k l)) kb kl kr := by
    intro k
    induction k with
    | zero => intro i v2 v3 tn od bk br lp kb _ _ h1 _ _ h2; omega
    | succ k ih =>
      intro i v2 v3 tn od bk br lp kb e hi0 hi e2' hkb hk'
      subst e
      unfold wp_X11_backsOf_N_28 wp_X11_backsOf_N_65
      rw [li_20, jn_lt (by omega) (by omega)]
      refine ⟨fun z => ?_, fun z => ⟨by simp (disch := omega) only [jn_le, jn_lt, jn_eq, jn_in, jn_add, jn_sub, jn_mul, jn_neg, li_0, li_1, li_2, li_3, li_4, li_5, li_6, li_7, li_8, li_9, li_10, li_11, li_12, li_13, li_14, li_15, li_16, li_17, li_18, li_20, li_24, li_29, li_30, li_31, li_32, li_37, li_39, li_40, li_42, li_43, li_45, li_46, li_47, li_48, li_53, li_57, li_59, li_60, li_61, li_62, li_63, li_80, li_81, li_91, li_93, li_97, li_100, li_122, li_200, li_255, li_256, li_257, li_258, li_259, li_260, li_300, li_314, li_400, li_580, li_999, li_5040, li_9999, li_65536, li_99999, li_7654321] <;> omega, fun a8 e8 => hF _ ?_⟩⟩
      · have e : i = 21 := by omega
        subst e
        rw [e2']; exact hQ _ _ _ _ _ _ _ _ _ _ _
      · rw [jn_cln (by omega)] at e8
        have hkb' : ∀ d, d < l_k l → d ≠ c → a8 d = jn (l_b l d : Int) := fun d hd q => by rw [e8, upd_ne q]; exact hkb d hd q
        have hB' : ar (l_k (lwB l c i)) a8 (l_b (lwB l c i)) := by
          intro d hd
          show a8 d = jn (un (l_b l) c i d : Int)
          by_cases q : d = c
          · rw [e8, q, upd_at, un_at]
          · rw [un_ne q]; exact hkb' d hd q
        refine wl_nH_N_k (l := lwB l c i) hN (lwB_ok hl (by omega)) hv hB' (ar_of hk hL e2) (ar_of hk hT e3) hnt hnc (fun hr t o b r p => ⟨fun u => absurd u (by decide), fun _ x17 e17 => ?_⟩) (fun hr t o b r p => ⟨fun _ => ?_, fun u => absurd rfl u⟩)
        · refine ih (i + 1) _ _ _ _ _ _ _ _ (by (first | rfl | (simp (disch := omega) only [jn_add, jn_sub, jn_mul, jn_neg, li_0, li_1, li_2, li_3, li_4, li_5, li_6, li_7, li_8, li_9, li_10, li_11, li_12, li_13, li_14, li_15, li_16, li_17, li_18, li_20, li_24, li_29, li_30, li_31, li_32, li_37, li_39, li_40, li_42, li_43, li_45, li_46, li_47, li_48, li_53, li_57, li_59, li_60, li_61, li_62, li_63, li_80, li_81, li_91, li_93, li_97, li_100, li_122, li_200, li_255, li_256, li_257, li_258, li_259, li_260, li_300, li_314, li_400, li_580, li_999, li_5040, li_9999, li_65536, li_99999, li_7654321] <;> first | rfl | exact congrArg jn (by omega)) | exact congrArg jn (by omega))) (by omega) (by omega) ?_ hkb' (by omega)
          rw [e17, e2']
          exact jn_orb (P := fun i => nh (lwB l c i) none v) hi0 (by omega) hr
        · refine ih (i + 1) _ _ _ _ _ _ _ _ (by (first | rfl | (simp (disch := omega) only [jn_add, jn_sub, jn_mul, jn_neg, li_0, li_1, li_2, li_3, li_4, li_5, li_6, li_7, li_8, li_9, li_10, li_11, li_12, li_13, li_14, li_15, li_16, li_17, li_18, li_20, li_24, li_29, li_30, li_31, li_32, li_37, li_39, li_40, li_42, li_43, li_45, li_46, li_47, li_48, li_53, li_57, li_59, li_60, li_61, li_62, li_63, li_80, li_81, li_91, li_93, li_97, li_100, li_122, li_200, li_255, li_256, li_257, li_258, li_259, li_260, li_300, li_314, li_400, li_580, li_999, li_5040, li_9999, li_65536, li_99999, li_7654321] <;> first | rfl | exact congrArg jn (by omega)) | exact congrArg jn (by omega))) (by omega) (by omega) ?_ hkb' (by omega)
          rw [e2', bs_no (P := fun i => nh (lwB l c i) none v) hr]
  refine key N 1 _ _ _ _ _ _ _ _ rfl (by omega) (by omega) (by rw [bs1]; rfl) (fun d hd q => ?_) (by omega)
  rw [e1 d (by omega)]; exact hB d hd
theorem wl_leapsOf_R {f : (Nat → Int64) → Int64} {code : Nat → Int32} {len : Nat} {u pl : Nat → Int64} {Q : Int32 → (Nat → Int64) → (Nat → Int64) → Int32 → (Nat → Int32) → (Nat → Int32) → (Nat → Int32) → (Nat → Int32) → Int32 → Int32 → Int32 → (Nat → Int32) → (Nat → Int32) → (Nat → Int32) → Prop} {x kt ks km : Int32} {kb kl kr : Nat → Int32} (hN : 500 ≤ N) (hF : ∀ K : Prop, K → wp_X11_ruleInForce_R N rm rl inf K) (hl : LOk l) (hv : NOk v) (hB : ar (l_k l) lb (l_b l)) (hL : ar (l_k l) lv (l_l l)) (hT : ar (l_k l) lr (l_r l)) (hnt : ar (n_m v) nt (n_t v)) (hnc : ar (n_m v) nc (n_c v)) (hf : ROk (some f)) (hR : cR N code len f)
    (h0 : asC (l_k l) x = none → ∀ u pl t o b r p kt ks km kb kl kr, Q (-1) u pl t o b r p kt ks km kb kl kr) (h1 : ∀ c, asC (l_k l) x = some c → ∀ u pl t o b r p kt ks km kb kl kr, Q (jn (bs (cbF (fun i => nh (lwL l c i) (some f) v)) 21 : Int)) u pl t o b r p kt ks km kb kl kr) : wp_X11_leapsOf_R N rm rl (jn (l_t l)) (jn (l_s l)) (jn (l_k l)) lb lv lr (jn (n_m v)) nt nc inf code len Q x u pl tn od bk br lp kt ks km kb kl kr := by
  have hk := hl.2.2.1
  have hl1 := hl.1
  unfold wp_X11_leapsOf_R
  refine wl_isCh_R hk (fun hno => ⟨fun _ => h0 hno _ _ _ _ _ _ _ _ _ _ _ _ _, fun q => absurd rfl q⟩) (fun c hc hs hx => ⟨fun q => absurd q (by decide), fun _ => ?_⟩)
  have hQ := h1 c hs
  subst hx
  refine wl_takeL (by rw [li_0, li_1, jn_eq (by omega) (by omega), jn_eq (by omega) (by omega)]; omega) (fun kb kl kr e1 e2 e3 => ?_)
  have key : ∀ (k i : Nat) (v2 v3 tn : Int32) (u pl : Nat → Int64) (od bk br lp kl : Nat → Int32), v3 = jn (i : Int) → 1 ≤ i → i ≤ 21 → v2 = jn (bs (cbF (fun i => nh (lwL l c i) (some f) v)) i : Int) → (∀ d, d < l_k l → d ≠ c → kl d = jn (l_l l d : Int)) → 21 < k + i → wp_X11_leapsOf_R_28 N rm rl (jn (l_t l)) (jn (l_s l)) (jn (l_k l)) lb lv lr (jn (n_m v)) nt nc inf code len Q k (jn (c : Int)) v2 v3 u pl tn od bk br lp (jn (l_t l)) (jn (l_s l)) (jn (l_k l)) kb kl kr := by
    intro k
    induction k with
    | zero => intro i v2 v3 tn u pl od bk br lp kl _ _ h1 _ _ h2; omega
    | succ k ih =>
      intro i v2 v3 tn u pl od bk br lp kl e hi0 hi e2 hkl hk'
      subst e
      unfold wp_X11_leapsOf_R_28 wp_X11_leapsOf_R_65
      rw [li_20, jn_lt (by omega) (by omega)]
      refine ⟨fun z => ?_, fun z => ⟨by simp (disch := omega) only [jn_le, jn_lt, jn_eq, jn_in, jn_add, jn_sub, jn_mul, jn_neg, li_0, li_1, li_2, li_3, li_4, li_5, li_6, li_7, li_8, li_9, li_10, li_11, li_12, li_13, li_14, li_15, li_16, li_17, li_18, li_20, li_24, li_29, li_30, li_31, li_32, li_37, li_39, li_40, li_42, li_43, li_45, li_46, li_47, li_48, li_53, li_57, li_59, li_60, li_61, li_62, li_63, li_80, li_81, li_91, li_93, li_97, li_100, li_122, li_200, li_255, li_256, li_257, li_258, li_259, li_260, li_300, li_314, li_400, li_580, li_999, li_5040, li_9999, li_65536, li_99999, li_7654321] <;> omega, fun a8 e8 => hF _ ?_⟩⟩
      · have e : i = 21 := by omega
        subst e
        rw [e2]; exact hQ _ _ _ _ _ _ _ _ _ _ _ _ _
      · rw [jn_cln (by omega)] at e8
        have hkl' : ∀ d, d < l_k l → d ≠ c → a8 d = jn (l_l l d : Int) := fun d hd q => by rw [e8, upd_ne q]; exact hkl d hd q
        have hL' : ar (l_k (lwL l c i)) a8 (l_l (lwL l c i)) := by
          intro d hd
          show a8 d = jn (un (l_l l) c i d : Int)
          by_cases q : d = c
          · rw [e8, q, upd_at, un_at]
          · rw [un_ne q]; exact hkl' d hd q
        refine wl_nH_R_k (l := lwL l c i) hN (lwL_ok hl (by omega)) hv (ar_of hk hB e1) hL' (ar_of hk hT e3) hnt hnc hf hR (fun hr u pl t o b r p => ⟨fun u => absurd u (by decide), fun _ x17 e17 => ?_⟩) (fun hr u pl t o b r p => ⟨fun _ => ?_, fun u => absurd rfl u⟩)
        · refine ih (i + 1) _ _ _ _ _ _ _ _ _ _ (by (first | rfl | (simp (disch := omega) only [jn_add, jn_sub, jn_mul, jn_neg, li_0, li_1, li_2, li_3, li_4, li_5, li_6, li_7, li_8, li_9, li_10, li_11, li_12, li_13, li_14, li_15, li_16, li_17, li_18, li_20, li_24, li_29, li_30, li_31, li_32, li_37, li_39, li_40, li_42, li_43, li_45, li_46, li_47, li_48, li_53, li_57, li_59, li_60, li_61, li_62, li_63, li_80, li_81, li_91, li_93, li_97, li_100, li_122, li_200, li_255, li_256, li_257, li_258, li_259, li_260, li_300, li_314, li_400, li_580, li_999, li_5040, li_9999, li_65536, li_99999, li_7654321] <;> first | rfl | exact congrArg jn (by omega)) | exact congrArg jn (by omega))) (by omega) (by omega) ?_ hkl' (by omega)
          rw [e17, e2]
          exact jn_orb (P := fun i => nh (lwL l c i) (some f) v) hi0 (by omega) hr
        · refine ih (i + 1) _ _ _ _ _ _ _ _ _ _ (by (first | rfl | (simp (disch := omega) only [jn_add, jn_sub, jn_mul, jn_neg, li_0, li_1, li_2, li_3, li_4, li_5, li_6, li_7, li_8, li_9, li_10, li_11, li_12, li_13, li_14, li_15, li_16, li_17, li_18, li_20, li_24, li_29, li_30, li_31, li_32, li_37, li_39, li_40, li_42, li_43, li_45, li_46, li_47, li_48, li_53, li_57, li_59, li_60, li_61, li_62, li_63, li_80, li_81, li_91, li_93, li_97, li_100, li_122, li_200, li_255, li_256, li_257, li_258, li_259, li_260, li_300, li_314, li_400, li_580, li_999, li_5040, li_9999, li_65536, li_99999, li_7654321] <;> first | rfl | exact congrArg jn (by omega)) | exact congrArg jn (by omega))) (by omega) (by omega) ?_ hkl' (by omega)
          rw [e2, bs_no (P := fun i => nh (lwL l c i) (some f) v) hr]
  refine key N 1 _ _ _ _ _ _ _ _ _ _ rfl (by omega) (by omega) (by rw [bs1]; rfl) (fun d hd q => ?_) (by omega)
  rw [e2 d (by omega)]; exact hL d hd
theorem wl_backsOf_R {f : (Nat → Int64) → Int64} {code : Nat → Int32} {len : Nat} {u pl : Nat → Int64} {Q : Int32 → (Nat → Int64) → (Nat → Int64) → Int32 → (Nat → Int32) → (Nat → Int32) → (Nat → Int32) → (Nat → Int32) → Int32 → Int32 → Int32 → (Nat → Int32) → (Nat → Int32) → (Nat → Int32) → Prop} {x kt ks km : Int32} {kb kl kr : Nat → Int32} (hN : 500 ≤ N) (hF : ∀ K : Prop, K → wp_X11_ruleInForce_R N rm rl inf K) (hl : LOk l) (hv : NOk v) (hB : ar (l_k l) lb (l_b l)) (hL : ar (l_k l) lv (l_l l)) (hT : ar (l_k l) lr (l_r l)) (hnt : ar (n_m v) nt (n_t v)) (hnc : ar (n_m v) nc (n_c v)) (hf : ROk (some f)) (hR : cR N code len f)
    (h0 : asC (l_k l) x = none → ∀ u pl t o b r p kt ks km kb kl kr, Q (-1) u pl t o b r p kt ks km kb kl kr) (h1 : ∀ c, asC (l_k l) x = some c → ∀ u pl t o b r p kt ks km kb kl kr, Q (jn (bs (cbF (fun i => nh (lwB l c i) (some f) v)) 21 : Int)) u pl t o b r p kt ks km kb kl kr) : wp_X11_backsOf_R N rm rl (jn (l_t l)) (jn (l_s l)) (jn (l_k l)) lb lv lr (jn (n_m v)) nt nc inf code len Q x u pl tn od bk br lp kt ks km kb kl kr := by
  have hk := hl.2.2.1
  have hl1 := hl.1
  unfold wp_X11_backsOf_R
  refine wl_isCh_R hk (fun hno => ⟨fun _ => h0 hno _ _ _ _ _ _ _ _ _ _ _ _ _, fun q => absurd rfl q⟩) (fun c hc hs hx => ⟨fun q => absurd q (by decide), fun _ => ?_⟩)
  have hQ := h1 c hs
  subst hx
  refine wl_takeL (by rw [li_0, li_1, jn_eq (by omega) (by omega), jn_eq (by omega) (by omega)]; omega) (fun kb kl kr e1 e2 e3 => ?_)
  have key : ∀ (k i : Nat) (v2 v3 tn : Int32) (u pl : Nat → Int64) (od bk br lp kb : Nat → Int32), v3 = jn (i : Int) → 1 ≤ i → i ≤ 21 → v2 = jn (bs (cbF (fun i => nh (lwB l c i) (some f) v)) i : Int) → (∀ d, d < l_k l → d ≠ c → kb d = jn (l_b l d : Int)) → 21 < k + i → wp_X11_backsOf_R_28 N rm rl (jn (l_t l)) (jn (l_s l)) (jn (l_k l)) lb lv lr (jn (n_m v)) nt nc inf code len Q k (jn (c : Int)) v2 v3 u pl tn od bk br lp (jn (l_t l)) (jn (l_s l)) (jn (l_k l)) kb kl kr := by
    intro k
    induction k with
    | zero => intro i v2 v3 tn u pl od bk br lp kb _ _ h1 _ _ h2; omega
    | succ k ih =>
      intro i v2 v3 tn u pl od bk br lp kb e hi0 hi e2' hkb hk'
      subst e
      unfold wp_X11_backsOf_R_28 wp_X11_backsOf_R_65
      rw [li_20, jn_lt (by omega) (by omega)]
      refine ⟨fun z => ?_, fun z => ⟨by simp (disch := omega) only [jn_le, jn_lt, jn_eq, jn_in, jn_add, jn_sub, jn_mul, jn_neg, li_0, li_1, li_2, li_3, li_4, li_5, li_6, li_7, li_8, li_9, li_10, li_11, li_12, li_13, li_14, li_15, li_16, li_17, li_18, li_20, li_24, li_29, li_30, li_31, li_32, li_37, li_39, li_40, li_42, li_43, li_45, li_46, li_47, li_48, li_53, li_57, li_59, li_60, li_61, li_62, li_63, li_80, li_81, li_91, li_93, li_97, li_100, li_122, li_200, li_255, li_256, li_257, li_258, li_259, li_260, li_300, li_314, li_400, li_580, li_999, li_5040, li_9999, li_65536, li_99999, li_7654321] <;> omega, fun a8 e8 => hF _ ?_⟩⟩
      · have e : i = 21 := by omega
        subst e
        rw [e2']; exact hQ _ _ _ _ _ _ _ _ _ _ _ _ _
      · rw [jn_cln (by omega)] at e8
        have hkb' : ∀ d, d < l_k l → d ≠ c → a8 d = jn (l_b l d : Int) := fun d hd q => by rw [e8, upd_ne q]; exact hkb d hd q
        have hB' : ar (l_k (lwB l c i)) a8 (l_b (lwB l c i)) := by
          intro d hd
          show a8 d = jn (un (l_b l) c i d : Int)
          by_cases q : d = c
          · rw [e8, q, upd_at, un_at]
          · rw [un_ne q]; exact hkb' d hd q
        refine wl_nH_R_k (l := lwB l c i) hN (lwB_ok hl (by omega)) hv hB' (ar_of hk hL e2) (ar_of hk hT e3) hnt hnc hf hR (fun hr u pl t o b r p => ⟨fun u => absurd u (by decide), fun _ x17 e17 => ?_⟩) (fun hr u pl t o b r p => ⟨fun _ => ?_, fun u => absurd rfl u⟩)
        · refine ih (i + 1) _ _ _ _ _ _ _ _ _ _ (by (first | rfl | (simp (disch := omega) only [jn_add, jn_sub, jn_mul, jn_neg, li_0, li_1, li_2, li_3, li_4, li_5, li_6, li_7, li_8, li_9, li_10, li_11, li_12, li_13, li_14, li_15, li_16, li_17, li_18, li_20, li_24, li_29, li_30, li_31, li_32, li_37, li_39, li_40, li_42, li_43, li_45, li_46, li_47, li_48, li_53, li_57, li_59, li_60, li_61, li_62, li_63, li_80, li_81, li_91, li_93, li_97, li_100, li_122, li_200, li_255, li_256, li_257, li_258, li_259, li_260, li_300, li_314, li_400, li_580, li_999, li_5040, li_9999, li_65536, li_99999, li_7654321] <;> first | rfl | exact congrArg jn (by omega)) | exact congrArg jn (by omega))) (by omega) (by omega) ?_ hkb' (by omega)
          rw [e17, e2']
          exact jn_orb (P := fun i => nh (lwB l c i) (some f) v) hi0 (by omega) hr
        · refine ih (i + 1) _ _ _ _ _ _ _ _ _ _ (by (first | rfl | (simp (disch := omega) only [jn_add, jn_sub, jn_mul, jn_neg, li_0, li_1, li_2, li_3, li_4, li_5, li_6, li_7, li_8, li_9, li_10, li_11, li_12, li_13, li_14, li_15, li_16, li_17, li_18, li_20, li_24, li_29, li_30, li_31, li_32, li_37, li_39, li_40, li_42, li_43, li_45, li_46, li_47, li_48, li_53, li_57, li_59, li_60, li_61, li_62, li_63, li_80, li_81, li_91, li_93, li_97, li_100, li_122, li_200, li_255, li_256, li_257, li_258, li_259, li_260, li_300, li_314, li_400, li_580, li_999, li_5040, li_9999, li_65536, li_99999, li_7654321] <;> first | rfl | exact congrArg jn (by omega)) | exact congrArg jn (by omega))) (by omega) (by omega) ?_ hkb' (by omega)
          rw [e2', bs_no (P := fun i => nh (lwB l c i) (some f) v) hr]
  refine key N 1 _ _ _ _ _ _ _ _ _ _ rfl (by omega) (by omega) (by rw [bs1]; rfl) (fun d hd q => ?_) (by omega)
  rw [e1 d (by omega)]; exact hB d hd
end NOT
