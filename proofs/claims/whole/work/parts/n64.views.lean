/-! the law: blocks of names, and views of them -/
def tk (t : ax_W) (p : Nat) : Nat → ax_W
  | 0 => []
  | n + 1 => ax_nth t p :: tk t (p + 1) n
def rnm (f : Nat → Nat) (t : ax_W) : ax_W := t.map fun x => match x with
  | some e => some (ax_rc (fun x => x) f e)
  | none => none
theorem mem_bl : ∀ {n b k : Nat}, k ∈ bl b n ↔ b ≤ k ∧ k < b + n
  | 0, b, k => ⟨fun h => (by cases h), fun h => (by omega)⟩
  | n + 1, b, k => by
    rw [bl, List.mem_cons, mem_bl]; omega
theorem bl_len : ∀ {n b : Nat}, (bl b n).length = n
  | 0, _ => rfl
  | n + 1, b => by rw [bl, List.length_cons, bl_len]
theorem bl_nd : ∀ {n b : Nat}, (bl b n).Nodup
  | 0, _ => List.nodup_nil
  | n + 1, b => by
    rw [bl, List.nodup_cons]
    exact ⟨fun h => by have := mem_bl.mp h; omega, bl_nd⟩
theorem bl_at : ∀ {n b q : Nat}, q < n → (bl b n)[q]? = some (b + q)
  | n + 1, b, 0, _ => rfl
  | n + 1, b, q + 1, h => by
    have := bl_at (n := n) (b := b + 1) (q := q) (by omega)
    show (bl (b + 1) n)[q]? = _
    rw [this]; exact congrArg some (by omega)
theorem bl_sub {c : Nat} : ∀ {n b : Nat}, (bl (c + b) n).map (fun k => k - c) = bl b n
  | 0, _ => rfl
  | n + 1, b => by
    have := bl_sub (c := c) (n := n) (b := b + 1)
    show (c + b - c) :: _ = b :: _
    rw [show c + b - c = b by omega]
    exact congrArg _ this
theorem map_f {f : Nat → Nat} {c : Nat} : ∀ {n b : Nat}, (∀ q, q < n → f (b + q) = c + q) → (bl b n).map f = bl c n
  | 0, _, _ => rfl
  | n + 1, b, h => by
    have h0 : f b = c := h 0 (by omega)
    show f b :: (bl (b + 1) n).map f = c :: bl (c + 1) n
    rw [h0]
    have : ∀ {n b c : Nat}, (∀ q, q < n → f (b + q) = c + q) → (bl b n).map f = bl c n := by
      intro n
      induction n with
      | zero => intro b c _; rfl
      | succ n ih =>
        intro b c h
        show f b :: (bl (b + 1) n).map f = c :: bl (c + 1) n
        rw [show f b = c from h 0 (by omega), ih (fun q hq => by
          have := h (q + 1) (by omega)
          rwa [show b + (q + 1) = b + 1 + q by omega, show c + (q + 1) = c + 1 + q by omega] at this)]
    rw [this (fun q hq => by
      have := h (q + 1) (by omega)
      rwa [show b + (q + 1) = b + 1 + q by omega, show c + (q + 1) = c + 1 + q by omega] at this)]
theorem tk_len {t : ax_W} : ∀ {n p : Nat}, (tk t p n).length = n
  | 0, _ => rfl
  | n + 1, p => by rw [tk, List.length_cons, tk_len]
theorem tk_at {t : ax_W} : ∀ {n p q : Nat}, q < n → ax_nth (tk t p n) q = ax_nth t (p + q)
  | n + 1, p, 0, _ => rfl
  | n + 1, p, q + 1, h => by
    have := tk_at (t := t) (n := n) (p := p + 1) (q := q) (by omega)
    show ax_nth (tk t (p + 1) n) q = _
    rw [this]; exact congrArg _ (by omega)
theorem map_bl {W : ax_W} : ∀ {n b : Nat}, (bl b n).map (ax_nth W) = tk W b n
  | 0, _ => rfl
  | n + 1, b => congrArg (ax_nth W b :: ·) (map_bl (n := n))
theorem tk_eq {t t' : ax_W} : ∀ {n p p' : Nat}, (∀ q, q < n → ax_nth t (p + q) = ax_nth t' (p' + q)) → tk t p n = tk t' p' n
  | 0, _, _, _ => rfl
  | n + 1, p, p', h => by
    have h0 := h 0 (by omega)
    have h1 := tk_eq (t := t) (t' := t') (n := n) (p := p + 1) (p' := p' + 1) (fun q hq => by
      have := h (q + 1) (by omega)
      rwa [show p + (q + 1) = p + 1 + q by omega, show p' + (q + 1) = p' + 1 + q by omega] at this)
    show ax_nth t p :: _ = ax_nth t' p' :: _
    rw [show ax_nth t p = ax_nth t' p' from h0, h1]
theorem tk_full : ∀ {v : ax_W}, tk v 0 v.length = v
  | [] => rfl
  | x :: v => by
    show x :: tk (x :: v) 1 v.length = x :: v
    rw [show tk (x :: v) 1 v.length = tk v 0 v.length from tk_eq (fun q _ => by rw [show 1 + q = q + 1 by omega, Nat.zero_add]; rfl), tk_full]
theorem put_out {t v : ax_W} {p m k : Nat} (h : k < p ∨ p + m ≤ k) : ax_nth (ax_put t (bl p m) v) k = ax_nth t k := ax_put_out (fun hk => by have := mem_bl.mp hk; omega)
theorem put_in {t v : ax_W} {p m q : Nat} (hl : p + m ≤ t.length) (hv : v.length = m) (hq : q < m) : ax_nth (ax_put t (bl p m) v) (p + q) = ax_nth v q := ax_put_in bl_nd (fun k hk => by have := mem_bl.mp hk; omega) (by rw [bl_len, hv]) (bl_at hq)
theorem tk_put {t v : ax_W} {p m : Nat} (hl : p + m ≤ t.length) (hv : v.length = m) : tk (ax_put t (bl p m) v) p m = v := by
  have : tk (ax_put t (bl p m) v) p m = tk v 0 v.length := by
    rw [hv]
    exact tk_eq (fun q hq => by rw [put_in hl hv hq, Nat.zero_add])
  rw [this, tk_full]
theorem tk_out {t v : ax_W} {p m p' m' : Nat} (h : p' + m' ≤ p ∨ p + m ≤ p') : tk (ax_put t (bl p m) v) p' m' = tk t p' m' := tk_eq (fun q hq => put_out (by omega))
theorem set_self {α : Type} : ∀ {l : List (Option α)} {k : Nat}, ax_set l k (ax_nth l k) = l
  | [], _ => rfl
  | x :: l, 0 => rfl
  | x :: l, k + 1 => by
    show x :: ax_set l k (ax_nth l k) = x :: l
    rw [set_self]
theorem put_self {t : ax_W} : ∀ {m p : Nat}, ax_put t (bl p m) (tk t p m) = t
  | 0, _ => rfl
  | m + 1, p => by
    show ax_put (ax_set t p (ax_nth t p)) (bl (p + 1) m) (tk t (p + 1) m) = t
    rw [set_self]; exact put_self
theorem rnm_app {f : Nat → Nat} {u v : ax_W} : rnm f (u ++ v) = rnm f u ++ rnm f v := List.map_append
theorem rnm_len {f : Nat → Nat} {u : ax_W} : (rnm f u).length = u.length := List.length_map _
theorem uncut_rnm {L : List Nat} {v : ax_W} : ax_uncut L v = rnm (ax_the L) v := rfl
theorem lw_t_rnm {L X : List Nat} {W : ax_W} : lw_t L X W = rnm (ax_tau L) (X.map (ax_nth W)) := by
  unfold lw_t rnm
  rw [List.map_map]
  rfl
section LVW
variable {X : List Nat} {f : Nat → Nat} {b b' : Nat}
theorem lw_nd (hX : X.Nodup) (h : ∀ k ∈ X, 64 ≤ k) : (lw_c X).Nodup := by
  show ([0, 1, 2, 3, 4, 5, 6, 7, 8, 9, 10, 11, 12, 13, 14, 15, 16, 17, 18, 19, 20, 21, 22, 23, 24, 25, 26, 27, 28, 29, 30, 31, 32, 33, 34, 35, 36, 37, 38] ++ X).Nodup
  rw [List.nodup_append]
  refine ⟨by decide, hX, fun a ha b hb e => ?_⟩
  subst e
  have h1 := h a hb
  simp only [List.mem_cons, List.not_mem_nil, or_false] at ha
  omega
theorem nod_of : ∀ {L : List Nat}, L.Nodup → ax_nod L = true
  | [], _ => rfl
  | k :: L, h => by
    rw [List.nodup_cons] at h
    show ((match ax_ix L k with
      | some _ => false
      | none => true) && ax_nod L) = true
    rw [nod_of h.2]
    cases e : ax_ix L k with
    | none => rfl
    | some i => exact absurd (List.mem_of_getElem? (ax_ix_some e)) h.1
theorem okL {n : Nat} (hX : X.Nodup) (h : ∀ k ∈ X, 64 ≤ k ∧ k < n) (hn : 64 ≤ n) (hl : X.length ≤ 800) : ax_okL (lw_c X) n = true := by
  unfold ax_okL
  rw [nod_of (lw_nd hX (fun k hk => (h k hk).1)), Bool.and_true, Bool.and_eq_true]
  refine ⟨List.all_eq_true.mpr (fun k hk => ?_), Nat.ble_eq_true_of_le ?_⟩
  · have hk : k ∈ [0, 1, 2, 3, 4, 5, 6, 7, 8, 9, 10, 11, 12, 13, 14, 15, 16, 17, 18, 19, 20, 21, 22, 23, 24, 25, 26, 27, 28, 29, 30, 31, 32, 33, 34, 35, 36, 37, 38] ++ X := hk
    rw [List.mem_append] at hk
    have : k < n := by
      rcases hk with hk | hk
      · simp only [List.mem_cons, List.not_mem_nil, or_false] at hk
        omega
      · exact (h k hk).2
    exact Nat.ble_eq_true_of_le this
  · show X.length + 39 ≤ 900
    omega
theorem tau_X {k q : Nat} (hX : X.Nodup) (h : ∀ k ∈ X, 64 ≤ k) (hq : X[q]? = some k) : ax_tau (lw_c X) k = 39 + q := by
  have h1 : (lw_c X)[q + 39]? = some k := hq
  unfold ax_tau
  cases e : ax_ix (lw_c X) k with
  | none => exact absurd (List.mem_of_getElem? h1) (ax_ix_none e)
  | some i =>
    have := ax_nd_inj (lw_nd hX h) (ax_ix_some e) h1
    show i = 39 + q
    omega
theorem the_X {k q : Nat} (hq : X[q]? = some k) : ax_the (lw_c X) (39 + q) = k := by
  have h1 : (lw_c X)[q + 39]? = some k := hq
  unfold ax_the
  rw [show 39 + q = q + 39 by omega, h1]
theorem rn_in {g : Nat → Option Nat} {i k q : Nat} (hX : X.Nodup) (h : ∀ k ∈ X, 64 ≤ k) (hq : X[q]? = some k) (hg : g i = some k) : rn (lw_c X) g i = some (39 + q) := by
  unfold rn
  rw [hg]; exact congrArg some (tau_X hX h hq)
theorem rn_no {g : Nat → Option Nat} {i : Nat} {L : List Nat} (hg : g i = none) : rn L g i = none := by
  unfold rn; rw [hg]; rfl
theorem rb_rn {g : Nat → Option Nat} (hl : X.length ≤ 800) : rb (lw_c X) (rn (lw_c X) g) = g := by
  funext i
  exact rn_back (by show X.length + 39 ≤ 900; omega) (g i)
theorem rb_up {g : Nat → Option Nat} {n k q : Nat} (hl : X.length ≤ 800) (hq : X[q]? = some k) : rb (lw_c X) (va_up (rn (lw_c X) g) n (some (39 + q))) = va_up g n (some k) := by
  funext i
  unfold rb va_up
  by_cases e : i = n
  · rw [if_pos e, if_pos e]; exact congrArg some (the_X hq)
  · rw [if_neg e, if_neg e]; exact rn_back (by show X.length + 39 ≤ 900; omega) (g i)
theorem rv_back {v : Value} (hl : X.length ≤ 800) : ax_rv (ax_the (lw_c X)) (ax_rv (ax_tau (lw_c X)) v) = v := by
  rw [ax_rv_comp, show (fun x => ax_the (lw_c X) (ax_tau (lw_c X) x)) = (fun x => x) from funext (fun x => ax_the_tau (by show X.length + 39 ≤ 900; omega) x), ax_rv_id]
def RC (b len : Nat) (code : Nat → Int32) : ax_W := [some (.inr (6, [.ref (b + 1)])), some (.inl (0, len, .inl code))]
theorem rnm_RC {len : Nat} {code : Nat → Int32} (h : ∀ q, q < 2 → f (b + q) = b' + q) : rnm f (RC b len code) = RC b' len code := by
  show [some (.inr (6, [.ref (f (b + 1))])), some (.inl (0, len, .inl code))] = RC b' len code
  rw [h 1 (by omega)]; rfl
theorem rnm_G5 {y_turn : Int32} {y_order : Nat → Int32} {y_back : Nat → Int32} {y_breath : Nat → Int32} {y_leapt : Nat → Int32} (h : ∀ q, q < 5 → f (b + q) = b' + q) : rnm f (G5 b y_turn y_order y_back y_breath y_leapt) = G5 b' y_turn y_order y_back y_breath y_leapt := by
  show ([some (.inr (0, [.int y_turn, .ref (f (b + 1)), .ref (f (b + 2)), .ref (f (b + 3)), .ref (f (b + 4))])), some (.inl (0, 7, .inl y_order)), some (.inl (0, 7, .inl y_back)), some (.inl (0, 7, .inl y_breath)), some (.inl (0, 7, .inl y_leapt))] : ax_W) = _
  rw [h 1 (by omega), h 2 (by omega), h 3 (by omega), h 4 (by omega)]; rfl
theorem rnm_S13 {y_l_told : Int32} {y_l_spring : Int32} {y_l_many : Int32} {y_l_back : Nat → Int32} {y_l_leap : Nat → Int32} {y_l_breath : Nat → Int32} {y_g_turn : Int32} {y_g_order : Nat → Int32} {y_g_back : Nat → Int32} {y_g_breath : Nat → Int32} {y_g_leapt : Nat → Int32} {y_n_many : Int32} {y_n_turns : Nat → Int32} {y_n_children : Nat → Int32} {y_inForce : Int32} {y_x : Int32} (h : ∀ q, q < 13 → f (b + q) = b' + q) : rnm f (S13 b y_l_told y_l_spring y_l_many y_l_back y_l_leap y_l_breath y_g_turn y_g_order y_g_back y_g_breath y_g_leapt y_n_many y_n_turns y_n_children y_inForce y_x) = S13 b' y_l_told y_l_spring y_l_many y_l_back y_l_leap y_l_breath y_g_turn y_g_order y_g_back y_g_breath y_g_leapt y_n_many y_n_turns y_n_children y_inForce y_x := by
  show ([some (.inr (8, [.ref (f (b + 1)), .ref (f (b + 5)), .ref (f (b + 10)), .int y_inForce, .int y_x])), some (.inr (1, [.int y_l_told, .int y_l_spring, .int y_l_many, .ref (f (b + 2)), .ref (f (b + 3)), .ref (f (b + 4))])), some (.inl (0, 7, .inl y_l_back)), some (.inl (0, 7, .inl y_l_leap)), some (.inl (0, 7, .inl y_l_breath)), some (.inr (0, [.int y_g_turn, .ref (f (b + 6)), .ref (f (b + 7)), .ref (f (b + 8)), .ref (f (b + 9))])), some (.inl (0, 7, .inl y_g_order)), some (.inl (0, 7, .inl y_g_back)), some (.inl (0, 7, .inl y_g_breath)), some (.inl (0, 7, .inl y_g_leapt)), some (.inr (3, [.int y_n_many, .ref (f (b + 11)), .ref (f (b + 12))])), some (.inl (0, 10, .inl y_n_turns)), some (.inl (0, 10, .inl y_n_children))] : ax_W) = _
  rw [h 1 (by omega), h 2 (by omega), h 3 (by omega), h 4 (by omega), h 5 (by omega), h 6 (by omega), h 7 (by omega), h 8 (by omega), h 9 (by omega), h 10 (by omega), h 11 (by omega), h 12 (by omega)]; rfl
theorem rnm_E9 {y_many : Int32} {y_spring : Int32} {y_leapable : Nat → Int32} {y_found : Int32} {y_whereOf : Nat → Int32} {y_rows : Nat → Int32} {y_from : Nat → Int32} {y_depth : Nat → Int32} {y_order : Nat → Int32} {y_places : Nat → Int32} {y_lesser : Nat → Int32} (h : ∀ q, q < 9 → f (b + q) = b' + q) : rnm f (E9 b y_many y_spring y_leapable y_found y_whereOf y_rows y_from y_depth y_order y_places y_lesser) = E9 b' y_many y_spring y_leapable y_found y_whereOf y_rows y_from y_depth y_order y_places y_lesser := by
  show ([some (.inr (5, [.int y_many, .int y_spring, .ref (f (b + 1)), .int y_found, .ref (f (b + 2)), .ref (f (b + 3)), .ref (f (b + 4)), .ref (f (b + 5)), .ref (f (b + 6)), .ref (f (b + 7)), .ref (f (b + 8))])), some (.inl (0, 7, .inl y_leapable)), some (.inl (0, 5040, .inl y_whereOf)), some (.inl (0, 5040, .inl y_rows)), some (.inl (0, 5040, .inl y_from)), some (.inl (0, 5040, .inl y_depth)), some (.inl (0, 7, .inl y_order)), some (.inl (0, 7, .inl y_places)), some (.inl (0, 7, .inl y_lesser))] : ax_W) = _
  rw [h 1 (by omega), h 2 (by omega), h 3 (by omega), h 4 (by omega), h 5 (by omega), h 6 (by omega), h 7 (by omega), h 8 (by omega)]; rfl
def nn : Nat → ax_W
  | 0 => []
  | n + 1 => none :: nn n
theorem rnm_nn : ∀ {n : Nat}, rnm f (nn n) = nn n
  | 0 => rfl
  | n + 1 => congrArg (none :: ·) (rnm_nn (n := n))
theorem nn_len : ∀ {n : Nat}, (nn n).length = n
  | 0 => rfl
  | n + 1 => congrArg (· + 1) (nn_len (n := n))
theorem nn_at : ∀ {n q : Nat}, ax_nth (nn n) q = none
  | 0, _ => rfl
  | n + 1, 0 => rfl
  | n + 1, q + 1 => nn_at (n := n) (q := q)
theorem lw_s_bl {j : Nat} : lw_s j = bl (137 + 5 * j) 5 := by
  unfold lw_s
  rw [show 138 + 5 * j = 137 + 5 * j + 1 by omega, show 139 + 5 * j = 137 + 5 * j + 1 + 1 by omega, show 140 + 5 * j = 137 + 5 * j + 1 + 1 + 1 by omega, show 141 + 5 * j = 137 + 5 * j + 1 + 1 + 1 + 1 by omega]
  rfl
theorem lw_r_bl {i : Nat} : lw_r i = bl (73 + 2 * i) 2 := by
  unfold lw_r
  rw [show 74 + 2 * i = 73 + 2 * i + 1 by omega]
  rfl
theorem lw_j_bl {k : Nat} : lw_j k = bl (85 + 13 * k) 13 := by
  unfold lw_j
  rw [show 86 + 13 * k = 85 + 13 * k + 1 by omega, show 87 + 13 * k = 85 + 13 * k + 1 + 1 by omega, show 88 + 13 * k = 85 + 13 * k + 1 + 1 + 1 by omega, show 89 + 13 * k = 85 + 13 * k + 1 + 1 + 1 + 1 by omega, show 90 + 13 * k = 85 + 13 * k + 1 + 1 + 1 + 1 + 1 by omega, show 91 + 13 * k = 85 + 13 * k + 1 + 1 + 1 + 1 + 1 + 1 by omega, show 92 + 13 * k = 85 + 13 * k + 1 + 1 + 1 + 1 + 1 + 1 + 1 by omega, show 93 + 13 * k = 85 + 13 * k + 1 + 1 + 1 + 1 + 1 + 1 + 1 + 1 by omega, show 94 + 13 * k = 85 + 13 * k + 1 + 1 + 1 + 1 + 1 + 1 + 1 + 1 + 1 by omega, show 95 + 13 * k = 85 + 13 * k + 1 + 1 + 1 + 1 + 1 + 1 + 1 + 1 + 1 + 1 by omega, show 96 + 13 * k = 85 + 13 * k + 1 + 1 + 1 + 1 + 1 + 1 + 1 + 1 + 1 + 1 + 1 by omega, show 97 + 13 * k = 85 + 13 * k + 1 + 1 + 1 + 1 + 1 + 1 + 1 + 1 + 1 + 1 + 1 + 1 by omega]
  rfl
theorem nth_app {α : Type} : ∀ {l T : List (Option α)} {q : Nat}, ax_nth (l ++ T) (q + l.length) = ax_nth T q
  | [], T, q => rfl
  | x :: l, T, q => by
    show ax_nth (l ++ T) (q + l.length) = _
    exact nth_app
end LVW
section LVX
variable {a : aS} {rl im gs : Nat → Option Nat} {rc : Value} {nx : Nat} {w t W : ax_W}
theorem W_nth (h : CRel a rl im gs rc nx W (ax_uncut lw_m w ++ t)) (hw : w.length = 25) (q : Nat) : ax_nth W (64 + q) = ax_nth t q := by
  refine CRel_e h (fun c_rulesMany p_bytes p_length p_at p_sign p_place p_number p_fault z_tape z_lane q_tape q_state q_sum q_clauses q_values q_tested q_code q_length q_pile q_top q_depth q_open s_l_told s_l_spring s_l_many s_l_back s_l_leap s_l_breath s_g_turn s_g_order s_g_back s_g_breath s_g_leapt s_n_many s_n_turns s_n_children s_inForce s_x a_many u_words u_pile t_turn t_order t_back t_breath t_leapt k_told k_spring k_many k_back k_leap k_breath c_marks c_firsts c_gains hw_ hT hr hS hm => ?_)
  subst hw_
  rw [show 64 + q = (q + 25) + 39 by omega]
  show ax_nth (ax_uncut lw_m w ++ t) (q + 25) = _
  have hl : (ax_uncut lw_m w).length = 25 := by rw [← hw]; exact List.length_map _
  rw [← hl]
  exact nth_app
theorem W_len (h : CRel a rl im gs rc nx W (ax_uncut lw_m w ++ t)) (hw : w.length = 25) : W.length = 64 + t.length := by
  refine CRel_e h (fun c_rulesMany p_bytes p_length p_at p_sign p_place p_number p_fault z_tape z_lane q_tape q_state q_sum q_clauses q_values q_tested q_code q_length q_pile q_top q_depth q_open s_l_told s_l_spring s_l_many s_l_back s_l_leap s_l_breath s_g_turn s_g_order s_g_back s_g_breath s_g_leapt s_n_many s_n_turns s_n_children s_inForce s_x a_many u_words u_pile t_turn t_order t_back t_breath t_leapt k_told k_spring k_many k_back k_leap k_breath c_marks c_firsts c_gains hw_ hT hr hS hm => ?_)
  subst hw_
  show (ax_uncut lw_m w ++ t).length + 39 = _
  rw [List.length_append, show (ax_uncut lw_m w).length = 25 from by rw [← hw]; exact List.length_map _]
  omega
theorem W_tk (h : CRel a rl im gs rc nx W (ax_uncut lw_m w ++ t)) (hw : w.length = 25) {p m : Nat} : tk W (64 + p) m = tk t p m := tk_eq (fun q _ => by rw [Nat.add_assoc]; exact W_nth h hw _)
/-- what the class sees of a block -/
theorem see (h : CRel a rl im gs rc nx W (ax_uncut lw_m w ++ t)) (hw : w.length = 25) {L : List Nat} {p m : Nat} : lw_t L (bl (64 + p) m) W = rnm (ax_tau L) (tk t p m) := by
  rw [lw_t_rnm, map_bl, W_tk h hw]
theorem see2 {L A B : List Nat} : lw_t L (A ++ B) W = lw_t L A W ++ lw_t L B W := List.map_append
end LVX
