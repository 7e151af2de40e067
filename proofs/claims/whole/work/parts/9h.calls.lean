/-! what each call answers, and what is then -/
def byt (v : Int32) (k : Nat) : Int := (vp_nar .byte ((v >>> (jn (k : Int) &&& 31)).toInt8.toInt32)).toInt
def put4 (b : Nat → Int) (n : Nat) (v : Int32) : Nat → Int := fun i => if i = n then byt v 24 else if i = n + 1 then byt v 16 else if i = n + 2 then byt v 8 else if i = n + 3 then byt v 0 else b i
def fed (b : Nat → Int) (n : Nat) (v0 v1 v2 v3 v4 : Int32) : Nat → Int := put4 (put4 (put4 (put4 (put4 b n v0) (n + 4) v1) (n + 8) v2) (n + 12) v3) (n + 16) v4
def F_feed (a : aS) (v0 v1 v2 v3 v4 : Int32) : Int32 × aS := if a_n a + 20 ≤ 400 then (jn ((a_n a + 20 : Nat) : Int), setT a (fed (a_b a) (a_n a) v0 v1 v2 v3 v4) (a_n a + 20)) else (-1, a)
def F_end (a : aS) (x : Int32) : Int32 × aS := if 0 ≤ x.toInt ∧ x.toInt ≤ a_n a then (x, setT a (a_b a) x.toInt.toNat) else (-1, a)
def newS (s : sS) (v : lS) : sS := (v, g00 v, (0, n_t (s_n s), n_c (s_n s)), s_f s, s_x s)
def F_lane (a : aS) : Int32 × aS := match lnP (a_b a) (a_n a) 41 0 0 l0 with
  | .inl e => (jn (-2 - (e : Int)), setT a (a_b a) 0)
  | .inr v => (jn (l_k v : Int), setP (setS (setT a (a_b a) 0) (newS (a_s a) v)) (a_p a) 0)
def told (a : aS) : pS := itr (a_b a) (a_n a) 401 s00
def F_rule (a : aS) : Int32 × aS := if a_r a = 6 then (-1, a) else if p_f (told a) ≠ 0 then (jn (-2 - (p_f (told a) : Int)), setT a (a_b a) 0) else (jn (a_r a : Int), setR (setT a (a_b a) 0) (fun i => if i = a_r a then p_d (told a) else a_d a i) (a_r a + 1))
def F_force (a : aS) (x : Int32) : Int32 × aS := if -1 ≤ x.toInt ∧ x.toInt < a_r a then (jn (s_f (a_s a)), setS a (s_l (a_s a), s_g (a_s a), s_n (a_s a), x.toInt, s_x (a_s a))) else (-2, a)
def F_child (a : aS) (x w : Int32) : Int32 × aS := (match asC (l_k (a_l a)) x with
  | none => -1
  | some c => if w = 0 then jn (g_b (a_g a) c : Int) else if w = 1 then jn (l_l (a_l a) c : Int) else if w = 2 then jn (g_r (a_g a) c : Int) else if w = 3 then jn (plc (a_l a) (a_g a) c : Int) else if w = 4 then jn (ov (a_l a) (a_g a) c : Int) else if w = 5 then jn (g_p (a_g a) c : Int) else -1, a)
def F_order (a : aS) : Int32 × aS := (if l_t (a_l a) = 0 then -1 else jn (onum (g_o (a_g a)) (l_k (a_l a)) : Int), a)
def F_turn (a : aS) : Int32 × aS := if l_t (a_l a) = 1 ∧ g_t (a_g a) < 999 then (jn (tR (a_l a) (rNow a) (a_g a)), act a (tS (a_l a) (rNow a) (a_g a))) else (-1, a)
def lpG (l : lS) (g : gS) (c b : Nat) : gS := (g_t g, mv (g_o g) (plc l g c) b, g_b g, un (g_r g) c (g_r g c - 1), un (g_p g) c (min 999 (g_p g c + b)))
def F_leap (a : aS) (x y : Int32) : Int32 × aS := match asC (l_k (a_l a)) x with
  | none => (-1, a)
  | some c => if 0 < g_r (a_g a) c ∧ 1 ≤ y.toInt ∧ y.toInt ≤ ov (a_l a) (a_g a) c then (jn ((plc (a_l a) (a_g a) c - y.toInt.toNat : Nat) : Int), act a (lpG (a_l a) (a_g a) c y.toInt.toNat)) else (-1, a)
def stG (g : gS) (c b : Nat) : gS := (g_t g, g_o g, un (g_b g) c b, g_r g, g_p g)
def F_stoop (a : aS) (x y : Int32) : Int32 × aS := match asC (l_k (a_l a)) x with
  | none => (-1, a)
  | some c => if 1 ≤ y.toInt ∧ y.toInt ≤ 20 ∧ y.toInt ≠ g_b (a_g a) c then (jn (g_b (a_g a) c : Int), act a (stG (a_g a) c y.toInt.toNat)) else (-1, a)
def F_breath (a : aS) (x y : Int32) : Int32 × aS := match asC (l_k (a_l a)) x with
  | none => (-1, a)
  | some c => if 1 ≤ y.toInt ∧ y.toInt ≤ 9 then (jn ((min 60 (g_r (a_g a) c + y.toInt.toNat) : Nat) : Int), act a (gvB (a_g a) c y.toInt.toNat)) else (-1, a)
def frG (l : lS) (g : gS) (c : Nat) : gS := (g_t g, mv (g_o g) (plc l g c) (plc l g c), g_b g, g_r g, g_p g)
def F_front (a : aS) (x : Int32) : Int32 × aS := match asC (l_k (a_l a)) x with
  | none => (-1, a)
  | some c => if plc (a_l a) (a_g a) c = 0 then (-1, a) else (jn (plc (a_l a) (a_g a) c : Int), act a (frG (a_l a) (a_g a) c))
def F_undo (a : aS) : Int32 × aS := if a_m a = 0 then (-1, a) else (jn ((a_m a - 1 : Nat) : Int), setS (setP a (a_p a) (a_m a - 1)) (setG (a_s a) (a_p a (a_m a - 1))))
def setN (s : sS) (v : nS) : sS := (s.1, s.2.1, v, s.2.2.2)
def F_note (a : aS) (x y : Int32) : Int32 × aS := if x = -1 then (0, setS a (setN (a_s a) (0, n_t (a_v a), n_c (a_v a)))) else match asC (l_k (a_l a)) y with
  | none => (-2, a)
  | some c => if 0 ≤ x.toInt ∧ x.toInt ≤ 60 ∧ n_m (a_v a) < 10 then (jn ((n_m (a_v a) + 1 : Nat) : Int), setS a (setN (a_s a) (noA (a_v a) x.toInt.toNat c))) else (-2, a)
def F_seed (a : aS) (x : Int32) : Int32 × aS := if 0 ≤ x.toInt then (jn (s_x (a_s a) : Int), setS a (s_l (a_s a), s_g (a_s a), s_n (a_s a), s_f (a_s a), x.toInt.toNat)) else (-1, a)
def F_count (a : aS) (x : Int32) : Int32 × aS := (if x = 0 then jn (l_s (a_l a) : Int) else if x = 1 then jn (l_k (a_l a) : Int) else if x = 2 then jn (a_r a : Int) else if x = 3 then jn (s_f (a_s a)) else if x = 4 then jn (g_t (a_g a) : Int) else if x = 5 then jn (bs (cn (a_l a) (a_g a)) (l_k (a_l a)) : Int) else if x = 6 then jn (fi (a_l a) (a_g a)) else if x = 7 then jn (sumTo (g_p (a_g a)) (l_k (a_l a)) : Int) else if x = 8 then jn (n_m (a_v a) : Int) else if x = 9 then jn (a_m a : Int) else if x = 10 then jn (s_x (a_s a) : Int) else if x = 11 then jn (a_n a : Int) else -1, a)
def F_image (a : aS) (x : Int32) : Int32 × aS := if 0 ≤ x.toInt ∧ x.toInt ≤ 3 then (jn (g_t (a_g a) : Int), setI a (fun k => if k = x.toInt.toNat then some (a_s a) else a_i a k)) else (-1, a)
def F_back (a : aS) (x : Int32) : Int32 × aS := if 0 ≤ x.toInt ∧ x.toInt ≤ 3 then (match a_i a x.toInt.toNat with
  | none => (-1, a)
  | some s => (jn (g_t (s_g s) : Int), setP (setS a s) (a_p a) 0)) else (-1, a)
theorem byt_b {v : Int32} {k : Nat} : -128 ≤ byt v k ∧ byt v k ≤ 127 := by
  unfold byt
  generalize (v >>> (jn (k : Int) &&& 31)).toInt8 = z
  have h1 := Int8.le_toInt z
  have h2 := Int8.toInt_lt z
  have e : (vp_nar .byte z.toInt32).toInt = z.toInt := by
    show (z.toInt32.toInt8.toInt32).toInt = z.toInt
    rw [Int8.toInt8_toInt32, Int8.toInt_toInt32]
  rw [e]
  omega
theorem put4_b {b : Nat → Int} {n : Nat} {v : Int32} (h : ∀ i, -128 ≤ b i ∧ b i ≤ 127) : ∀ i, -128 ≤ put4 b n v i ∧ put4 b n v i ≤ 127 := by
  intro i
  unfold put4
  (repeat' split) <;> first | exact byt_b | exact h i
section OKS
variable {a : aS} (h : AOk a)
theorem setT_ok {b : Nat → Int} {n : Nat} (h : AOk a) (hn : n ≤ 400) (hb : ∀ i, -128 ≤ b i ∧ b i ≤ 127) : AOk (setT a b n) := ⟨hn, hb, h.2.2⟩
theorem F_feed_ok {v0 v1 v2 v3 v4 : Int32} (h : AOk a) : AOk (F_feed a v0 v1 v2 v3 v4).2 := by
  unfold F_feed
  split
  · exact setT_ok h (by assumption) (put4_b (put4_b (put4_b (put4_b (put4_b h.2.1)))))
  · exact h
theorem F_end_ok {x : Int32} (h : AOk a) : AOk (F_end a x).2 := by
  unfold F_end
  have := h.1
  split
  · exact setT_ok h (by omega) h.2.1
  · exact h
theorem F_lane_ok (h : AOk a) : AOk (F_lane a).2 := by
  obtain ⟨s1, s2, s3, s4, s5, s6⟩ := AOk_s h
  obtain ⟨h1, h2, h3, h4, -, h6, h7, h8⟩ := h
  unfold F_lane
  cases e : lnP (a_b a) (a_n a) 41 0 0 l0 with
  | inl x => exact ⟨Nat.zero_le _, h2, h3, h4, ⟨s1, s2, s3, s4, s5, s6⟩, h6, h7, h8⟩
  | inr v =>
    have hl := (lnP_ok (b := a_b a) h1 (Nat.zero_le _) rfl (by decide) (fun q => absurd q (by omega)) (fun _ => rfl) (fun _ => Nat.zero_le _) (fun _ => Nat.zero_le _) (fun _ => Nat.zero_le _) e).1
    exact ⟨Nat.zero_le _, h2, h3, h4, ⟨hl, g00_ok hl, ⟨Nat.zero_le _, s3.2⟩, s4, s5, Nat.zero_le _⟩, Nat.zero_le _, fun i hi => absurd hi (Nat.not_lt_zero _), h8⟩
theorem SOk_up {r r' : Nat} {s : sS} (h : SOk r s) (hr : r ≤ r') : SOk r' s := ⟨h.1, h.2.1, h.2.2.1, ⟨h.2.2.2.1.1, by have := h.2.2.2.1.2; omega⟩, h.2.2.2.2⟩
theorem F_rule_ok (h : AOk a) : AOk (F_rule a).2 := by
  have hall := h
  obtain ⟨h1, h2, h3, h4, h5, h6, h7, h8⟩ := h
  unfold F_rule
  split
  · exact hall
  · split
    · exact setT_ok hall (Nat.zero_le _) h2
    · rename_i q1 q2
      refine ⟨Nat.zero_le _, h2, ?_, fun i hi => ?_, SOk_up h5 (Nat.le_succ _), h6, h7, fun k hk s hs => SOk_up (h8 k hk s hs) (Nat.le_succ _)⟩
      · show a_r a + 1 ≤ 6
        omega
      · have hi : i < a_r a + 1 := hi
        show ∀ c, c ∈ (if i = a_r a then p_d (told a) else a_d a i) → ctO c
        by_cases e : i = a_r a
        · rw [if_pos e]
          rcases itr_Inv (b := a_b a) (n := a_n a) 401 with z | z
          · exact absurd z q2
          · exact z.1.2.2.2.2.2.1
        · rw [if_neg e]; exact h4 i (by omega)
theorem F_force_ok {x : Int32} (h : AOk a) : AOk (F_force a x).2 := by
  have hall := h
  obtain ⟨s1, s2, s3, s4, s5, s6⟩ := AOk_s h
  obtain ⟨h1, h2, h3, h4, -, h6, h7, h8⟩ := h
  unfold F_force
  split
  · rename_i q
    exact ⟨h1, h2, h3, h4, ⟨s1, s2, s3, q, s5, s6⟩, h6, h7, h8⟩
  · exact hall
theorem F_turn_ok (h : AOk a) : AOk (F_turn a).2 := by
  unfold F_turn
  split
  · rename_i q
    refine act_ok h (tS_ok h.2.2.2.2.1.1 h.2.2.2.2.1.2.1) ?_
    rw [tS_t]; omega
  · exact h
theorem F_leap_ok {x y : Int32} (h : AOk a) : AOk (F_leap a x y).2 := by
  obtain ⟨s1, s2, s3, s4, s5, s6⟩ := AOk_s h
  unfold F_leap
  cases e : asC (l_k (a_l a)) x with
  | none => exact h
  | some c =>
    have hc := (asC_some e).1
    dsimp only
    split
    · rename_i q
      have b5 : ov (a_l a) (a_g a) c ≤ min (l_s (a_l a)) (plc (a_l a) (a_g a) c) := ovr_le
      have hyp : y.toInt.toNat ≤ plc (a_l a) (a_g a) c := by omega
      refine act_ok h ⟨mv_Pm s2.1 (iv_lt s2.1 hc) hyp, s2.2.1, fun d => ?_, fun d => ?_⟩ s6
      · show un (g_r (a_g a)) c (g_r (a_g a) c - 1) d ≤ 60
        unfold un
        have := s2.2.2.1 d
        have := s2.2.2.1 c
        split <;> omega
      · show un (g_p (a_g a)) c (min 999 (g_p (a_g a) c + y.toInt.toNat)) d ≤ 999
        unfold un
        have := s2.2.2.2 d
        split <;> omega
    · exact h
theorem F_stoop_ok {x y : Int32} (h : AOk a) : AOk (F_stoop a x y).2 := by
  obtain ⟨s1, s2, s3, s4, s5, s6⟩ := AOk_s h
  unfold F_stoop
  cases e : asC (l_k (a_l a)) x with
  | none => exact h
  | some c =>
    dsimp only
    split
    · rename_i q
      refine act_ok h ⟨s2.1, fun d => ?_, s2.2.2.1, s2.2.2.2⟩ s6
      show un (g_b (a_g a)) c y.toInt.toNat d ≤ 20
      unfold un
      have := s2.2.1 d
      split <;> omega
    · exact h
theorem F_breath_ok {x y : Int32} (h : AOk a) : AOk (F_breath a x y).2 := by
  obtain ⟨s1, s2, s3, s4, s5, s6⟩ := AOk_s h
  unfold F_breath
  cases e : asC (l_k (a_l a)) x with
  | none => exact h
  | some c =>
    dsimp only
    split
    · exact act_ok h (gvB_ok s2) s6
    · exact h
theorem F_front_ok {x : Int32} (h : AOk a) : AOk (F_front a x).2 := by
  obtain ⟨s1, s2, s3, s4, s5, s6⟩ := AOk_s h
  unfold F_front
  cases e : asC (l_k (a_l a)) x with
  | none => exact h
  | some c =>
    have hc := (asC_some e).1
    dsimp only
    split
    · exact h
    · exact act_ok h ⟨mv_Pm s2.1 (iv_lt s2.1 hc) (Nat.le_refl _), s2.2.1, s2.2.2.1, s2.2.2.2⟩ s6
theorem F_undo_ok (h : AOk a) : AOk (F_undo a).2 := by
  have hall := h
  obtain ⟨s1, s2, s3, s4, s5, s6⟩ := AOk_s h
  obtain ⟨h1, h2, h3, h4, -, h6, h7, h8⟩ := h
  unfold F_undo
  split
  · exact hall
  · obtain ⟨q1, q2⟩ := h7 (a_m a - 1) (by omega)
    refine ⟨h1, h2, h3, h4, ⟨s1, q1, s3, s4, s5, q2⟩, ?_, fun i hi => ?_, h8⟩
    · show a_m a - 1 ≤ 20
      omega
    · have hi : i < a_m a - 1 := hi
      exact h7 i (by omega)
theorem F_note_ok {x y : Int32} (h : AOk a) : AOk (F_note a x y).2 := by
  have hall := h
  obtain ⟨s1, s2, s3, s4, s5, s6⟩ := AOk_s h
  obtain ⟨h1, h2, h3, h4, -, h6, h7, h8⟩ := h
  have hk := s1.2.2.1
  unfold F_note
  split
  · exact ⟨h1, h2, h3, h4, ⟨s1, s2, ⟨Nat.zero_le _, s3.2⟩, s4, s5, s6⟩, h6, h7, h8⟩
  · cases e : asC (l_k (a_l a)) y with
    | none => exact hall
    | some c =>
      have hc := (asC_some e).1
      dsimp only
      split
      · rename_i q
        refine ⟨h1, h2, h3, h4, ⟨s1, s2, ⟨?_, fun i => ?_, fun i => ?_⟩, s4, s5, s6⟩, h6, h7, h8⟩
        · show n_m (a_v a) + 1 ≤ 10
          omega
        · show un (n_t (a_v a)) (n_m (a_v a)) x.toInt.toNat i ≤ 60
          unfold un
          have := s3.2.1 i
          split <;> omega
        · show un (n_c (a_v a)) (n_m (a_v a)) c i < 8
          unfold un
          have := s3.2.2 i
          split <;> omega
      · exact hall
theorem F_seed_ok {x : Int32} (h : AOk a) : AOk (F_seed a x).2 := by
  have hall := h
  obtain ⟨s1, s2, s3, s4, s5, s6⟩ := AOk_s h
  obtain ⟨h1, h2, h3, h4, -, h6, h7, h8⟩ := h
  have := Int32.toInt_lt x
  unfold F_seed
  split
  · exact ⟨h1, h2, h3, h4, ⟨s1, s2, s3, s4, by show x.toInt.toNat < 2147483648; omega, s6⟩, h6, h7, h8⟩
  · exact hall
theorem F_image_ok {x : Int32} (h : AOk a) : AOk (F_image a x).2 := by
  have hall := h
  obtain ⟨h1, h2, h3, h4, h5, h6, h7, h8⟩ := h
  unfold F_image
  split
  · refine ⟨h1, h2, h3, h4, h5, h6, h7, fun k hk s hs => ?_⟩
    have hs : (if k = x.toInt.toNat then some (a_s a) else a_i a k) = some s := hs
    by_cases e : k = x.toInt.toNat
    · rw [if_pos e] at hs; cases hs; exact h5
    · rw [if_neg e] at hs; exact h8 k hk s hs
  · exact hall
theorem F_back_ok {x : Int32} (h : AOk a) : AOk (F_back a x).2 := by
  have hall := h
  obtain ⟨h1, h2, h3, h4, h5, h6, h7, h8⟩ := h
  unfold F_back
  split
  · cases e : a_i a x.toInt.toNat with
    | none => exact hall
    | some s => exact ⟨h1, h2, h3, h4, h8 _ (by omega) s e, Nat.zero_le _, fun i hi => absurd hi (Nat.not_lt_zero _), h8⟩
  · exact hall
end OKS
