/-! orders by number: a leap, a first difference -/
/-- one leaps one back -/
def sw (r : Nat → Nat) (i : Nat) : Nat → Nat := mv r (i + 1) 1
theorem sw_a {r : Nat → Nat} {i : Nat} : sw r i i = r (i + 1) := by unfold sw mv; rw [if_pos (by omega)]
theorem sw_b {r : Nat → Nat} {i : Nat} : sw r i (i + 1) = r i := by unfold sw mv; rw [if_neg (by omega), if_pos (by omega)]; congr 1
theorem sw_c {r : Nat → Nat} {i q : Nat} (h1 : q ≠ i) (h2 : q ≠ i + 1) : sw r i q = r q := by unfold sw mv; rw [if_neg (by omega), if_neg (by omega)]
theorem sw_Pm {m : Nat} {r : Nat → Nat} {i : Nat} (h : Pm m r) (hi : i + 1 < m) : Pm m (sw r i) := mv_Pm h hi (by omega)
theorem mv_zero {r : Nat → Nat} {p : Nat} : mv r p 0 = r := by
  funext q; unfold mv
  by_cases e : q = p - 0
  · rw [if_pos e, e]; rfl
  · rw [if_neg e, if_neg (by omega)]
theorem mv_succ {r : Nat → Nat} {p k : Nat} (h : k < p) : mv r p (k + 1) = sw (mv r p k) (p - (k + 1)) := by
  funext q
  by_cases e1 : q = p - (k + 1)
  · subst e1
    rw [sw_a, show p - (k + 1) + 1 = p - k by omega]
    unfold mv
    rw [if_pos rfl, if_pos rfl]
  · by_cases e2 : q = p - (k + 1) + 1
    · subst e2
      rw [sw_b]
      unfold mv
      rw [if_neg (by omega), if_pos (by omega), if_neg (by omega), if_neg (by omega)]
      congr 1
    · rw [sw_c e1 e2]
      unfold mv
      rw [if_neg e1, if_neg (show ¬ q = p - k by omega)]
      by_cases e3 : p - k < q ∧ q ≤ p
      · rw [if_pos (show p - (k + 1) < q ∧ q ≤ p by omega), if_pos e3]
      · rw [if_neg (show ¬ (p - (k + 1) < q ∧ q ≤ p) by omega), if_neg e3]
theorem iv_is {m : Nat} {r : Nat → Nat} {c p : Nat} (h : Pm m r) (hp : p < m) (e : r p = c) : iv r c m = p := by rw [← e, iv_eq h hp]
theorem iv_sw {m : Nat} {r : Nat → Nat} {i c : Nat} (h : Pm m r) (hi : i + 1 < m) (hc : c < m) : iv (sw r i) c m = if c = r i then i + 1 else if c = r (i + 1) then i else iv r c m := by
  have hs := sw_Pm h hi
  by_cases e1 : c = r i
  · rw [if_pos e1]; exact iv_is hs hi (by rw [sw_b, e1])
  · rw [if_neg e1]
    by_cases e2 : c = r (i + 1)
    · rw [if_pos e2]; exact iv_is hs (by omega) (by rw [sw_a, e2])
    · rw [if_neg e2]
      have h1 := iv_lt h hc
      have h2 := iv_at h hc
      refine iv_is hs h1 ?_
      rw [sw_c, h2]
      · intro q; rw [q] at h2; exact e1 h2.symm
      · intro q; rw [q] at h2; exact e2 h2.symm
theorem ls_sw_o {m : Nat} {r : Nat → Nat} {i q : Nat} (h : Pm m r) (hi : i + 1 < m) (hq : q < m) (h1 : q ≠ i) (h2 : q ≠ i + 1) : ls m (sw r i) q = ls m r q := by
  rw [ls_c (sw_Pm h hi) hq, ls_c h hq, sw_c h1 h2]
  refine cnt_congr (fun c hc => decide_eq_decide.mpr ?_)
  have hr := h.1 q hq
  rw [iv_sw h hi (by omega)]
  by_cases e1 : c = r i
  · rw [if_pos e1, e1, iv_eq h (by omega)]; omega
  · rw [if_neg e1]
    by_cases e2 : c = r (i + 1)
    · rw [if_pos e2, e2, iv_eq h (by omega)]; omega
    · rw [if_neg e2]
theorem Pm_ne {m : Nat} {r : Nat → Nat} {i j : Nat} (h : Pm m r) (hi : i < m) (hj : j < m) (e : i ≠ j) : r i ≠ r j := fun q => e (h.2.1 i j hi hj q)
theorem ls_sw_a {m : Nat} {r : Nat → Nat} {i : Nat} (h : Pm m r) (hi : i + 1 < m) : ls m (sw r i) i = ls m r (i + 1) + (if r i < r (i + 1) then 1 else 0) := by
  have hr := h.1 (i + 1) hi
  rw [ls_c (sw_Pm h hi) (by omega), ls_c h hi, sw_a]
  have e : cnt (fun c => decide (i ≤ iv (sw r i) c m)) (r (i + 1)) = cnt (fun c => decide (c = r i ∨ i + 1 ≤ iv r c m)) (r (i + 1)) := by
    refine cnt_congr (fun c hc => decide_eq_decide.mpr ?_)
    rw [iv_sw h hi (by omega)]
    by_cases e1 : c = r i
    · rw [if_pos e1]; omega
    · rw [if_neg e1, if_neg (by omega)]
      have h2 := iv_at h (show c < m by omega)
      have : iv r c m ≠ i := by intro q; rw [q] at h2; exact e1 h2.symm
      omega
  rw [e]
  refine cnt_ext (f := fun c => decide (c = r i ∨ i + 1 ≤ iv r c m)) (g := fun c => decide (i + 1 ≤ iv r c m)) (a := r i) (fun c hc => decide_eq_decide.mpr ⟨fun z => z.resolve_left hc, Or.inr⟩) (decide_eq_true (Or.inl rfl)) (decide_eq_false ?_)
  rw [iv_eq h (by omega)]; omega
theorem ls_sw_b {m : Nat} {r : Nat → Nat} {i : Nat} (h : Pm m r) (hi : i + 1 < m) : ls m r i = ls m (sw r i) (i + 1) + (if r (i + 1) < r i then 1 else 0) := by
  have hr := h.1 i (by omega)
  have hne := Pm_ne h (show i < m by omega) hi (by omega)
  rw [ls_c (sw_Pm h hi) hi, ls_c h (by omega), sw_b]
  have e : cnt (fun c => decide (i ≤ iv r c m)) (r i) = cnt (fun c => decide (c = r (i + 1) ∨ i + 1 ≤ iv (sw r i) c m)) (r i) := by
    refine cnt_congr (fun c hc => decide_eq_decide.mpr ?_)
    rw [iv_sw h hi (by omega), if_neg (show ¬ c = r i by omega)]
    by_cases e2 : c = r (i + 1)
    · rw [if_pos e2, e2, iv_eq h hi]; omega
    · rw [if_neg e2]
      have h2 := iv_at h (show c < m by omega)
      have : iv r c m ≠ i := by intro q; rw [q] at h2; omega
      omega
  rw [e]
  refine cnt_ext (f := fun c => decide (c = r (i + 1) ∨ i + 1 ≤ iv (sw r i) c m)) (g := fun c => decide (i + 1 ≤ iv (sw r i) c m)) (a := r (i + 1)) (fun c hc => decide_eq_decide.mpr ⟨fun z => z.resolve_left hc, Or.inr⟩) (decide_eq_true (Or.inl rfl)) (decide_eq_false ?_)
  rw [iv_sw h hi (h.1 _ hi), if_neg (fun q => hne q.symm), if_pos rfl]; omega
theorem sumTo_two {F G : Nat → Nat} {i : Nat} (h : ∀ q, q ≠ i → q ≠ i + 1 → G q = F q) : ∀ {n : Nat}, (n ≤ i → sumTo G n = sumTo F n) ∧ (n = i + 1 → sumTo G n + F i = sumTo F n + G i) ∧ (i + 1 < n → sumTo G n + F i + F (i + 1) = sumTo F n + G i + G (i + 1))
  | 0 => ⟨fun _ => rfl, fun h => by omega, fun h => by omega⟩
  | n + 1 => by
    obtain ⟨h1, h2, h3⟩ := sumTo_two h (n := n)
    simp only [sumTo]
    refine ⟨fun q => ?_, fun q => ?_, fun q => ?_⟩
    · rw [h1 (by omega), h n (by omega) (by omega)]
    · have : n = i := by omega
      subst this
      rw [h1 (by omega)]; omega
    · by_cases e : n = i + 1
      · subst e
        have := h2 rfl; omega
      · have := h3 (by omega)
        rw [h n (by omega) (by omega)]; omega
/-- how a leap over one back changes the number -/
theorem rk_sw {m : Nat} {r : Nat → Nat} {i : Nat} (h : Pm m r) (hi : i + 1 < m) : rk m (sw r i) + ls m r i * fc (m - 1 - i) + ls m r (i + 1) * fc (m - 1 - (i + 1)) = rk m r + ls m (sw r i) i * fc (m - 1 - i) + ls m (sw r i) (i + 1) * fc (m - 1 - (i + 1)) := by
  rw [← rk_all, ← rk_all]
  have key := sumTo_two (F := fun q => if q < m then ls m r q * fc (m - 1 - q) else 0) (G := fun q => if q < m then ls m (sw r i) q * fc (m - 1 - q) else 0) (i := i) (fun q h1 h2 => by
    by_cases e : q < m
    · simp only [if_pos e]; rw [ls_sw_o h hi e h1 h2]
    · simp only [if_neg e]) (n := m)
  have k := key.2.2 hi
  simp only [if_pos hi, if_pos (show i < m by omega)] at k
  rw [sumTo_congr (G := fun i => ls m r i * fc (m - 1 - i)) (fun c hc => if_pos hc), sumTo_congr (F := fun q => if q < m then ls m (sw r i) q * fc (m - 1 - q) else 0) (G := fun q => ls m (sw r i) q * fc (m - 1 - q)) (fun c hc => if_pos hc)] at k
  exact k
/-- what is behind the first difference counts for less -/
theorem ls_pre {m : Nat} {r s : Nat → Nat} {i : Nat} (hr : Pm m r) (hs : Pm m s) (hi : i < m) (e : ∀ q, q < i → r q = s q) : ∀ c, c < m → (i ≤ iv r c m ↔ i ≤ iv s c m) := by
  intro c hc
  have h1 := iv_lt hr hc
  have h2 := iv_at hr hc
  have h3 := iv_lt hs hc
  have h4 := iv_at hs hc
  constructor
  · intro q
    by_cases z : i ≤ iv s c m
    · exact z
    · have := e (iv s c m) (by omega)
      rw [h4] at this
      have := iv_is hr h3 this
      omega
  · intro q
    by_cases z : i ≤ iv r c m
    · exact z
    · have := e (iv r c m) (by omega)
      rw [h2] at this
      have := iv_is hs h1 this.symm
      omega
theorem cnt_mono {f : Nat → Bool} {a : Nat} : ∀ {d : Nat}, cnt f a ≤ cnt f (a + d)
  | 0 => Nat.le_refl _
  | d + 1 => Nat.le_trans (cnt_mono (d := d)) (by show _ ≤ cnt f (a + d) + _; omega)
theorem ls_lt {m : Nat} {r s : Nat → Nat} {i : Nat} (hr : Pm m r) (hs : Pm m s) (hi : i < m) (e : ∀ q, q < i → r q = s q) (h : r i < s i) : ls m r i < ls m s i := by
  have hp := ls_pre hr hs hi e
  have hsl := hs.1 i hi
  rw [ls_c hr hi, ls_c hs hi]
  have e1 : cnt (fun c => decide (i ≤ iv s c m)) (s i) = cnt (fun c => decide (i ≤ iv r c m)) (s i) := cnt_congr (fun c hc => decide_eq_decide.mpr (hp c (by omega)).symm)
  rw [e1]
  have h1 := cnt_mono (f := fun c => decide (i ≤ iv r c m)) (a := r i + 1) (d := s i - (r i + 1))
  rw [show r i + 1 + (s i - (r i + 1)) = s i by omega, cnt_succ, iv_eq hr hi, if_pos (decide_eq_true (Nat.le_refl i))] at h1
  omega
theorem ls_eq {m : Nat} {r s : Nat → Nat} {i : Nat} (hr : Pm m r) (hs : Pm m s) (hi : i < m) (e : ∀ q, q < i → r q = s q) (h : r i = s i) : ls m r i = ls m s i := by
  have hp := ls_pre hr hs hi e
  have hsl := hs.1 i hi
  rw [ls_c hr hi, ls_c hs hi, h]
  exact cnt_congr (fun c hc => decide_eq_decide.mpr (hp c (by omega)))
/-- the number that is told, behind a place -/
def dt (m : Nat) (r : Nat → Nat) : Nat → Nat
  | 0 => 0
  | d + 1 => (r (m - (d + 1)) + 1) * 10 ^ d + dt m r d
theorem dt_lt {m : Nat} {r : Nat → Nat} (hm : m ≤ 7) (h : Pm m r) : ∀ {d : Nat}, d ≤ m → dt m r d < 10 ^ d
  | 0, _ => by show 0 < 1; omega
  | d + 1, hd => by
    have h1 := dt_lt hm h (d := d) (by omega)
    have h2 := h.1 (m - (d + 1)) (by omega)
    have h3 := Nat.mul_le_mul_right (10 ^ d) (show r (m - (d + 1)) + 1 ≤ 9 by omega)
    show (r (m - (d + 1)) + 1) * 10 ^ d + dt m r d < 10 ^ (d + 1)
    rw [Nat.pow_succ]; omega
theorem onum_dt {m : Nat} {r : Nat → Nat} : ∀ {p : Nat}, p ≤ m → onum r p * 10 ^ (m - p) + dt m r (m - p) = dt m r m
  | 0, _ => by show 0 * _ + dt m r m = _; omega
  | p + 1, h => by
    have e := onum_dt (m := m) (r := r) (p := p) (by omega)
    rw [show m - p = (m - (p + 1)) + 1 by omega, dt, show m - (m - (p + 1) + 1) = p by omega, Nat.pow_succ] at e
    rw [onum, ← e, ← Nat.add_assoc]
    congr 1
    rw [Nat.add_assoc, Nat.add_mul, Nat.mul_assoc, Nat.mul_comm 10 (onum r p * _), Nat.mul_assoc]
theorem onum_all {m : Nat} {r : Nat → Nat} : onum r m = dt m r m := by
  have := onum_dt (m := m) (r := r) (Nat.le_refl m)
  rw [Nat.sub_self] at this
  rw [← this]; show _ = _ * 1 + 0; omega
theorem two_lt {a b w x y : Nat} (h : a < b) (hx : x < w) : a * w + x < b * w + y := by
  have := Nat.mul_le_mul_right w (show a + 1 ≤ b from h)
  rw [Nat.add_mul, Nat.one_mul] at this; omega
theorem lex {m : Nat} {r s : Nat → Nat} (hm : m ≤ 7) (hr : Pm m r) (hs : Pm m s) : ∀ {d : Nat}, d ≤ m → (∀ q, q < m - d → r q = s q) → (rt m r d < rt m s d ∧ dt m r d < dt m s d) ∨ (rt m s d < rt m r d ∧ dt m s d < dt m r d) ∨ (∀ q, q < m → r q = s q)
  | 0, _, e => Or.inr (Or.inr (fun q hq => e q (by omega)))
  | d + 1, h, e => by
    have hi : m - (d + 1) < m := by omega
    have b1 := rt_lt (m := m) (r := r) (d := d) (by omega)
    have b2 := rt_lt (m := m) (r := s) (d := d) (by omega)
    have b3 := dt_lt hm hr (d := d) (by omega)
    have b4 := dt_lt hm hs (d := d) (by omega)
    unfold rt dt
    rcases Nat.lt_trichotomy (r (m - (d + 1))) (s (m - (d + 1))) with z | z | z
    · exact Or.inl ⟨two_lt (ls_lt hr hs hi e z) b1, two_lt (by omega) b3⟩
    · rw [ls_eq hr hs hi e z, z]
      rcases lex hm hr hs (d := d) (by omega) (fun q hq => by
        by_cases y : q = m - (d + 1)
        · rw [y]; exact z
        · exact e q (by omega)) with y | y | y
      · exact Or.inl ⟨by omega, by omega⟩
      · exact Or.inr (Or.inl ⟨by omega, by omega⟩)
      · exact Or.inr (Or.inr y)
    · exact Or.inr (Or.inl ⟨two_lt (ls_lt hs hr hi (fun q hq => (e q hq).symm) z) b2, two_lt (by omega) b4⟩)
/-- the number tells the order -/
theorem rk_inj {m : Nat} {r s : Nat → Nat} (hm : m ≤ 7) (hr : Pm m r) (hs : Pm m s) (e : rk m r = rk m s) : ∀ q, q < m → r q = s q := by
  rcases lex hm hr hs (Nat.le_refl m) (fun q hq => by omega) with z | z | z
  · unfold rk at e; omega
  · unfold rk at e; omega
  · exact z
theorem rk_mono {m : Nat} {r s : Nat → Nat} (hm : m ≤ 7) (hr : Pm m r) (hs : Pm m s) (e : rk m r ≤ rk m s) : onum r m ≤ onum s m := by
  rw [onum_all, onum_all]
  rcases lex hm hr hs (Nat.le_refl m) (fun q hq => by omega) with z | z | z
  · omega
  · unfold rk at e; omega
  · rw [← onum_all, ← onum_all]
    have key : ∀ p, p ≤ m → onum r p = onum s p := by
      intro p
      induction p with
      | zero => intro _; rfl
      | succ p ih => intro h; rw [onum, onum, ih (by omega), z p (by omega)]
    rw [key m (Nat.le_refl m)]; omega
