/-! what waits: its shape -/
def bO : Nat → List Nat → Prop
  | _, [] => True
  | m, o :: p => (o = 15 ∧ bO 3 p) ∨ (o = 12 ∧ bO m p) ∨ (o = 13 ∧ 2 < m ∧ bO 2 p) ∨ (o = 14 ∧ 1 < m ∧ bO 1 p)
def aO (R : List Nat → Prop) : Nat → List Nat → Prop
  | _, [] => R []
  | m, o :: p => (2 ≤ o ∧ o ≤ 6 ∧ str o < m ∧ aO R (str o) p) ∨ R (o :: p)
def RK (k : Nat) (p : List Nat) : Prop := (k = 0 ∧ p = []) ∨ (k = 1 ∧ bO 3 p) ∨ (k = 2 ∧ ∃ o p', p = o :: p' ∧ 7 ≤ o ∧ o ≤ 11 ∧ bO 3 p')
theorem str_a {o : Nat} (h : 2 ≤ o ∧ o ≤ 6) : str o = 5 ∨ str o = 6 := by
  have : o = 2 ∨ o = 3 ∨ o = 4 ∨ o = 5 ∨ o = 6 := by omega
  rcases this with e | e | e | e | e <;> subst e <;> decide
theorem str_c {o : Nat} (h : 7 ≤ o ∧ o ≤ 11) : str o = 4 := by
  have : o = 7 ∨ o = 8 ∨ o = 9 ∨ o = 10 ∨ o = 11 := by omega
  rcases this with e | e | e | e | e <;> subst e <;> decide
theorem dep_cons {o : Nat} {p : List Nat} : dep (o :: p) = dep p + (if o = 12 ∨ o = 15 then 1 else 0) := by
  unfold dep
  rw [List.countP_cons]
  by_cases e : o = 12 ∨ o = 15
  · rw [if_pos e, if_pos (by simpa using e)]
  · rw [if_neg e, if_neg (by simpa using e)]
theorem opn_cons {o : Nat} {p : List Nat} : opn (o :: p) = opn p + (if o = 15 then 1 else 0) := by
  unfold opn
  rw [List.countP_cons]
  by_cases e : o = 15
  · rw [if_pos e, if_pos (by simpa using e)]
  · rw [if_neg e, if_neg (by simpa using e)]
theorem opn_dep : ∀ {p : List Nat}, opn p ≤ dep p
  | [] => Nat.le_refl _
  | o :: p => by
    have := opn_dep (p := p)
    rw [opn_cons, dep_cons]
    by_cases e : o = 15
    · rw [if_pos e, if_pos (Or.inr e)]; omega
    · rw [if_neg e]; split <;> omega
theorem bO_len : ∀ {p : List Nat} {m : Nat}, 1 ≤ m → bO m p → (pnd p).length ≤ (m - 1) + 2 * opn p ∧ p.length = (pnd p).length + dep p
  | [], m, _, _ => ⟨by simp [pnd], by simp [pnd, dep]⟩
  | o :: p, m, hm, h => by
    rw [opn_cons, dep_cons, pnd_cons]
    rcases h with ⟨e, h⟩ | ⟨e, h⟩ | ⟨e, h1, h⟩ | ⟨e, h1, h⟩ <;> subst e
    · have := bO_len (by omega) h
      simp only [List.length_cons]
      refine ⟨?_, ?_⟩ <;> simp <;> omega
    · have := bO_len hm h
      simp only [List.length_cons]
      refine ⟨?_, ?_⟩ <;> simp <;> omega
    · have := bO_len (by omega) h
      refine ⟨?_, ?_⟩ <;> simp <;> omega
    · have := bO_len (by omega) h
      refine ⟨?_, ?_⟩ <;> simp <;> omega
theorem RK_len {k : Nat} {p : List Nat} (h : RK k p) (hd : dep p ≤ 10) : (pnd p).length ≤ 23 ∧ p.length ≤ 33 := by
  rcases h with ⟨-, e⟩ | ⟨-, h⟩ | ⟨-, o, p', e, h1, h2, h⟩
  · subst e; simp [pnd]
  · have := bO_len (by omega) h
    have := opn_dep (p := p)
    omega
  · subst e
    have := bO_len (by omega) h
    have ho := opn_dep (p := p')
    rw [dep_cons, if_neg (by omega)] at hd
    rw [pnd_cons, if_neg (by omega), if_pos (by omega)]
    simp only [List.length_cons]
    omega
theorem aO_len {k : Nat} : ∀ {p : List Nat} {m : Nat}, m ≤ 7 → aO (RK k) m p → dep p ≤ 10 → (pnd p).length ≤ (m - 5) + 23 ∧ p.length ≤ (m - 5) + 33
  | [], m, _, _, _ => by simp [pnd]
  | o :: p, m, hm, h, hd => by
    rcases h with ⟨h1, h2, h3, h⟩ | h
    · have hs := str_a ⟨h1, h2⟩
      rw [dep_cons, if_neg (by omega)] at hd
      have := aO_len (by omega) h hd
      rw [pnd_cons, if_neg (by omega), if_pos (by omega)]
      simp only [List.length_cons]
      omega
    · have := RK_len h hd
      omega
/-- nothing of what lies below the sum is so strong -/
def wk (m : Nat) (p : List Nat) : Prop := ∀ o q, p = o :: q → str o < m
theorem popG_wk {m : Nat} {p c : List Nat} (h : wk m p) : popG m p c = (p, c) := by
  cases p with
  | nil => rfl
  | cons o q =>
    unfold popG
    rw [if_neg (by have := h o q rfl; omega)]
theorem cT_wk {m : Nat} {ty : Bool} {p : List Nat} (h : wk m p) : cT m ty p ∧ rT m ty p = ty := by
  cases p with
  | nil => exact ⟨trivial, rfl⟩
  | cons o q =>
    have := h o q rfl
    refine ⟨fun z => by omega, ?_⟩
    unfold rT
    rw [if_neg (by omega)]
theorem bO_wk {m k : Nat} {p : List Nat} (h : bO m p) (hk : 4 ≤ k) : wk k p := by
  rintro o q rfl
  rcases h with ⟨e, -⟩ | ⟨e, -⟩ | ⟨e, -, -⟩ | ⟨e, -, -⟩ <;> subst e <;> simp [str] <;> omega
theorem RK_wk {k m : Nat} {p : List Nat} (h : RK k p) (hm : 5 ≤ m ∨ (k ≠ 2 ∧ 4 ≤ m)) : wk m p := by
  rcases h with ⟨-, e⟩ | ⟨-, h⟩ | ⟨e0, o, p', e, h1, h2, h⟩
  · subst e; intro o q z; cases z
  · exact bO_wk h (by omega)
  · subst e
    rintro o' q z
    cases z
    rw [str_c ⟨h1, h2⟩]; omega
/-- a sum's signs are written: those that are as strong -/
theorem aO_pop {k m : Nat} (hm : 5 ≤ m ∨ (k ≠ 2 ∧ 4 ≤ m)) (hm7 : m ≤ 6) : ∀ {p c : List Nat} {m' : Nat}, aO (RK k) m' p → aO (RK k) m (popG m p c).1 ∧ cT m false p ∧ rT m false p = false ∧ (m = 4 → RK k (popG m p c).1) ∧ dep (popG m p c).1 = dep p
  | [], c, m', h => ⟨h, trivial, rfl, fun _ => h, rfl⟩
  | o :: p, c, m', h => by
    by_cases e : m ≤ str o
    · have h' := h
      rcases h with ⟨h1, h2, h3, h⟩ | h
      · have hs := str_a ⟨h1, h2⟩
        obtain ⟨i1, i2, i3, i4, i5⟩ := aO_pop hm hm7 (c := c ++ [o]) h
        unfold popG
        rw [if_pos e]
        have er : rty o = false := by unfold rty; exact decide_eq_false (by omega)
        refine ⟨i1, fun _ => ⟨Or.inl ⟨rfl, by omega, by omega⟩, by rw [er]; exact i2⟩, ?_, i4, ?_⟩
        · unfold rT; rw [if_pos e, er]; exact i3
        · rw [i5, dep_cons, if_neg (by omega)]; rfl
      · have := RK_wk h hm o p rfl
        omega
    · have hw : wk m (o :: p) := by intro o' q z; cases z; omega
      rw [popG_wk hw]
      refine ⟨?_, (cT_wk hw).1, (cT_wk hw).2, fun e4 => ?_, rfl⟩
      · rcases h with ⟨h1, h2, h3, h⟩ | h
        · exact Or.inl ⟨h1, h2, by omega, h⟩
        · exact Or.inr h
      · rcases h with ⟨h1, h2, h3, h⟩ | h
        · have hs := str_a ⟨h1, h2⟩; omega
        · exact h
/-- signs of a test are written -/
theorem bO_pop {m : Nat} (hm : 1 ≤ m ∧ m ≤ 3) : ∀ {p c : List Nat} {m' : Nat}, bO m' p → bO m (popG m p c).1 ∧ cT m true p ∧ rT m true p = true ∧ dep (popG m p c).1 ≤ dep p ∧ opn (popG m p c).1 = opn p
  | [], c, m', _ => ⟨trivial, trivial, rfl, Nat.le_refl _, rfl⟩
  | o :: p, c, m', h => by
    by_cases e : m ≤ str o
    · have step : (o = 12 ∨ o = 13 ∨ o = 14) → ∀ m2, bO m2 p → bO m (popG m (o :: p) c).1 ∧ cT m true (o :: p) ∧ rT m true (o :: p) = true ∧ dep (popG m (o :: p) c).1 ≤ dep (o :: p) ∧ opn (popG m (o :: p) c).1 = opn (o :: p) := by
        intro ho m2 h
        obtain ⟨i1, i2, i3, i4, i5⟩ := bO_pop hm (c := c ++ [o]) h
        have er : rty o = true := by unfold rty; exact decide_eq_true (by omega)
        have eg : popG m (o :: p) c = popG m p (c ++ [o]) := by rw [popG, if_pos e]
        rw [eg]
        refine ⟨i1, fun _ => ⟨Or.inr ⟨rfl, by omega, by omega⟩, by rw [er]; exact i2⟩, ?_, ?_, ?_⟩
        · unfold rT; rw [if_pos e, er]; exact i3
        · rw [dep_cons]; omega
        · rw [i5, opn_cons, if_neg (by omega)]; rfl
      rcases h with ⟨z, h⟩ | ⟨z, h⟩ | ⟨z, h1, h⟩ | ⟨z, h1, h⟩
      · subst z; exact absurd e (by show ¬ m ≤ 0; omega)
      · exact step (Or.inl z) _ h
      · exact step (Or.inr (Or.inl z)) _ h
      · exact step (Or.inr (Or.inr z)) _ h
    · have hw : wk m (o :: p) := by intro o' q z; cases z; omega
      rw [popG_wk hw]
      refine ⟨?_, (cT_wk hw).1, (cT_wk hw).2, Nat.le_refl _, rfl⟩
      rcases h with ⟨z, h⟩ | ⟨z, h⟩ | ⟨z, h1, h⟩ | ⟨z, h1, h⟩ <;> subst z
      · exact Or.inl ⟨rfl, h⟩
      · have e : ¬ m ≤ 3 := e
        omega
      · have e : ¬ m ≤ 2 := e
        exact Or.inr (Or.inr (Or.inl ⟨rfl, by omega, h⟩))
      · have e : ¬ m ≤ 1 := e
        exact Or.inr (Or.inr (Or.inr ⟨rfl, by omega, h⟩))
theorem a2_pop {m : Nat} (hm : 1 ≤ m ∧ m ≤ 3) : ∀ {p c : List Nat} {m' : Nat}, aO (RK 2) m' p → bO m (popG m p c).1 ∧ cT m false p ∧ rT m false p = true ∧ dep (popG m p c).1 ≤ dep p ∧ opn (popG m p c).1 = opn p
  | [], c, m', h => by
    rcases h with ⟨e, -⟩ | ⟨e, -⟩ | ⟨-, o, p', e, -⟩
    · cases e
    · cases e
    · cases e
  | o :: p, c, m', h => by
    rcases h with ⟨h1, h2, h3, h⟩ | h
    · have hs := str_a ⟨h1, h2⟩
      have e : m ≤ str o := by omega
      obtain ⟨i1, i2, i3, i4, i5⟩ := a2_pop hm (c := c ++ [o]) h
      have er : rty o = false := by unfold rty; exact decide_eq_false (by omega)
      have eg : popG m (o :: p) c = popG m p (c ++ [o]) := by rw [popG, if_pos e]
      rw [eg]
      refine ⟨i1, fun _ => ⟨Or.inl ⟨rfl, by omega, by omega⟩, by rw [er]; exact i2⟩, ?_, ?_, ?_⟩
      · unfold rT; rw [if_pos e, er]; exact i3
      · rw [dep_cons, if_neg (by omega)]; exact i4
      · rw [opn_cons, if_neg (by omega)]; exact i5
    · rcases h with ⟨e, -⟩ | ⟨e, -⟩ | ⟨-, o', p', e, h1, h2, h⟩
      · cases e
      · cases e
      · cases e
        have hs := str_c ⟨h1, h2⟩
        have e : m ≤ str o := by omega
        obtain ⟨i1, i2, i3, i4, i5⟩ := bO_pop hm (c := c ++ [o]) h
        have er : rty o = true := by unfold rty; exact decide_eq_true (by omega)
        have eg : popG m (o :: p) c = popG m p (c ++ [o]) := by rw [popG, if_pos e]
        rw [eg]
        refine ⟨i1, fun _ => ⟨Or.inl ⟨rfl, by omega, by omega⟩, by rw [er]; exact i2⟩, ?_, ?_, ?_⟩
        · unfold rT; rw [if_pos e, er]; exact i3
        · rw [dep_cons, if_neg (by omega)]; exact i4
        · rw [opn_cons, if_neg (by omega)]; exact i5
theorem a0_pop : ∀ {p c : List Nat} {m' : Nat}, aO (RK 0) m' p → (popG 1 p c).1 = [] ∧ cT 1 false p ∧ rT 1 false p = false ∧ dep p = 0
  | [], c, m', _ => ⟨rfl, trivial, rfl, rfl⟩
  | o :: p, c, m', h => by
    rcases h with ⟨h1, h2, h3, h⟩ | h
    · have hs := str_a ⟨h1, h2⟩
      have e : 1 ≤ str o := by omega
      obtain ⟨i1, i2, i3, i4⟩ := a0_pop (c := c ++ [o]) h
      have er : rty o = false := by unfold rty; exact decide_eq_false (by omega)
      have eg : popG 1 (o :: p) c = popG 1 p (c ++ [o]) := by rw [popG, if_pos e]
      rw [eg]
      refine ⟨i1, fun _ => ⟨Or.inl ⟨rfl, by omega, by omega⟩, by rw [er]; exact i2⟩, ?_, ?_⟩
      · unfold rT; rw [if_pos e, er]; exact i3
      · rw [dep_cons, if_neg (by omega)]; exact i4
    · rcases h with ⟨-, e⟩ | ⟨e, -⟩ | ⟨e, -⟩
      · cases e
      · cases e
      · cases e
/-- behind all signs of a test up to what opened: that, or nothing -/
theorem bO1 {p : List Nat} (h : bO 1 p) (hw : wk 1 p) : (opn p = 0 → p = []) ∧ (opn p ≠ 0 → ∃ q, p = 15 :: q ∧ bO 3 q) := by
  cases p with
  | nil => exact ⟨fun _ => rfl, fun z => absurd rfl z⟩
  | cons o q =>
    have := hw o q rfl
    rcases h with ⟨z, h⟩ | ⟨z, h⟩ | ⟨z, h1, h⟩ | ⟨z, h1, h⟩ <;> subst z
    · exact ⟨fun y => by rw [opn_cons, if_pos rfl] at y; omega, fun _ => ⟨q, rfl, h⟩⟩
    · exact absurd this (by decide)
    · exact absurd this (by decide)
    · exact absurd this (by decide)
theorem popG_stop {m : Nat} : ∀ {p c : List Nat}, wk m (popG m p c).1
  | [], c => by intro o q z; cases z
  | o :: p, c => by
    unfold popG
    by_cases e : m ≤ str o
    · rw [if_pos e]; exact popG_stop
    · rw [if_neg e]; intro o' q z; cases z; omega
