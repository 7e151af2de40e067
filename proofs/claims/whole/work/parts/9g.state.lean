/-! the whole state, and how the reference holds it -/
/-- lane, game, notes, rule in force, x -/
abbrev sS : Type := lS × gS × nS × Int × Nat
def s_l (s : sS) : lS := s.1
def s_g (s : sS) : gS := s.2.1
def s_n (s : sS) : nS := s.2.2.1
def s_f (s : sS) : Int := s.2.2.2.1
def s_x (s : sS) : Nat := s.2.2.2.2
def SOk (rm : Nat) (s : sS) : Prop := LOk (s_l s) ∧ GOk (l_k (s_l s)) (s_g s) ∧ NOk (s_n s) ∧ (-1 ≤ s_f s ∧ s_f s < rm) ∧ s_x s < 2147483648 ∧ g_t (s_g s) ≤ 999
def mSd (sd : Nat → Int32) (s : sS) : Prop := mL sd (s_l s) ∧ mG (l_k (s_l s)) sd (s_g s) ∧ mN sd (s_n s)
/-- tape and how much, rules and how many, the state, acts to undo and how many, images -/
abbrev aS : Type := ((Nat → Int) × Nat) × ((Nat → List cS1) × Nat) × sS × ((Nat → gS) × Nat) × (Nat → Option sS)
def a_b (a : aS) : Nat → Int := a.1.1
def a_n (a : aS) : Nat := a.1.2
def a_d (a : aS) : Nat → List cS1 := a.2.1.1
def a_r (a : aS) : Nat := a.2.1.2
def a_s (a : aS) : sS := a.2.2.1
def a_p (a : aS) : Nat → gS := a.2.2.2.1.1
def a_m (a : aS) : Nat := a.2.2.2.1.2
def a_i (a : aS) : Nat → Option sS := a.2.2.2.2
abbrev a_l (a : aS) : lS := s_l (a_s a)
abbrev a_g (a : aS) : gS := s_g (a_s a)
abbrev a_v (a : aS) : nS := s_n (a_s a)
def AOk (a : aS) : Prop := a_n a ≤ 400 ∧ (∀ i, -128 ≤ a_b a i ∧ a_b a i ≤ 127) ∧ a_r a ≤ 6 ∧ (∀ i, i < a_r a → ∀ c, c ∈ a_d a i → ctO c) ∧ SOk (a_r a) (a_s a) ∧ a_m a ≤ 20 ∧ (∀ i, i < a_m a → GOk (l_k (a_l a)) (a_p a i) ∧ g_t (a_p a i) ≤ 999) ∧ ∀ k, k < 4 → ∀ s, a_i a k = some s → SOk (a_r a) s
theorem AOk_s {a : aS} (h : AOk a) : LOk (a_l a) ∧ GOk (l_k (a_l a)) (a_g a) ∧ NOk (a_v a) ∧ (-1 ≤ s_f (a_s a) ∧ s_f (a_s a) < a_r a) ∧ s_x (a_s a) < 2147483648 ∧ g_t (a_g a) ≤ 999 := h.2.2.2.2.1
/-- an image, as the reference holds it -/
def mIm (im ifc ix imd : Nat → Int32) (k : Nat) : Option sS → Prop
  | none => imd k = 0
  | some s => imd k = 1 ∧ ifc k = jn (s_f s) ∧ ix k = jn (s_x s : Int) ∧ ∃ sd : Nat → Int32, (∀ j, j < 81 → im (81 * k + j) = sd j) ∧ mSd sd s
def mRs (a : aS) (sg cl cs : Nat → Int32) : Prop := ∀ i, i < a_r a → mRu sg cl cs i (a_d a i)
def mIs (a : aS) (im ifc ix imd : Nat → Int32) : Prop := ∀ k, k < 4 → mIm im ifc ix imd k (a_i a k)
def mTp (a : aS) (tp : Nat → Int32) (td : Int32) : Prop := td = jn (a_n a : Int) ∧ ∀ i, i < a_n a → tp i = jn (a_b a i)
def MRel (a : aS) (tp : Nat → Int32) (td ru : Int32) (sg cl cs sd : Nat → Int32) (fc x : Int32) (ws : Nat → Int32) (ud : Int32) (im ifc ix imd : Nat → Int32) : Prop :=
  mTp a tp td ∧ ru = jn (a_r a : Int) ∧ mRs a sg cl cs ∧ mSd sd (a_s a) ∧ fc = jn (s_f (a_s a)) ∧ x = jn (s_x (a_s a) : Int) ∧ (ud = jn (a_m a : Int) ∧ mPs (l_k (a_l a)) (a_m a) (a_p a) ws) ∧ mIs a im ifc ix imd
/-- the rule of a number -/
def rFn (a : aS) (i : Nat) : (Nat → Int64) → Int64 := fun w => ruv w (a_d a i)
/-- the rule in force -/
def rNow (a : aS) : rS := if s_f (a_s a) < 0 then none else some (rFn a (s_f (a_s a)).toNat)
theorem rNow_ok {a : aS} (h : AOk a) : ROk (rNow a) := by
  unfold rNow
  split
  · intro f hf; cases hf
  · exact ROk_of (h.2.2.2.1 _ (by have := h.2.2.2.2.1.2.2.2.1; omega))
theorem rO_ok {a : aS} (h : AOk a) : ∀ i, i ≤ a_r a → ROk (rO (rFn a) i) := by
  intro i hi
  cases i with
  | zero => intro f hf; cases hf
  | succ i => exact ROk_of (h.2.2.2.1 i (by omega))
theorem mR_rO {N : Nat} {a : aS} {sg cl cs : Nat → Int32} (hN : 500 ≤ N) (h : AOk a) (hR : mRs a sg cl cs) : ∀ i : Nat, i ≤ a_r a → mR N sg cl cs (jn ((i : Int) - 1)) (rO (rFn a) i) := by
  intro i hi
  have h6 := h.2.2.1
  cases i with
  | zero => rfl
  | succ i => exact mR_of hN (by omega) (congrArg jn (by omega)) (hR i (by omega)) (h.2.2.2.1 i (by omega))
theorem mR_now {N : Nat} {a : aS} {sg cl cs : Nat → Int32} (hN : 500 ≤ N) (h : AOk a) (hR : mRs a sg cl cs) : mR N sg cl cs (jn (s_f (a_s a))) (rNow a) := by
  have h6 := h.2.2.1
  have hf := h.2.2.2.2.1.2.2.2.1
  unfold rNow
  split
  · show jn (s_f (a_s a)) = -1
    rw [show s_f (a_s a) = -1 by omega]; rfl
  · exact mR_of hN (by omega) (congrArg jn (by omega)) (hR _ (by omega)) (h.2.2.2.1 _ (by omega))
def setT (a : aS) (b : Nat → Int) (n : Nat) : aS := ((b, n), a.2)
def setR (a : aS) (d : Nat → List cS1) (r : Nat) : aS := (a.1, (d, r), a.2.2)
def setS (a : aS) (s : sS) : aS := (a.1, a.2.1, s, a.2.2.2)
def setP (a : aS) (p : Nat → gS) (m : Nat) : aS := (a.1, a.2.1, a.2.2.1, (p, m), a.2.2.2.2)
def setI (a : aS) (i : Nat → Option sS) : aS := (a.1, a.2.1, a.2.2.1, a.2.2.2.1, i)
def setG (s : sS) (g : gS) : sS := (s.1, g, s.2.2)
/-- an act: how it was is kept, the game is another one -/
def act (a : aS) (g : gS) : aS := setS (setP a (kpP (a_m a) (a_p a) (a_g a)) (kpN (a_m a))) (setG (a_s a) g)
theorem act_ok {a : aS} {g : gS} (h : AOk a) (hg : GOk (l_k (a_l a)) g) (ht : g_t g ≤ 999) : AOk (act a g) := by
  obtain ⟨h1, h2, h3, h4, ⟨s1, s2, s3, s4, s5, s6⟩, h6, h7, h8⟩ := h
  refine ⟨h1, h2, h3, h4, ⟨s1, hg, s3, s4, s5, ht⟩, ?_, ?_, h8⟩
  · show kpN (a_m a) ≤ 20
    unfold kpN; omega
  · exact kpP_all (Z := fun g => GOk (l_k (a_l a)) g ∧ g_t g ≤ 999) h6 h7 ⟨s2, s6⟩
