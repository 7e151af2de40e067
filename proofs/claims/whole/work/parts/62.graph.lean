/-! ways in a graph whose steps bear numbers; a search, the fewest steps first -/
section GR
variable (E : Nat → Nat → Nat → Prop)
/-- a way of so many steps -/
def Wy : Nat → Nat → Nat → Prop
  | 0, a, b => a = b
  | d + 1, a, b => ∃ l c, E a l c ∧ Wy d c b
/-- so far, and no nearer -/
def Ds (a b d : Nat) : Prop := Wy E d a b ∧ ∀ e, Wy E e a b → d ≤ e
/-- what a search found: how many, which, by whom, how far -/
def FB (S F : Nat) (ro dp : Nat → Nat) : Prop := 0 < F ∧ ro 0 = S ∧ dp 0 = 0 ∧ (∀ j, 0 < j → j < F → ∃ i l, i < j ∧ E (ro i) l (ro j) ∧ dp j = dp i + 1) ∧ (∀ i l b, i < F → E (ro i) l b → ∃ j, j < F ∧ ro j = b ∧ dp j ≤ dp i + 1) ∧ (∀ i j, i < F → j < F → ro i = ro j → i = j) ∧ (∀ i j, i ≤ j → j < F → dp i ≤ dp j)
/-- and first of all by the lesser steps -/
def RB (S F : Nat) (ro pa la dp : Nat → Nat) : Prop := 0 < F ∧ ro 0 = S ∧ dp 0 = 0 ∧ (∀ j, 0 < j → j < F → pa j < j ∧ E (ro (pa j)) (la j) (ro j) ∧ dp j = dp (pa j) + 1) ∧ (∀ i l b, i < F → E (ro i) l b → ∃ j, j < F ∧ ro j = b ∧ (j = 0 ∨ pa j < i ∨ (pa j = i ∧ la j ≤ l))) ∧ (∀ i j, i < F → j < F → ro i = ro j → i = j) ∧ (∀ i j, 0 < i → i < j → j < F → pa i < pa j ∨ (pa i = pa j ∧ la i < la j))
variable {E}
theorem Wy_add {a b c d e : Nat} : Wy E d a b → Wy E e b c → Wy E (d + e) a c := by
  induction d generalizing a with
  | zero => intro h h'; cases h; rw [Nat.zero_add]; exact h'
  | succ d ih =>
    rintro ⟨l, x, h1, h2⟩ h'
    rw [show d + 1 + e = (d + e) + 1 by omega]
    exact ⟨l, x, h1, ih h2 h'⟩
theorem Wy_one {a l b : Nat} (h : E a l b) : Wy E 1 a b := ⟨l, b, h, rfl⟩
theorem Wy_snoc {a b d : Nat} : Wy E (d + 1) a b → ∃ l c, Wy E d a c ∧ E c l b := by
  induction d generalizing a with
  | zero => rintro ⟨l, x, h1, h2⟩; cases h2; exact ⟨l, a, rfl, h1⟩
  | succ d ih =>
    rintro ⟨l, x, h1, h2⟩
    obtain ⟨l', c, h3, h4⟩ := ih h2
    exact ⟨l', c, ⟨l, x, h1, h3⟩, h4⟩
theorem Ds_un {a b d e : Nat} (h : Ds E a b d) (h' : Ds E a b e) : d = e := Nat.le_antisymm (h.2 e h'.1) (h'.2 d h.1)
theorem FB_way {S F : Nat} {ro dp : Nat → Nat} (h : FB E S F ro dp) : ∀ j, j < F → Wy E (dp j) S (ro j) := by
  intro j
  induction j using Nat.strongRecOn with
  | ind j ih =>
    intro hj
    obtain ⟨h0, h1, h2, h3, h4, h5, h6⟩ := h
    by_cases e : j = 0
    · subst e; rw [h2]; exact h1.symm
    · obtain ⟨i, l, g1, g2, g3⟩ := h3 j (by omega) hj
      rw [g3]
      exact Wy_add (ih i g1 (by omega)) (Wy_one g2)
theorem FB_all {S F : Nat} {ro dp : Nat → Nat} (h : FB E S F ro dp) : ∀ d b, Wy E d S b → ∃ j, j < F ∧ ro j = b ∧ dp j ≤ d := by
  intro d
  induction d with
  | zero => intro b e; obtain ⟨h0, h1, h2, -⟩ := h; cases e; exact ⟨0, h0, h1, by omega⟩
  | succ d ih =>
    intro b e
    obtain ⟨l, c, g1, g2⟩ := Wy_snoc e
    obtain ⟨i, k1, k2, k3⟩ := ih c g1
    subst k2
    obtain ⟨j, q1, q2, q3⟩ := h.2.2.2.2.1 i l b k1 g2
    exact ⟨j, q1, q2, by omega⟩
theorem FB_Ds {S F : Nat} {ro dp : Nat → Nat} (h : FB E S F ro dp) {j : Nat} (hj : j < F) : Ds E S (ro j) (dp j) := by
  refine ⟨FB_way h j hj, fun e he => ?_⟩
  obtain ⟨i, k1, k2, k3⟩ := FB_all h e _ he
  have := h.2.2.2.2.2.1 i j k1 hj k2
  subst this; exact k3
/-- how far, if one comes there at all -/
theorem FB_iff {S F : Nat} {ro dp : Nat → Nat} (h : FB E S F ro dp) {b d : Nat} : Ds E S b d ↔ ∃ j, j < F ∧ ro j = b ∧ dp j = d := by
  constructor
  · intro g
    obtain ⟨j, k1, k2, k3⟩ := FB_all h d b g.1
    refine ⟨j, k1, k2, ?_⟩
    have := FB_Ds h k1
    rw [k2] at this
    exact Ds_un this g
  · rintro ⟨j, k1, rfl, rfl⟩; exact FB_Ds h k1
theorem RB_mono {S F : Nat} {ro pa la dp : Nat → Nat} (h : RB E S F ro pa la dp) : ∀ j, j < F → ∀ i, i ≤ j → dp i ≤ dp j := by
  obtain ⟨h0, h1, h2, h3, h4, h5, h6⟩ := h
  intro j
  induction j using Nat.strongRecOn with
  | ind j ih =>
    intro hj i hi
    by_cases e : i = 0
    · subst e; omega
    · by_cases e2 : i = j
      · rw [e2]; exact Nat.le_refl _
      · obtain ⟨a1, -, a3⟩ := h3 i (by omega) (by omega)
        obtain ⟨b1, -, b3⟩ := h3 j (by omega) hj
        have : pa i ≤ pa j := by
          rcases h6 i j (by omega) (by omega) hj with z | z <;> omega
        have := ih (pa j) b1 (by omega) (pa i) this
        omega
theorem RB_FB {S F : Nat} {ro pa la dp : Nat → Nat} (h : RB E S F ro pa la dp) : FB E S F ro dp := by
  have hm := RB_mono h
  obtain ⟨h0, h1, h2, h3, h4, h5, h6⟩ := h
  refine ⟨h0, h1, h2, fun j a b => ?_, fun i l b hi he => ?_, h5, fun i j a b => hm j b i a⟩
  · obtain ⟨g1, g2, g3⟩ := h3 j a b; exact ⟨pa j, la j, g1, g2, g3⟩
  · obtain ⟨j, g1, g2, g3⟩ := h4 i l b hi he
    refine ⟨j, g1, g2, ?_⟩
    by_cases e : j = 0
    · subst e; omega
    · obtain ⟨-, -, k3⟩ := h3 j (by omega) g1
      have := hm i hi (pa j) (by omega)
      omega
/-- so many steps back -/
def up (pa : Nat → Nat) (t : Nat) : Nat → Nat
  | 0 => t
  | k + 1 => pa (up pa t k)
theorem up_dp {S F : Nat} {ro pa la dp : Nat → Nat} (h : RB E S F ro pa la dp) {t : Nat} (ht : t < F) : ∀ k, k ≤ dp t → up pa t k < F ∧ dp (up pa t k) = dp t - k ∧ Wy E k (ro (up pa t k)) (ro t)
  | 0, _ => ⟨ht, rfl, rfl⟩
  | k + 1, hk => by
    obtain ⟨g1, g2, g3⟩ := up_dp h ht k (by omega)
    have hz : up pa t k ≠ 0 := by intro q; rw [q, h.2.2.1] at g2; omega
    obtain ⟨k1, k2, k3⟩ := h.2.2.2.1 _ (by omega) g1
    refine ⟨?_, ?_, ⟨la (up pa t k), ro (up pa t k), k2, g3⟩⟩
    · show pa (up pa t k) < F; omega
    · show dp (pa (up pa t k)) = _; omega
/-- of those as far from here and from there, the first is on the way -/
theorem up_min {S F : Nat} {ro pa la dp : Nat → Nat} (h : RB E S F ro pa la dp) {t : Nat} (ht : t < F) : ∀ k, k ≤ dp t → ∀ j, j < F → dp j = dp t - k → Wy E k (ro j) (ro t) → up pa t k ≤ j
  | 0, _, j, hj, _, hw => by
    have := h.2.2.2.2.2.1 j t hj ht hw
    subst this; exact Nat.le_refl _
  | k + 1, hk, j, hj, hd, hw => by
    obtain ⟨l, b, g1, g2⟩ := hw
    have hf := RB_FB h
    obtain ⟨w, k1, k2, k3⟩ := h.2.2.2.2.1 j l b hj g1
    subst k2
    have d1 := (FB_Ds hf k1).2 _ (Wy_add (FB_way hf j hj) (Wy_one g1))
    have d2 := (FB_Ds hf ht).2 _ (Wy_add (FB_way hf w k1) g2)
    have ih := up_min h ht k (by omega) w k1 (by omega) g2
    have hw0 : w ≠ 0 := by intro q; rw [q, h.2.2.1] at d2; omega
    obtain ⟨u1, u2, u3⟩ := up_dp h ht k (by omega)
    have hz : up pa t k ≠ 0 := by intro q; rw [q, h.2.2.1] at u2; omega
    show pa (up pa t k) ≤ j
    by_cases e : up pa t k = w
    · rw [e]; omega
    · rcases h.2.2.2.2.2.2 (up pa t k) w (by omega) (by omega) k1 with z | z <;> omega
/-- the least step that leads nearer is the one on the way -/
theorem up_step {S F : Nat} {ro pa la dp : Nat → Nat} (h : RB E S F ro pa la dp) {t k : Nat} (ht : t < F) (hk : k < dp t) : E (ro (up pa t (k + 1))) (la (up pa t k)) (ro (up pa t k)) ∧ Ds E (ro (up pa t k)) (ro t) k ∧ ∀ l b, E (ro (up pa t (k + 1))) l b → Wy E k b (ro t) → la (up pa t k) ≤ l := by
  have hf := RB_FB h
  obtain ⟨u1, u2, u3⟩ := up_dp h ht k (by omega)
  obtain ⟨v1, v2, v3⟩ := up_dp h ht (k + 1) (by omega)
  have hz : up pa t k ≠ 0 := by intro q; rw [q, h.2.2.1] at u2; omega
  obtain ⟨k1, k2, k3⟩ := h.2.2.2.1 _ (by omega) u1
  refine ⟨k2, ⟨u3, fun e he => ?_⟩, fun l b g1 g2 => ?_⟩
  · have := (FB_Ds hf ht).2 _ (Wy_add (FB_way hf _ u1) he)
    omega
  · obtain ⟨w, q1, q2, q3⟩ := h.2.2.2.2.1 _ l b v1 g1
    subst q2
    have d1 := (FB_Ds hf q1).2 _ (Wy_add (FB_way hf _ v1) (Wy_one g1))
    have d2 := (FB_Ds hf ht).2 _ (Wy_add (FB_way hf w q1) g2)
    have ih := up_min h ht k (by omega) w q1 (by omega) g2
    have hw0 : w ≠ 0 := by intro q; rw [q, h.2.2.1] at d2; omega
    have hp : pa (up pa t k) = up pa t (k + 1) := rfl
    by_cases e : up pa t k = w
    · rw [e] at hp ⊢; omega
    · rcases h.2.2.2.2.2.2 (up pa t k) w (by omega) (by omega) q1 with z | z <;> omega
end GR
/-- the steps, backwards -/
def Rv (E : Nat → Nat → Nat → Prop) (a l b : Nat) : Prop := ∃ l', E b l' a
theorem Wy_rv {E : Nat → Nat → Nat → Prop} {d a b : Nat} : Wy E d a b → Wy (Rv E) d b a := by
  induction d generalizing a with
  | zero => intro h; exact h.symm
  | succ d ih =>
    rintro ⟨l, c, h1, h2⟩
    exact Wy_add (ih h2) (Wy_one (l := 0) ⟨l, h1⟩)
theorem Wy_vr {E : Nat → Nat → Nat → Prop} {d a b : Nat} : Wy (Rv E) d a b → Wy E d b a := by
  induction d generalizing a with
  | zero => intro h; exact h.symm
  | succ d ih =>
    rintro ⟨l, c, ⟨l', h1⟩, h2⟩
    exact Wy_add (ih h2) (Wy_one h1)
theorem Ds_rv {E : Nat → Nat → Nat → Prop} {d a b : Nat} : Ds (Rv E) b a d ↔ Ds E a b d :=
  ⟨fun h => ⟨Wy_vr h.1, fun e he => h.2 e (Wy_rv he)⟩, fun h => ⟨Wy_rv h.1, fun e he => h.2 e (Wy_vr he)⟩⟩
