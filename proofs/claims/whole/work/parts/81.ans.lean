/-! what is asked of all that can be reached, as numbers that are one -/
section ANS
variable {E : Nat → Nat → Nat → Prop}
/-- the least step that leads nearer -/
def Nx (E : Nat → Nat → Nat → Prop) (T a l b d : Nat) : Prop := E a l b ∧ Ds E b T d ∧ ∀ l' b', E a l' b' → Wy E d b' T → l ≤ l'
/-- the i-th such step -/
def Gp (E : Nat → Nat → Nat → Prop) (T : Nat) : Nat → Nat → Nat → Nat → Prop
  | 0, a, d, l => ∃ b d', d = d' + 1 ∧ Nx E T a l b d'
  | i + 1, a, d, l => ∃ l0 b d', d = d' + 1 ∧ Nx E T a l0 b d' ∧ Gp E T i b d' l
theorem Nx_un {T a l l' b b' d : Nat} (hE : ∀ a l b b', E a l b → E a l b' → b = b') (h : Nx E T a l b d) (h' : Nx E T a l' b' d) : l = l' ∧ b = b' := by
  have e : l = l' := Nat.le_antisymm (h.2.2 _ _ h'.1 h'.2.1.1) (h'.2.2 _ _ h.1 h.2.1.1)
  subst e
  exact ⟨rfl, hE _ _ _ _ h.1 h'.1⟩
theorem Gp_un {T : Nat} (hE : ∀ a l b b', E a l b → E a l b' → b = b') : ∀ {i a d l l' : Nat}, Gp E T i a d l → Gp E T i a d l' → l = l'
  | 0, a, d, l, l', ⟨b, d1, e1, h1⟩, ⟨b', d2, e2, h2⟩ => by
    have : d1 = d2 := by omega
    subst this
    exact (Nx_un hE h1 h2).1
  | i + 1, a, d, l, l', ⟨l0, b, d1, e1, h1, g1⟩, ⟨l0', b', d2, e2, h2, g2⟩ => by
    have : d1 = d2 := by omega
    subst this
    obtain ⟨-, e⟩ := Nx_un hE h1 h2
    subst e
    exact Gp_un hE g1 g2
theorem RB_Nx {S F : Nat} {ro pa la dp : Nat → Nat} (h : RB E S F ro pa la dp) {t k : Nat} (ht : t < F) (hk : k < dp t) : Nx E (ro t) (ro (up pa t (k + 1))) (la (up pa t k)) (ro (up pa t k)) k := by
  obtain ⟨h1, h2, h3⟩ := up_step h ht hk
  exact ⟨h1, h2, h3⟩
theorem RB_Gp {S F : Nat} {ro pa la dp : Nat → Nat} (h : RB E S F ro pa la dp) {t : Nat} (ht : t < F) : ∀ (i k : Nat), i < k → k ≤ dp t → Gp E (ro t) i (ro (up pa t k)) k (la (up pa t (k - (i + 1))))
  | 0, k, hi, hk => by
    obtain ⟨k, rfl⟩ : ∃ k', k = k' + 1 := ⟨k - 1, by omega⟩
    exact ⟨_, k, rfl, RB_Nx h ht (by omega)⟩
  | i + 1, k, hi, hk => by
    obtain ⟨k, rfl⟩ : ∃ k', k = k' + 1 := ⟨k - 1, by omega⟩
    refine ⟨_, _, k, rfl, RB_Nx h ht (by omega), ?_⟩
    rw [show k + 1 - (i + 1 + 1) = k - (i + 1) by omega]
    exact RB_Gp h ht i k (by omega) (by omega)
theorem RB_top {S F : Nat} {ro pa la dp : Nat → Nat} (h : RB E S F ro pa la dp) {t : Nat} (ht : t < F) : ro (up pa t (dp t)) = S := by
  obtain ⟨u1, u2, -⟩ := up_dp h ht (dp t) (Nat.le_refl _)
  rw [Nat.sub_self] at u2
  have : up pa t (dp t) = 0 := by
    by_cases e : up pa t (dp t) = 0
    · exact e
    · have := (h.2.2.2.1 _ (by omega) u1).2.2; omega
  rw [this]; exact h.2.1
/-- the i-th step of the first row of steps -/
theorem RB_lab {S F : Nat} {ro pa la dp : Nat → Nat} (h : RB E S F ro pa la dp) {t i : Nat} (ht : t < F) (hi : i < dp t) : Gp E (ro t) i S (dp t) (la (up pa t (dp t - (i + 1)))) := by
  have := RB_Gp h ht i (dp t) hi (Nat.le_refl _)
  rw [RB_top h ht] at this; exact this
/-- how many are within so many steps -/
def aOr (E : Nat → Nat → Nat → Prop) (S n x : Nat) : Prop := ∃ F ro dp, FB E S F ro dp ∧ (∀ j, j < F → ro j < 5040) ∧ x = cnt (fun j => decide (dp j ≤ n)) F
theorem FB_cnt {S F n : Nat} {ro dp : Nat → Nat} {g : Nat → Bool} (h : FB E S F ro dp) (hM : ∀ j, j < F → ro j < 5040) (hg : ∀ k, k < 5040 → (g k = true ↔ ∃ d, d ≤ n ∧ Ds E S k d)) : cnt g 5040 = cnt (fun j => decide (dp j ≤ n)) F := by
  refine cnt_img h.2.2.2.2.2.1 hM (fun k hk => ?_)
  rw [hg k hk]
  constructor
  · rintro ⟨d, h1, h2⟩
    obtain ⟨j, j1, j2, j3⟩ := (FB_iff h).mp h2
    exact ⟨j, j1, j2, decide_eq_true (by omega)⟩
  · rintro ⟨j, j1, j2, j3⟩
    exact ⟨dp j, of_decide_eq_true j3, (FB_iff h).mpr ⟨j, j1, j2, rfl⟩⟩
theorem aOr_un {S n x y : Nat} (h : aOr E S n x) (h' : aOr E S n y) : x = y := by
  obtain ⟨F, ro, dp, a1, a2, rfl⟩ := h
  obtain ⟨F', ro', dp', b1, b2, rfl⟩ := h'
  have hg : ∀ k, k < 5040 → (decide (0 < cnt (fun j => decide (ro j = k ∧ dp j ≤ n)) F) = true ↔ ∃ d, d ≤ n ∧ Ds E S k d) := by
    intro k _
    rw [decide_eq_true_eq]
    constructor
    · intro h
      by_cases q : ∃ j, j < F ∧ ro j = k ∧ dp j ≤ n
      · obtain ⟨j, j1, j2, j3⟩ := q
        exact ⟨dp j, j3, (FB_iff a1).mpr ⟨j, j1, j2, rfl⟩⟩
      · exfalso
        have : cnt (fun j => decide (ro j = k ∧ dp j ≤ n)) F = cnt (fun _ => false) F := cnt_congr (fun j hj => decide_eq_false (fun w => q ⟨j, hj, w.1, w.2⟩))
        have z : ∀ n, cnt (fun _ => false) n = 0 := by
          intro n
          induction n with
          | zero => rfl
          | succ n ih => rw [cnt_succ, ih]; rfl
        rw [this, z] at h; omega
    · rintro ⟨d, h1, h2⟩
      obtain ⟨j, j1, j2, j3⟩ := (FB_iff a1).mp h2
      have h3 := cnt_mono (f := fun j => decide (ro j = k ∧ dp j ≤ n)) (a := j + 1) (d := F - (j + 1))
      rw [show j + 1 + (F - (j + 1)) = F by omega, cnt_succ, if_pos (decide_eq_true ⟨j2, by omega⟩)] at h3
      omega
  rw [← FB_cnt a1 a2 hg, ← FB_cnt b1 b2 hg]
/-- the most steps -/
def aMo (E : Nat → Nat → Nat → Prop) (S x : Nat) : Prop := (∃ b, Ds E S b x) ∧ ∀ b d, Ds E S b d → d ≤ x
theorem aMo_un {S x y : Nat} (h : aMo E S x) (h' : aMo E S y) : x = y := by
  obtain ⟨⟨b, h1⟩, h2⟩ := h
  obtain ⟨⟨b', h1'⟩, h2'⟩ := h'
  exact Nat.le_antisymm (h2' b x h1) (h2 b' y h1')
theorem FB_most {S F : Nat} {ro dp : Nat → Nat} (h : FB E S F ro dp) : aMo E S (dp (F - 1)) := by
  have h0 := h.1
  refine ⟨⟨_, FB_Ds h (show F - 1 < F by omega)⟩, fun b d hd => ?_⟩
  obtain ⟨j, j1, j2, j3⟩ := (FB_iff h).mp hd
  rw [← j3]
  exact h.2.2.2.2.2.2 j (F - 1) (by omega) (by omega)
end ANS
