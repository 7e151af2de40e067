/-! what holds of the machine over a rule's signs -/
def flc (c : cS1) : List Nat := match c.2 with
  | none => c.1 ++ [16]
  | some t => c.1 ++ t ++ [17]
def fl (d : List cS1) : List Nat := d.flatMap flc
def cod (s : pS) : List Nat := fl (p_d s) ++ p_u s ++ p_w s
def ctO (c : cS1) : Prop := tyr c.1 [] = some [false] ∧ ∀ t, c.2 = some t → tyr t [] = some [true]
def inC (s : pS) : Nat := if p_s s = 0 ∨ p_s s = 5 then 0 else 1
def kOK (s : pS) : Prop := (p_k s = 0 ∧ p_t s = false ∧ p_u s = []) ∨ ((p_k s = 1 ∨ p_k s = 2) ∧ p_t s = true ∧ tyr (p_u s) [] = some [false])
def shp (s : pS) : Prop := ((p_s s = 0 ∨ p_s s = 5) ∧ p_p s = [] ∧ p_w s = [] ∧ p_u s = []) ∨
  (p_s s = 1 ∧ kOK s ∧ aO (RK (p_k s)) 7 (p_p s) ∧ tyr (p_w s) [] = some (pnd (p_p s))) ∨
  (p_s s = 3 ∧ kOK s ∧ aO (RK (p_k s)) 7 (p_p s) ∧ tyr (p_w s) [] = some (false :: pnd (p_p s))) ∨
  (p_s s = 2 ∧ (p_t s = true ∧ tyr (p_u s) [] = some [false]) ∧ bO 3 (p_p s) ∧ tyr (p_w s) [] = some (pnd (p_p s))) ∨
  (p_s s = 4 ∧ (p_t s = true ∧ tyr (p_u s) [] = some [false]) ∧ bO 3 (p_p s) ∧ tyr (p_w s) [] = some (true :: pnd (p_p s)))
def Inv (n : Nat) (s : pS) : Prop := p_a s ≤ n ∧ (cod s).length + (p_p s).length + inC s ≤ p_a s ∧ dep (p_p s) ≤ 10 ∧ p_v s ≤ 60 ∧ p_c s ≤ 12 ∧ (∀ c, c ∈ p_d s → ctO c) ∧ (p_d s).length + inC s = p_c s ∧ shp s
theorem Inv_00 {n : Nat} : Inv n s00 := ⟨Nat.zero_le _, Nat.le_refl _, Nat.zero_le _, Nat.zero_le _, Nat.zero_le _, (fun c h => by cases h), rfl, Or.inl ⟨Or.inl rfl, rfl, rfl, rfl⟩⟩
theorem fl_app {d d' : List cS1} : fl (d ++ d') = fl d ++ fl d' := by unfold fl; rw [List.flatMap_append]
theorem fl_one {c : cS1} : fl [c] = flc c := by unfold fl; simp
section STP
variable {b : Nat → Int} {n : Nat}
theorem flt_f {s : pS} {kd : Nat} : p_f (flt b n s kd) ≠ 0 := by show 1 + 8 * _ + kd ≠ 0; omega
theorem at_le {s : pS} (h : p_a s ≤ n) : p_a s ≤ at1 b n s ∧ at1 b n s ≤ n := by
  have h1 := skp_le (b := b) h
  have h2 := en_le (b := b) h1.2
  unfold at1; omega
theorem at_lt {s : pS} (h : p_a s ≤ n) (hs : sg0 b n s ≠ 256) : p_a s < at1 b n s := by
  have h1 := skp_le (b := b) h
  unfold sg0 at hs
  have : skp b n (p_a s) < n := by
    by_cases e : skp b n (p_a s) < n
    · exact e
    · exact absurd (sgn_end.mpr (by omega)) hs
  have := en_lt (b := b) this
  unfold at1; omega
theorem vtok_ty {s : pS} {ts : List Bool} (h1 : ¬ (sg0 b n s ≠ 257 ∧ ¬ (300 ≤ sg0 b n s ∧ sg0 b n s < 310))) (ht : ts.length < 39) : tyt (vtok b n s) ts = some (false :: ts) := by
  unfold vtok tyt
  by_cases e : sg0 b n s = 257
  · have := numb_r (b := b) (n := n) (p := skp b n (p_a s))
    rw [if_pos e, if_pos (by omega), if_pos ⟨ht, by omega⟩]
  · rw [if_neg e, if_neg (by omega), if_pos (by omega), if_pos ⟨ht, by omega⟩]
theorem tkV_Inv {s : pS} {k : Nat} (hI : Inv n s) (hs : (p_s s = 1 ∧ k = p_k s) ∨ (p_s s = 2 ∧ k = 1)) (hf : p_f (tkV b n s k) = 0) : Inv n (tkV b n s k) ∧ p_a s < p_a (tkV b n s k) := by
  obtain ⟨ha, hw, hd, hv, hc, hct, hdl, hsh⟩ := hI
  unfold tkV at hf ⊢
  by_cases e1 : sg0 b n s ≠ 257 ∧ ¬ (300 ≤ sg0 b n s ∧ sg0 b n s < 310)
  · rw [if_pos e1] at hf; exact absurd hf flt_f
  · rw [if_neg e1] at hf ⊢
    by_cases e2 : sg0 b n s = 257 ∧ numb b n (skp b n (p_a s)) = -1
    · rw [if_pos e2] at hf; exact absurd hf flt_f
    · rw [if_neg e2] at hf ⊢
      by_cases e3 : 60 ≤ p_v s
      · rw [if_pos e3] at hf; exact absurd hf flt_f
      · rw [if_neg e3]
        have hal := at_le (b := b) ha
        have hat := at_lt (b := b) ha (by omega)
        have hic : inC s = 1 := by unfold inC; rw [if_neg (by omega)]
        refine ⟨⟨hal.2, ?_, hd, ?_, hc, hct, ?_, ?_⟩, hat⟩
        · show (fl (p_d s) ++ p_u s ++ (p_w s ++ [vtok b n s])).length + (p_p s).length + 1 ≤ at1 b n s
          unfold cod at hw
          simp only [List.length_append, List.length_cons, List.length_nil] at hw ⊢
          omega
        · show p_v s + 1 ≤ 60; omega
        · show (p_d s).length + 1 = p_c s; omega
        · have fin : kOK (mkP (at1 b n s) 3 k (p_c s) (p_v s + 1) (p_t s) (p_d s) (p_u s) (p_w s ++ [vtok b n s]) (p_p s) 0) → aO (RK k) 7 (p_p s) → tyr (p_w s) [] = some (pnd (p_p s)) → shp (mkP (at1 b n s) 3 k (p_c s) (p_v s + 1) (p_t s) (p_d s) (p_u s) (p_w s ++ [vtok b n s]) (p_p s) 0) := by
            intro h1 h2 h3
            refine Or.inr (Or.inr (Or.inl ⟨rfl, h1, h2, ?_⟩))
            show tyr (p_w s ++ [vtok b n s]) [] = some (false :: pnd (p_p s))
            have := aO_len (by omega) h2 hd
            rw [tyr_app h3, tyr_cons, vtok_ty e1 (by omega)]; rfl
          rcases hsh with ⟨h0, -⟩ | ⟨h0, h1, h2, h3⟩ | ⟨h0, -⟩ | ⟨h0, h1, h2, h3⟩ | ⟨h0, -⟩
          · omega
          · have hk : k = p_k s := by omega
            subst hk
            exact fin h1 h2 h3
          · omega
          · have hk : k = 1 := by omega
            subst hk
            refine fin (Or.inr ⟨Or.inl rfl, h1⟩) ?_ h3
            cases hp : p_p s with
            | nil => exact Or.inr (Or.inl ⟨rfl, trivial⟩)
            | cons o q => rw [hp] at h2; exact Or.inr (Or.inr (Or.inl ⟨rfl, h2⟩))
          · omega
theorem tkE_Inv {s : pS} (hI : Inv n s) (hs : (p_s s = 3 ∧ p_k s = 0) ∨ (p_s s = 3 ∧ p_k s = 2 ∧ opn (p_p s) = 0) ∨ (p_s s = 4 ∧ opn (p_p s) = 0)) (hf : p_f (tkE b n s) = 0) : Inv n (tkE b n s) ∧ (p_a s < p_a (tkE b n s) ∨ p_s (tkE b n s) = 5) ∧ (popG 1 (p_p s) (p_w s)).1 = [] := by
  obtain ⟨ha, hw, hd, hv, hc, hct, hdl, hsh⟩ := hI
  unfold tkE at hf ⊢
  by_cases e1 : sg0 b n s ≠ 59 ∧ sg0 b n s ≠ 256
  · rw [if_pos e1] at hf; exact absurd hf flt_f
  · rw [if_neg e1] at hf ⊢
    have hal := at_le (b := b) ha
    have hic : inC s = 1 := by unfold inC; rw [if_neg (by omega)]
    have hlen := popG_len (m := 1) (p := p_p s) (c := p_w s)
    have main : (popG 1 (p_p s) (p_w s)).1 = [] ∧ ctO (if p_t s = true then (p_u s, some (popG 1 (p_p s) (p_w s)).2) else ((popG 1 (p_p s) (p_w s)).2, none)) ∧ (p_t s = false → p_u s = []) := by
      rcases hsh with ⟨h0, -⟩ | ⟨h0, -⟩ | ⟨h0, h1, h2, h3⟩ | ⟨h0, -⟩ | ⟨h0, h1, h2, h3⟩
      · omega
      · omega
      · rcases h1 with ⟨k0, kt, ku⟩ | ⟨k0, kt, ku⟩
        · rw [k0] at h2
          obtain ⟨i1, i2, i3, i4⟩ := a0_pop (c := p_w s) h2
          have := popG_ty h3 i2
          rw [i1, i3] at this
          refine ⟨i1, ?_, fun _ => ku⟩
          rw [if_neg (by rw [kt]; decide)]
          exact ⟨this, fun t z => by cases z⟩
        · have k2 : p_k s = 2 := by omega
          rw [k2] at h2
          obtain ⟨i1, i2, i3, i4, i5⟩ := a2_pop (m := 1) (by omega) (c := p_w s) h2
          have e0 := (bO1 i1 popG_stop).1 (by rw [i5]; omega)
          have := popG_ty h3 i2
          rw [e0, i3] at this
          refine ⟨e0, ?_, fun z => by rw [kt] at z; cases z⟩
          rw [if_pos kt]
          exact ⟨ku, fun t z => by cases z; exact this⟩
      · omega
      · obtain ⟨i1, i2, i3, i4, i5⟩ := bO_pop (m := 1) (by omega) (c := p_w s) h2
        have e0 := (bO1 i1 popG_stop).1 (by rw [i5]; omega)
        have := popG_ty h3 i2
        rw [e0, i3] at this
        refine ⟨e0, ?_, fun z => by rw [h1.1] at z; cases z⟩
        rw [if_pos h1.1]
        exact ⟨h1.2, fun t z => by cases z; exact this⟩
    obtain ⟨m1, m2, m3⟩ := main
    rw [m1] at hlen
    refine ⟨⟨hal.2, ?_, ?_, hv, hc, ?_, ?_, ?_⟩, ?_, m1⟩
    · show (fl (p_d s ++ [_]) ++ [] ++ []).length + (popG 1 (p_p s) (p_w s)).1.length + inC _ ≤ at1 b n s
      rw [m1, fl_app, fl_one]
      have hi2 : ∀ (x : pS), (p_s x = 0 ∨ p_s x = 5) → inC x = 0 := fun x hx => by unfold inC; rw [if_pos hx]
      rw [hi2 _ (by show (if sg0 b n s = 59 then 0 else 5) = 0 ∨ (if sg0 b n s = 59 then 0 else 5) = 5; split <;> omega)]
      unfold cod at hw
      simp only [List.length_append, List.length_nil, Nat.add_zero] at hw hlen ⊢
      cases ht : p_t s with
      | false =>
        rw [if_neg (by decide)]
        have := m3 ht
        rw [this] at hw
        unfold flc
        simp only [List.length_append, List.length_cons, List.length_nil] at hw ⊢
        omega
      | true =>
        rw [if_pos rfl]
        unfold flc
        simp only [List.length_append, List.length_cons, List.length_nil] at hw ⊢
        omega
    · show dep (popG 1 (p_p s) (p_w s)).1 ≤ 10
      rw [m1]; exact Nat.zero_le _
    · intro c hcm
      have hcm : c ∈ p_d s ++ [_] := hcm
      rw [List.mem_append, List.mem_singleton] at hcm
      rcases hcm with hcm | hcm
      · exact hct c hcm
      · rw [hcm]; exact m2
    · show (p_d s ++ [_]).length + inC _ = p_c s
      have hi2 : ∀ (x : pS), (p_s x = 0 ∨ p_s x = 5) → inC x = 0 := fun x hx => by unfold inC; rw [if_pos hx]
      rw [hi2 _ (by show (if sg0 b n s = 59 then 0 else 5) = 0 ∨ (if sg0 b n s = 59 then 0 else 5) = 5; split <;> omega), List.length_append]
      simp only [List.length_cons, List.length_nil]
      omega
    · refine Or.inl ⟨?_, m1, rfl, rfl⟩
      show (if sg0 b n s = 59 then 0 else 5) = 0 ∨ (if sg0 b n s = 59 then 0 else 5) = 5
      split <;> omega
    · by_cases e : sg0 b n s = 59
      · left; exact at_lt ha (by omega)
      · right; show (if sg0 b n s = 59 then 0 else 5) = 5; rw [if_neg e]
end STP
