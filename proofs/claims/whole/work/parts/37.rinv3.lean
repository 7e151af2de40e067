/-! what holds of the machine, sign by sign -/
section STP2
variable {b : Nat → Int} {n : Nat}
/-- what is moved from what waits to what is written keeps the sum of both -/
theorem cod_pop {m x : Nat} {s : pS} {a st k c v : Nat} {t : Bool} {f : Nat} (hw : (cod s).length + (p_p s).length + 1 ≤ p_a s) (ha : p_a s < a) : (cod (mkP a st k c v t (p_d s) (p_u s) (popG m (p_p s) (p_w s)).2 (x :: (popG m (p_p s) (p_w s)).1) f)).length + (x :: (popG m (p_p s) (p_w s)).1).length + 1 ≤ a := by
  show (fl (p_d s) ++ p_u s ++ (popG m (p_p s) (p_w s)).2).length + (x :: (popG m (p_p s) (p_w s)).1).length + 1 ≤ a
  have hlen := popG_len (m := m) (p := p_p s) (c := p_w s)
  unfold cod at hw
  simp only [List.length_append, List.length_cons] at hw ⊢
  omega
theorem tkF_Inv {s : pS} (hI : Inv n s) (hs : (p_s s = 3 ∧ p_k s = 2) ∨ p_s s = 4) (hf : p_f (tkF b n s) = 0) : Inv n (tkF b n s) ∧ (p_a s < p_a (tkF b n s) ∨ p_s (tkF b n s) = 5) := by
  have hI' := hI
  obtain ⟨ha, hw, hd, hv, hc, hct, hdl, hsh⟩ := hI
  have hal := at_le (b := b) ha
  have hic : inC s = 1 := by unfold inC; rw [if_neg (by omega)]
  have pops : ∀ m, 1 ≤ m ∧ m ≤ 3 → bO m (popG m (p_p s) (p_w s)).1 ∧ dep (popG m (p_p s) (p_w s)).1 ≤ dep (p_p s) ∧ opn (popG m (p_p s) (p_w s)).1 = opn (p_p s) ∧ tyr (popG m (p_p s) (p_w s)).2 [] = some (true :: pnd (popG m (p_p s) (p_w s)).1) := by
    intro m hm
    rcases hsh with ⟨h0, -⟩ | ⟨h0, -⟩ | ⟨h0, h1, h2, h3⟩ | ⟨h0, -⟩ | ⟨h0, h1, h2, h3⟩
    · omega
    · omega
    · have k2 : p_k s = 2 := by omega
      rw [k2] at h2
      obtain ⟨i1, i2, i3, i4, i5⟩ := a2_pop (m := m) hm (c := p_w s) h2
      have := popG_ty h3 i2
      rw [i3] at this
      exact ⟨i1, i4, i5, this⟩
    · omega
    · obtain ⟨i1, i2, i3, i4, i5⟩ := bO_pop (m := m) hm (c := p_w s) h2
      have := popG_ty h3 i2
      rw [i3] at this
      exact ⟨i1, i4, i5, this⟩
  have htu : p_t s = true ∧ tyr (p_u s) [] = some [false] := by
    rcases hsh with ⟨h0, -⟩ | ⟨h0, -⟩ | ⟨h0, h1, h2, h3⟩ | ⟨h0, -⟩ | ⟨h0, h1, h2, h3⟩
    · omega
    · omega
    · rcases h1 with ⟨k0, -⟩ | ⟨-, kt⟩
      · omega
      · exact kt
    · omega
    · exact h1
  unfold tkF at hf ⊢
  by_cases e1 : sg0 b n s = 312
  · rw [if_pos e1]
    obtain ⟨j1, j2, j3, j4⟩ := pops 2 (by omega)
    have hat := at_lt (b := b) ha (by omega)
    refine ⟨⟨hal.2, ?_, ?_, hv, hc, hct, ?_, ?_⟩, Or.inl hat⟩
    · exact cod_pop (by omega) hat
    · show dep (13 :: _) ≤ 10
      rw [dep_cons, if_neg (by omega)]; omega
    · show (p_d s).length + 1 = p_c s; omega
    · refine Or.inr (Or.inr (Or.inr (Or.inl ⟨rfl, htu, Or.inr (Or.inr (Or.inl ⟨rfl, by omega, j1⟩)), ?_⟩)))
      exact j4
  · rw [if_neg e1] at hf ⊢
    by_cases e2 : sg0 b n s = 313
    · rw [if_pos e2]
      obtain ⟨j1, j2, j3, j4⟩ := pops 1 (by omega)
      have hat := at_lt (b := b) ha (by omega)
      refine ⟨⟨hal.2, ?_, ?_, hv, hc, hct, ?_, ?_⟩, Or.inl hat⟩
      · exact cod_pop (by omega) hat
      · show dep (14 :: _) ≤ 10
        rw [dep_cons, if_neg (by omega)]; omega
      · show (p_d s).length + 1 = p_c s; omega
      · refine Or.inr (Or.inr (Or.inr (Or.inl ⟨rfl, htu, Or.inr (Or.inr (Or.inr ⟨rfl, by omega, j1⟩)), ?_⟩)))
        exact j4
    · rw [if_neg e2] at hf ⊢
      by_cases e3 : opn (p_p s) = 0
      · rw [if_pos e3] at hf ⊢
        have := tkE_Inv hI' (by omega) hf
        exact ⟨this.1, this.2.1⟩
      · rw [if_neg e3] at hf ⊢
        by_cases e4 : sg0 b n s = 93
        · rw [if_pos e4]
          obtain ⟨j1, j2, j3, j4⟩ := pops 1 (by omega)
          have hat := at_lt (b := b) ha (by omega)
          obtain ⟨q, hq, hq3⟩ := (bO1 j1 popG_stop).2 (by rw [j3]; exact e3)
          have hlen := popG_len (m := 1) (p := p_p s) (c := p_w s)
          rw [hq] at j2 j4 hlen ⊢
          refine ⟨⟨hal.2, ?_, ?_, hv, hc, hct, ?_, ?_⟩, Or.inl hat⟩
          · show (fl (p_d s) ++ p_u s ++ (popG 1 (p_p s) (p_w s)).2).length + q.length + 1 ≤ at1 b n s
            unfold cod at hw
            simp only [List.length_append, List.length_cons] at hw hlen ⊢
            omega
          · show dep q ≤ 10
            rw [dep_cons, if_pos (Or.inr rfl)] at j2; omega
          · show (p_d s).length + 1 = p_c s; omega
          · refine Or.inr (Or.inr (Or.inr (Or.inr ⟨rfl, htu, hq3, ?_⟩)))
            exact j4
        · rw [if_neg e4] at hf; exact absurd hf flt_f
theorem wrk_r {sg : Nat} (h : wrk sg ≠ 18) : (2 ≤ wrk sg ∧ wrk sg ≤ 6) ∧ sg ≠ 256 ∧ sg < 60 := by
  unfold wrk at h ⊢
  repeat' split at h
  all_goals first | omega | (simp_all <;> omega) | simp_all
theorem cmpo_r {sg : Nat} (h : cmpo sg ≠ 18) : (7 ≤ cmpo sg ∧ cmpo sg ≤ 11) ∧ sg ≠ 256 := by
  unfold cmpo at h ⊢
  repeat' split at h
  all_goals first | omega | (simp_all <;> omega) | simp_all
theorem tkB_Inv {s : pS} (hI : Inv n s) (hs : p_s s = 3) (hf : p_f (tkB b n s) = 0) : Inv n (tkB b n s) ∧ (p_a s < p_a (tkB b n s) ∨ p_s (tkB b n s) = 5) := by
  have hI' := hI
  obtain ⟨ha, hw, hd, hv, hc, hct, hdl, hsh⟩ := hI
  have hal := at_le (b := b) ha
  have hic : inC s = 1 := by unfold inC; rw [if_neg (by omega)]
  have hsh' : kOK s ∧ aO (RK (p_k s)) 7 (p_p s) ∧ tyr (p_w s) [] = some (false :: pnd (p_p s)) := by
    rcases hsh with ⟨h0, -⟩ | ⟨h0, -⟩ | ⟨h0, h1, h2, h3⟩ | ⟨h0, -⟩ | ⟨h0, -⟩
    · omega
    · omega
    · exact ⟨h1, h2, h3⟩
    · omega
    · omega
  obtain ⟨h1, h2, h3⟩ := hsh'
  unfold tkB at hf ⊢
  by_cases e1 : wrk (sg0 b n s) ≠ 18
  · rw [if_pos e1]
    obtain ⟨w1, w2, -⟩ := wrk_r e1
    have hst := str_a w1
    obtain ⟨i1, i2, i3, -, i5⟩ := aO_pop (k := p_k s) (m := str (wrk (sg0 b n s))) (by omega) (by omega) (c := p_w s) h2
    have hat := at_lt (b := b) ha w2
    have := popG_ty h3 i2
    rw [i3] at this
    refine ⟨⟨hal.2, ?_, ?_, hv, hc, hct, ?_, ?_⟩, Or.inl hat⟩
    · exact cod_pop (by omega) hat
    · show dep (_ :: _) ≤ 10
      rw [dep_cons, if_neg (by omega), i5]; omega
    · show (p_d s).length + 1 = p_c s; omega
    · refine Or.inr (Or.inl ⟨rfl, h1, Or.inl ⟨w1.1, w1.2, by omega, i1⟩, ?_⟩)
      show tyr (popG _ (p_p s) (p_w s)).2 [] = some (pnd (_ :: _))
      rw [pnd_cons, if_neg (by omega), if_pos (by omega)]; exact this
  · rw [if_neg e1] at hf ⊢
    by_cases e2 : p_k s = 1
    · rw [if_pos e2] at hf ⊢
      by_cases e3 : cmpo (sg0 b n s) = 18
      · rw [if_pos e3] at hf; exact absurd hf flt_f
      · rw [if_neg e3] at hf ⊢
        by_cases e4 : 60 ≤ p_v s
        · rw [if_pos e4] at hf; exact absurd hf flt_f
        · rw [if_neg e4]
          obtain ⟨w1, w2⟩ := cmpo_r e3
          obtain ⟨i1, i2, i3, i4, i5⟩ := aO_pop (k := p_k s) (m := 4) (by omega) (by omega) (c := p_w s) h2
          have hat := at_lt (b := b) ha w2
          have := popG_ty h3 i2
          rw [i3] at this
          have hr := i4 rfl
          refine ⟨⟨hal.2, ?_, ?_, ?_, hc, hct, ?_, ?_⟩, Or.inl hat⟩
          · exact cod_pop (by omega) hat
          · show dep (_ :: _) ≤ 10
            rw [dep_cons, if_neg (by omega), i5]; omega
          · show p_v s + 1 ≤ 60; omega
          · show (p_d s).length + 1 = p_c s; omega
          · refine Or.inr (Or.inl ⟨rfl, ?_, Or.inr (Or.inr (Or.inr ⟨rfl, _, _, rfl, w1.1, w1.2, ?_⟩)), ?_⟩)
            · rcases h1 with ⟨k0, -⟩ | ⟨-, kt⟩
              · omega
              · exact Or.inr ⟨Or.inr rfl, kt⟩
            · rcases hr with ⟨z, -⟩ | ⟨-, z⟩ | ⟨z, -⟩
              · omega
              · exact z
              · omega
            · show tyr (popG _ (p_p s) (p_w s)).2 [] = some (pnd (_ :: _))
              rw [pnd_cons, if_neg (by omega), if_pos (by omega)]; exact this
    · rw [if_neg e2] at hf ⊢
      by_cases e3 : p_k s = 2
      · rw [if_pos e3] at hf ⊢
        exact tkF_Inv hI' (Or.inl ⟨hs, e3⟩) hf
      · rw [if_neg e3] at hf ⊢
        have hk : p_k s = 0 ∧ p_t s = false ∧ p_u s = [] := by
          rcases h1 with h1 | ⟨z, -⟩
          · exact h1
          · omega
        by_cases e4 : sg0 b n s = 310
        · rw [if_pos e4]
          rw [hk.1] at h2
          obtain ⟨i1, i2, i3, i4⟩ := a0_pop (c := p_w s) h2
          have hat := at_lt (b := b) ha (by omega)
          have := popG_ty h3 i2
          rw [i3, i1] at this
          have hlen := popG_len (m := 1) (p := p_p s) (c := p_w s)
          rw [i1] at hlen ⊢
          refine ⟨⟨hal.2, ?_, Nat.zero_le _, hv, hc, hct, ?_, ?_⟩, Or.inl hat⟩
          · show (fl (p_d s) ++ (popG 1 (p_p s) (p_w s)).2 ++ []).length + 0 + 1 ≤ at1 b n s
            unfold cod at hw
            simp only [List.length_append, List.length_nil] at hw hlen ⊢
            omega
          · show (p_d s).length + 1 = p_c s; omega
          · exact Or.inr (Or.inr (Or.inr (Or.inl ⟨rfl, ⟨rfl, this⟩, trivial, rfl⟩)))
        · rw [if_neg e4] at hf ⊢
          have := tkE_Inv hI' (Or.inl ⟨hs, hk.1⟩) hf
          exact ⟨this.1, this.2.1⟩
theorem tkX_Inv {s : pS} (hI : Inv n s) (hs : p_s s = 2) (hf : p_f (tkX b n s) = 0) : Inv n (tkX b n s) ∧ p_a s < p_a (tkX b n s) := by
  have hI' := hI
  obtain ⟨ha, hw, hd, hv, hc, hct, hdl, hsh⟩ := hI
  have hal := at_le (b := b) ha
  have hic : inC s = 1 := by unfold inC; rw [if_neg (by omega)]
  unfold tkX at hf ⊢
  by_cases e1 : sg0 b n s = 91 ∨ sg0 b n s = 311
  · rw [if_pos e1] at hf ⊢
    by_cases e2 : 10 ≤ dep (p_p s)
    · rw [if_pos e2] at hf; exact absurd hf flt_f
    · rw [if_neg e2]
      have hat := at_lt (b := b) ha (by omega)
      have ho : (if sg0 b n s = 91 then 15 else 12) = 12 ∨ (if sg0 b n s = 91 then 15 else 12) = 15 := by split <;> omega
      generalize (if sg0 b n s = 91 then 15 else 12) = o at ho ⊢
      refine ⟨⟨hal.2, ?_, ?_, hv, hc, hct, ?_, ?_⟩, hat⟩
      · show (cod s).length + (o :: p_p s).length + 1 ≤ at1 b n s
        simp only [List.length_cons]; omega
      · show dep (o :: p_p s) ≤ 10
        rw [dep_cons, if_pos ho]; omega
      · show (p_d s).length + 1 = p_c s; omega
      · rcases hsh with ⟨h0, -⟩ | ⟨h0, -⟩ | ⟨h0, -⟩ | ⟨h0, h1, h2, h3⟩ | ⟨h0, -⟩
        · omega
        · omega
        · omega
        · refine Or.inr (Or.inr (Or.inr (Or.inl ⟨rfl, h1, ?_, ?_⟩)))
          · rcases ho with z | z
            · exact Or.inr (Or.inl ⟨z, h2⟩)
            · exact Or.inl ⟨z, h2⟩
          · show tyr (p_w s) [] = some (pnd (o :: p_p s))
            rw [pnd_cons, if_pos ho]; exact h3
        · omega
  · rw [if_neg e1] at hf ⊢
    exact tkV_Inv hI' (Or.inr ⟨hs, rfl⟩) hf
theorem tkC_Inv {s : pS} (hI : Inv n s) (hs : p_s s = 0) (hf : p_f (tkC b n s) = 0) : Inv n (tkC b n s) ∧ p_a s < p_a (tkC b n s) := by
  obtain ⟨ha, hw, hd, hv, hc, hct, hdl, hsh⟩ := hI
  have hal := at_le (b := b) ha
  have hic : inC s = 0 := by unfold inC; rw [if_pos (by omega)]
  unfold tkC at hf ⊢
  by_cases e1 : sg0 b n s ≠ 303
  · rw [if_pos e1] at hf; exact absurd hf flt_f
  · rw [if_neg e1] at hf ⊢
    by_cases e2 : 12 ≤ p_c s
    · rw [if_pos e2] at hf; exact absurd hf flt_f
    · rw [if_neg e2]
      have hat := at_lt (b := b) ha (by omega)
      have hp : p_p s = [] ∧ p_w s = [] ∧ p_u s = [] := by
        rcases hsh with ⟨h0, h1⟩ | ⟨h0, -⟩ | ⟨h0, -⟩ | ⟨h0, -⟩ | ⟨h0, -⟩
        · exact h1
        · omega
        · omega
        · omega
        · omega
      refine ⟨⟨hal.2, ?_, hd, hv, ?_, hct, ?_, ?_⟩, hat⟩
      · show (fl (p_d s) ++ [] ++ []).length + (p_p s).length + 1 ≤ at1 b n s
        unfold cod at hw
        rw [hp.2.1, hp.2.2] at hw
        omega
      · show p_c s + 1 ≤ 12; omega
      · show (p_d s).length + 1 = p_c s + 1; omega
      · refine Or.inr (Or.inl ⟨rfl, Or.inl ⟨rfl, rfl, rfl⟩, ?_, ?_⟩)
        · show aO (RK 0) 7 (p_p s)
          rw [hp.1]; exact Or.inl ⟨rfl, rfl⟩
        · show tyr [] [] = some (pnd (p_p s))
          rw [hp.1]; rfl
theorem stp_Inv {s : pS} (hI : Inv n s) (h0 : p_f s = 0) (h5 : p_s s ≠ 5) (hf : p_f (stp b n s) = 0) : Inv n (stp b n s) ∧ (p_a s < p_a (stp b n s) ∨ p_s (stp b n s) = 5) := by
  have hst : p_s s = 0 ∨ p_s s = 1 ∨ p_s s = 2 ∨ p_s s = 3 ∨ p_s s = 4 := by
    rcases hI.2.2.2.2.2.2.2 with ⟨h, -⟩ | ⟨h, -⟩ | ⟨h, -⟩ | ⟨h, -⟩ | ⟨h, -⟩ <;> omega
  unfold stp at hf ⊢
  rw [if_neg (by omega)] at hf ⊢
  rcases hst with e | e | e | e | e
  · rw [if_pos e] at hf ⊢
    have := tkC_Inv hI e hf
    exact ⟨this.1, Or.inl this.2⟩
  · rw [if_neg (by omega), if_pos e] at hf ⊢
    have := tkV_Inv hI (Or.inl ⟨e, rfl⟩) hf
    exact ⟨this.1, Or.inl this.2⟩
  · rw [if_neg (by omega), if_neg (by omega), if_pos e] at hf ⊢
    have := tkX_Inv hI e hf
    exact ⟨this.1, Or.inl this.2⟩
  · rw [if_neg (by omega), if_neg (by omega), if_neg (by omega), if_pos e] at hf ⊢
    exact tkB_Inv hI e hf
  · rw [if_neg (by omega), if_neg (by omega), if_neg (by omega), if_neg (by omega)] at hf ⊢
    exact tkF_Inv hI (Or.inr e) hf
end STP2
