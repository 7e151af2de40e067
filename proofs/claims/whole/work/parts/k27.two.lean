section AXP
variable {l : Launch} {G : ax_G} {D : va_G} {κ ρ : Nat → Nat} {A : Nat → Prop} {M : ax_M} {out : ax_E} {p : Program} {e : Env} {s : State} {m : MethodId} {args : Array Value} {below : List Frame} {meth : Method} {cd : Code} {pc : Nat} {ls : ax_L} {st : List Value} {w : ax_W} {lg : List Nat} {sl : Nat}
abbrev ax_SC (l : Launch) (D : va_G) (κ ρ : Nat → Nat) (A : Nat → Prop) (M : ax_M) (out : ax_E) (p : Program) (e : Env) (s : State) (m : MethodId) (args : Array Value) (below : List Frame) (meth : Method) (cd : Code) (c : ax_C) : Prop := ax_SW l D κ ρ A M out p e s m args below meth cd c.1 c.2.1 c.2.2.1 c.2.2.2.1 c.2.2.2.2.1 c.2.2.2.2.2
theorem ax_ch_t {P : Prop} {c1 c2 : ax_C} (h : P) : ax_ch [(P, c1)] c2 = c1 := if_pos h
theorem ax_ch_f {P : Prop} {c1 c2 : ax_C} (h : ¬ P) : ax_ch [(P, c1)] c2 = c2 := if_neg h
theorem ax_sw_tab {x : Int32} {d : ax_C} : ∀ {sws : List (Int32 × Nat)} {lo : Int} {os : List Int}, ax_sok pc sws lo os = true → (∃ (i t : Nat) (o : Int), os[i]? = some o ∧ x.toInt = lo + i ∧ (pc : Int) + o = (t : Int) ∧ ax_ch (ax_sw ls st w lg sl x sws) d = (t, ls, st, w, lg, sl)) ∨ ((x.toInt < lo ∨ lo + os.length ≤ x.toInt) ∧ ax_ch (ax_sw ls st w lg sl x sws) d = d)
  | [], lo, [], _ => Or.inr ⟨by simp; omega, rfl⟩
  | (v, t) :: sws, lo, o :: os, h => by
    simp only [ax_sok, Bool.and_eq_true, decide_eq_true_eq] at h
    obtain ⟨⟨h1, h2⟩, h3⟩ := h
    by_cases hx : x = v
    · refine Or.inl ⟨0, t, o, rfl, ?_, h2, if_pos hx⟩
      rw [hx, h1]; simp
    · have e1 : ax_ch (ax_sw ls st w lg sl x ((v, t) :: sws)) d = ax_ch (ax_sw ls st w lg sl x sws) d := if_neg hx
      have hxv : x.toInt ≠ lo := fun q => hx (Int32.toInt_inj.mp (by rw [q, h1]))
      rcases ax_sw_tab (x := x) (d := d) h3 with ⟨i, t', o', g1, g2, g3, g4⟩ | ⟨g1, g2⟩
      · exact Or.inl ⟨i + 1, t', o', g1, by rw [g2]; push_cast; omega, g3, e1.trans g4⟩
      · refine Or.inr ⟨?_, e1.trans g2⟩
        simp only [List.length_cons]
        push_cast
        omega
  | [], _, _ :: _, h => by simp [ax_sok] at h
  | _ :: _, _, [], h => by simp [ax_sok] at h
theorem ax_sw_look {x : Int32} {d : ax_C} {df : Int} (hd : (pc : Int) + df = (d.1 : Int)) (hdd : d = (d.1, ls, st, w, lg, sl)) : ∀ {sws : List (Int32 × Nat)} {ps : List (Int × Int)}, ax_lok pc sws ps = true → ∃ t : Nat, (pc : Int) + Op.lookupswitch.offset ps df x.toInt = (t : Int) ∧ ax_ch (ax_sw ls st w lg sl x sws) d = (t, ls, st, w, lg, sl)
  | [], [], _ => ⟨d.1, hd, hdd⟩
  | (v, t) :: sws, (kk, o) :: ps, h => by
    simp only [ax_lok, Bool.and_eq_true, decide_eq_true_eq] at h
    obtain ⟨⟨h1, h2⟩, h3⟩ := h
    by_cases hx : x = v
    · refine ⟨t, ?_, if_pos hx⟩
      subst hx
      simp [Op.lookupswitch.offset, h1, h2]
    · obtain ⟨t', g1, g2⟩ := ax_sw_look (x := x) hd hdd h3
      have hxv : ¬ kk = x.toInt := fun q => hx (Int32.toInt_inj.mp (by rw [← q, h1]))
      refine ⟨t', ?_, (if_neg hx).trans g2⟩
      rw [← g1]
      simp [Op.lookupswitch.offset, hxv]
  | [], _ :: _, h => by simp [ax_lok] at h
  | _ :: _, [], h => by simp [ax_lok] at h
set_option maxHeartbeats 4000000 in
theorem ax_two (hC : ax_Cx G D κ ρ A M out p s m args meth cd) {r : ax_R} (hrok : ax_rok G.2.1 G.2.2.2 M pc r = true) {cs : List (Prop × ax_C)} {d : ax_C} (hstep : ax_dor G pc r ls st w lg sl = some (.inr (.inl (cs, d)))) (k : ax_SC l D κ ρ A M out p e s m args below meth cd (ax_ch cs d)) : ax_SW l D κ ρ A M out p e s m args below meth cd pc ls st w lg sl := by
  obtain ⟨ins, len, a, b, dd, cv, cl, sws, isf, kp⟩ := r
  cases ins with
  | tableswitch df lo hi os =>
    simp only [ax_rok, Bool.and_eq_true, decide_eq_true_eq] at hrok
    obtain ⟨hdg, ⟨h1, h2⟩, h3⟩ := hrok
    simp only [ax_dor, ax_do] at hstep
    split at hstep
    · rename_i x r
      cases hstep
      intro H locs rr hI
      rcases ax_sw_tab (ls := ls) (st := r) (w := w) (lg := lg) (sl := sl) (x := x) (d := (a, ls, r, w, lg, sl)) h2 with ⟨i, t, o, g1, g2, g3, g4⟩ | ⟨g1, g2⟩
      · rw [g4] at k
        have hi : i < os.toList.length := (List.getElem?_eq_some_iff.mp g1).1
        refine lv_tableIn hC.1 hC.2.1 hdg (by omega) (by omega) (off := o) ?_ g3 (k H locs rr hI)
        rw [show (x.toInt - lo).toNat = i by omega, ← Array.getElem?_toList]
        exact g1
      · rw [g2] at k
        exact lv_tableOut hC.1 hC.2.1 hdg (by omega) h1 (k H locs rr hI)
    · cases hstep
  | lookupswitch df ps =>
    simp only [ax_rok, Bool.and_eq_true, decide_eq_true_eq] at hrok
    obtain ⟨hdg, ⟨h1, h2⟩, h3⟩ := hrok
    simp only [ax_dor, ax_do] at hstep
    split at hstep
    · rename_i x r
      cases hstep
      intro H locs rr hI
      obtain ⟨t, g1, g2⟩ := ax_sw_look (ls := ls) (st := r) (w := w) (lg := lg) (sl := sl) (x := x) (d := (a, ls, r, w, lg, sl)) h1 rfl h2
      rw [g2] at k
      exact lv_lookup hC.1 hC.2.1 hdg h3 rfl g1 (k H locs rr hI)
    · cases hstep
  | ifCond c o =>
    cases c <;>
    (simp only [ax_rok, Bool.and_eq_true, decide_eq_true_eq] at hrok
     obtain ⟨hd, rfl, ha⟩ := hrok
     simp only [ax_dor, ax_do] at hstep
     split at hstep
     · cases hstep
       first
       | exact as_if_eq hC hd ha (fun h => by rw [ax_ch_t h] at k; exact k) (fun h => by rw [ax_ch_f h] at k; exact k)
       | exact as_if_ne hC hd ha (fun h => by rw [ax_ch_f h] at k; exact k) (fun h => by rw [ax_ch_t h] at k; exact k)
       | exact as_if_lt hC hd ha (fun h => by rw [ax_ch_t h] at k; exact k) (fun h => by rw [ax_ch_f h] at k; exact k)
       | exact as_if_ge hC hd ha (fun h => by rw [ax_ch_t h] at k; exact k) (fun h => by rw [ax_ch_f h] at k; exact k)
       | exact as_if_gt hC hd ha (fun h => by rw [ax_ch_t h] at k; exact k) (fun h => by rw [ax_ch_f h] at k; exact k)
       | exact as_if_le hC hd ha (fun h => by rw [ax_ch_t h] at k; exact k) (fun h => by rw [ax_ch_f h] at k; exact k)
     · cases hstep)
  | if_icmp c o =>
    cases c <;>
    (simp only [ax_rok, Bool.and_eq_true, decide_eq_true_eq] at hrok
     obtain ⟨hd, rfl, ha⟩ := hrok
     simp only [ax_dor, ax_do] at hstep
     split at hstep
     · cases hstep
       first
       | exact as_icmp_eq hC hd ha (fun h => by rw [ax_ch_t h] at k; exact k) (fun h => by rw [ax_ch_f h] at k; exact k)
       | exact as_icmp_ne hC hd ha (fun h => by rw [ax_ch_f h] at k; exact k) (fun h => by rw [ax_ch_t h] at k; exact k)
       | exact as_icmp_lt hC hd ha (fun h => by rw [ax_ch_t h] at k; exact k) (fun h => by rw [ax_ch_f h] at k; exact k)
       | exact as_icmp_ge hC hd ha (fun h => by rw [ax_ch_t h] at k; exact k) (fun h => by rw [ax_ch_f h] at k; exact k)
       | exact as_icmp_gt hC hd ha (fun h => by rw [ax_ch_t h] at k; exact k) (fun h => by rw [ax_ch_f h] at k; exact k)
       | exact as_icmp_le hC hd ha (fun h => by rw [ax_ch_t h] at k; exact k) (fun h => by rw [ax_ch_f h] at k; exact k)
     · cases hstep)
  | putfield i =>
    simp only [ax_dor, ax_do, ax_pf] at hstep
    repeat' split at hstep
    all_goals cases hstep
  | _ => first
    | (simp [ax_rok] at hrok; done)
    | (simp only [ax_dor, ax_do] at hstep
       cases hstep
       done)
    | (simp only [ax_dor, ax_do] at hstep
       (repeat' split at hstep) <;> cases hstep)
set_option maxHeartbeats 4000000 in
theorem ax_end (hC : ax_Cx G D κ ρ A M out p s m args meth cd) {r : ax_R} (hrok : ax_rok G.2.1 G.2.2.2 M pc r = true) {g : Option Prop} {v : Option Value} (hstep : ax_dor G pc r ls st w lg sl = some (.inr (.inr (.inl (g, v))))) (hg : ax_ok g) (ho : out = (v, w, lg, sl)) : ax_SW l D κ ρ A M out p e s m args below meth cd pc ls st w lg sl := by
  obtain ⟨ins, len, a, b, dd, cv, cl, sws, isf, kp⟩ := r
  cases ins with
  | ireturn =>
    simp only [ax_rok, Bool.and_eq_true, decide_eq_true_eq] at hrok
    obtain ⟨hd, rfl, hr⟩ := hrok
    simp only [ax_dor, ax_do] at hstep
    split at hstep
    · split at hstep
      · simp only [decide_eq_true_eq] at hr
        cases hstep
        exact as_iret hC hd hr ho
      · split at hr
        · exact absurd rfl (by assumption)
        · simp only [decide_eq_true_eq] at hr
          cases hstep
          exact as_zret hC hg hd hr ho
    · cases hstep
  | lreturn =>
    simp only [ax_rok, Bool.and_eq_true, decide_eq_true_eq] at hrok
    obtain ⟨hd, rfl, hr⟩ := hrok
    simp only [ax_dor, ax_do] at hstep
    split at hstep
    · cases hstep
      exact as_lret hC hd hr ho
    · cases hstep
  | areturn =>
    simp only [ax_rok, Bool.and_eq_true, decide_eq_true_eq] at hrok
    obtain ⟨hd, rfl, hr⟩ := hrok
    simp only [ax_dor, ax_do] at hstep
    split at hr
    · rename_i t ht
      split at hstep
      · cases hstep
        exact as_aret hC (Or.inr ⟨_, rfl⟩) hd ht hr ho
      · cases hstep
        exact as_aret hC (Or.inl rfl) hd ht hr ho
      · cases hstep
    · cases hr
  | return_ =>
    simp only [ax_rok, Bool.and_eq_true, decide_eq_true_eq] at hrok
    obtain ⟨hd, rfl, hr⟩ := hrok
    simp only [ax_dor, ax_do] at hstep
    split at hstep
    · cases hstep
      exact as_vret hC hd hr ho
    · cases hstep
  | putfield i =>
    simp only [ax_dor, ax_do, ax_pf] at hstep
    repeat' split at hstep
    all_goals cases hstep
  | ifCond c o =>
    cases c <;> (simp only [ax_dor, ax_do] at hstep; (repeat' split at hstep) <;> cases hstep)
  | if_icmp c o =>
    cases c <;> (simp only [ax_dor, ax_do] at hstep; (repeat' split at hstep) <;> cases hstep)
  | _ => first
    | (simp [ax_rok] at hrok; done)
    | (simp only [ax_dor, ax_do] at hstep
       cases hstep
       done)
    | (simp only [ax_dor, ax_do] at hstep
       (repeat' split at hstep) <;> cases hstep)
end AXP
