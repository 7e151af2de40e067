section AXP
variable {l : Launch} {G : ax_G} {D : va_G} {κ ρ : Nat → Nat} {A : Nat → Prop} {M : ax_M} {out : ax_E} {p : Program} {e : Env} {s : State} {m : MethodId} {args : Array Value} {below : List Frame} {meth : Method} {cd : Code} {pc : Nat} {ls : ax_L} {st : List Value} {w : ax_W} {lg : List Nat} {sl : Nat}
set_option maxHeartbeats 4000000 in
theorem bx_two (hC : bx_Cx G D κ ρ A M out p s m args meth cd) {r : ax_R} (hrok : ax_rok G.2.1 G.2.2.2 M pc r = true) {cs : List (Prop × ax_C)} {d : ax_C} (hstep : ax_dor G pc r ls st w lg sl = some (.inr (.inl (cs, d)))) (k : ax_SC l D κ ρ A M out p e s m args below meth cd (ax_ch cs d)) : ax_SW l D κ ρ A M out p e s m args below meth cd pc ls st w lg sl := by
  obtain ⟨ins, len, a, b, dd, cv, cl, sws, isf, kp⟩ := r
  cases ins with
  | tableswitch df lo hi os =>
    simp only [ax_rok, Bool.and_eq_true, decide_eq_true_eq] at hrok
    obtain ⟨hdg, ⟨h1, h2⟩, h3⟩ := hrok
    simp only [ax_dor, ax_do] at hstep
    split at hstep
    · rename_i x r
      cases hstep
      intro H locs rr hI
      rcases ax_sw_tab (ls := ls) (st := r) (w := w) (lg := lg) (sl := sl) (x := x) (d := (a, ls, r, w, lg, sl)) h2 with ⟨i, t, o, g1, g2, g3, g4⟩ | ⟨g1, g2⟩
      · rw [g4] at k
        have hi : i < os.toList.length := (List.getElem?_eq_some_iff.mp g1).1
        refine lv_tableIn hC.1 hC.2.1 hdg (by omega) (by omega) (off := o) ?_ g3 (k H locs rr hI)
        rw [show (x.toInt - lo).toNat = i by omega, ← Array.getElem?_toList]
        exact g1
      · rw [g2] at k
        exact lv_tableOut hC.1 hC.2.1 hdg (by omega) h1 (k H locs rr hI)
    · cases hstep
  | lookupswitch df ps =>
    simp only [ax_rok, Bool.and_eq_true, decide_eq_true_eq] at hrok
    obtain ⟨hdg, ⟨h1, h2⟩, h3⟩ := hrok
    simp only [ax_dor, ax_do] at hstep
    split at hstep
    · rename_i x r
      cases hstep
      intro H locs rr hI
      obtain ⟨t, g1, g2⟩ := ax_sw_look (ls := ls) (st := r) (w := w) (lg := lg) (sl := sl) (x := x) (d := (a, ls, r, w, lg, sl)) h1 rfl h2
      rw [g2] at k
      exact lv_lookup hC.1 hC.2.1 hdg h3 rfl g1 (k H locs rr hI)
    · cases hstep
  | ifCond c o =>
    cases c <;>
    (simp only [ax_rok, Bool.and_eq_true, decide_eq_true_eq] at hrok
     obtain ⟨hd, rfl, ha⟩ := hrok
     simp only [ax_dor, ax_do] at hstep
     split at hstep
     · cases hstep
       first
       | exact bs_if_eq hC hd ha (fun h => by rw [ax_ch_t h] at k; exact k) (fun h => by rw [ax_ch_f h] at k; exact k)
       | exact bs_if_ne hC hd ha (fun h => by rw [ax_ch_f h] at k; exact k) (fun h => by rw [ax_ch_t h] at k; exact k)
       | exact bs_if_lt hC hd ha (fun h => by rw [ax_ch_t h] at k; exact k) (fun h => by rw [ax_ch_f h] at k; exact k)
       | exact bs_if_ge hC hd ha (fun h => by rw [ax_ch_t h] at k; exact k) (fun h => by rw [ax_ch_f h] at k; exact k)
       | exact bs_if_gt hC hd ha (fun h => by rw [ax_ch_t h] at k; exact k) (fun h => by rw [ax_ch_f h] at k; exact k)
       | exact bs_if_le hC hd ha (fun h => by rw [ax_ch_t h] at k; exact k) (fun h => by rw [ax_ch_f h] at k; exact k)
     · cases hstep)
  | if_icmp c o =>
    cases c <;>
    (simp only [ax_rok, Bool.and_eq_true, decide_eq_true_eq] at hrok
     obtain ⟨hd, rfl, ha⟩ := hrok
     simp only [ax_dor, ax_do] at hstep
     split at hstep
     · cases hstep
       first
       | exact bs_icmp_eq hC hd ha (fun h => by rw [ax_ch_t h] at k; exact k) (fun h => by rw [ax_ch_f h] at k; exact k)
       | exact bs_icmp_ne hC hd ha (fun h => by rw [ax_ch_f h] at k; exact k) (fun h => by rw [ax_ch_t h] at k; exact k)
       | exact bs_icmp_lt hC hd ha (fun h => by rw [ax_ch_t h] at k; exact k) (fun h => by rw [ax_ch_f h] at k; exact k)
       | exact bs_icmp_ge hC hd ha (fun h => by rw [ax_ch_t h] at k; exact k) (fun h => by rw [ax_ch_f h] at k; exact k)
       | exact bs_icmp_gt hC hd ha (fun h => by rw [ax_ch_t h] at k; exact k) (fun h => by rw [ax_ch_f h] at k; exact k)
       | exact bs_icmp_le hC hd ha (fun h => by rw [ax_ch_t h] at k; exact k) (fun h => by rw [ax_ch_f h] at k; exact k)
     · cases hstep)
  | putfield i =>
    simp only [ax_dor, ax_do, ax_pf] at hstep
    repeat' split at hstep
    all_goals cases hstep
  | _ => first
    | (simp [ax_rok] at hrok; done)
    | (simp only [ax_dor, ax_do] at hstep
       cases hstep
       done)
    | (simp only [ax_dor, ax_do] at hstep
       (repeat' split at hstep) <;> cases hstep)
set_option maxHeartbeats 4000000 in
theorem bx_end (hC : bx_Cx G D κ ρ A M out p s m args meth cd) {r : ax_R} (hrok : ax_rok G.2.1 G.2.2.2 M pc r = true) {g : Option Prop} {v : Option Value} (hstep : ax_dor G pc r ls st w lg sl = some (.inr (.inr (.inl (g, v))))) (hg : ax_ok g) (ho : out = (v, w, lg, sl)) : ax_SW l D κ ρ A M out p e s m args below meth cd pc ls st w lg sl := by
  obtain ⟨ins, len, a, b, dd, cv, cl, sws, isf, kp⟩ := r
  cases ins with
  | ireturn =>
    simp only [ax_rok, Bool.and_eq_true, decide_eq_true_eq] at hrok
    obtain ⟨hd, rfl, hr⟩ := hrok
    simp only [ax_dor, ax_do] at hstep
    split at hstep
    · split at hstep
      · simp only [decide_eq_true_eq] at hr
        cases hstep
        exact bs_iret hC hd hr ho
      · split at hr
        · exact absurd rfl (by assumption)
        · simp only [decide_eq_true_eq] at hr
          cases hstep
          exact bs_zret hC hg hd hr ho
    · cases hstep
  | lreturn =>
    simp only [ax_rok, Bool.and_eq_true, decide_eq_true_eq] at hrok
    obtain ⟨hd, rfl, hr⟩ := hrok
    simp only [ax_dor, ax_do] at hstep
    split at hstep
    · cases hstep
      exact bs_lret hC hd hr ho
    · cases hstep
  | areturn =>
    simp only [ax_rok, Bool.and_eq_true, decide_eq_true_eq] at hrok
    obtain ⟨hd, rfl, hr⟩ := hrok
    simp only [ax_dor, ax_do] at hstep
    split at hr
    · rename_i t ht
      split at hstep
      · cases hstep
        exact bs_aret hC (Or.inr ⟨_, rfl⟩) hd ht hr ho
      · cases hstep
        exact bs_aret hC (Or.inl rfl) hd ht hr ho
      · cases hstep
    · cases hr
  | return_ =>
    simp only [ax_rok, Bool.and_eq_true, decide_eq_true_eq] at hrok
    obtain ⟨hd, rfl, hr⟩ := hrok
    simp only [ax_dor, ax_do] at hstep
    split at hstep
    · cases hstep
      exact bs_vret hC hd hr ho
    · cases hstep
  | putfield i =>
    simp only [ax_dor, ax_do, ax_pf] at hstep
    repeat' split at hstep
    all_goals cases hstep
  | ifCond c o =>
    cases c <;> (simp only [ax_dor, ax_do] at hstep; (repeat' split at hstep) <;> cases hstep)
  | if_icmp c o =>
    cases c <;> (simp only [ax_dor, ax_do] at hstep; (repeat' split at hstep) <;> cases hstep)
  | _ => first
    | (simp [ax_rok] at hrok; done)
    | (simp only [ax_dor, ax_do] at hstep
       cases hstep
       done)
    | (simp only [ax_dor, ax_do] at hstep
       (repeat' split at hstep) <;> cases hstep)
end AXP
