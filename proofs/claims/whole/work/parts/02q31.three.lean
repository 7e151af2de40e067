/-! the whole: a run of the small machine is a run of the machine -/
section AXD
variable {l : Launch} {G : ax_G} {D : va_G} {κ ρ : Nat → Nat} {A : Nat → Prop} {M : ax_M} {out : ax_E} {p : Program} {e : Env} {s : State} {m : MethodId} {args : Array Value} {below : List Frame} {meth : Method} {cd : Code} {pc : Nat} {ls : ax_L} {st : List Value} {w : ax_W} {lg : List Nat} {sl : Nat}
set_option maxHeartbeats 4000000 in
theorem bx_three {n : Nat} (hV : bx_Vd G) (hC : bx_Cx G D κ ρ A M out p s m args meth cd) (hn : bx_Snd l G n) (hwl : ∀ w ∈ ax_wl M, w ∈ bx_TB) {rw0 : ax_R} (hrok : ax_rok G.2.1 G.2.2.2 M pc rw0 = true) {j pn : Nat} {As rr : List Value} {is : Option (List Nat)} {ls' : ax_L} (hstep : ax_dor G pc rw0 ls st w lg sl = some (.inr (.inr (.inr (j, As, is, pn, ls', rr))))) {M' : ax_M} (hj : G.2.2.2[j]? = some M') {θ τ : Nat → Nat} {w0 w' : ax_W} {out1 : ax_E} (hτ : ∀ a, θ (τ a) = a) (hθ : ∀ k, 900 ≤ k → k < 1000 → θ k = k)
    (hrun : ax_run G n M' (0, ax_ent M'.2.2.1 (As.map (ax_rv τ)), [], w0, [], 0) = some out1) (hlay : (ax_lay (As.map (ax_rv τ))).length ≤ M'.2.2.1) (hR : ∀ H, ax_Rep D κ ρ w H → ax_Rep D κ (fun x => ρ (θ x)) w0 H) (hA0 : ∀ k x, ax_nth w0 k = some x → ∃ x', ax_nth w (θ k) = some x')
    (hview : ∀ H, ax_Rep D κ ρ w H → ∀ k e, ax_nth w' k = some e → (∃ i e1, ax_nth out1.2.1 i = some e1 ∧ k = θ i ∧ e = ax_rc (fun x => x) θ e1) ∨ (ax_nth w k = some e ∧ ¬ ax_A (fun x => ρ (θ x)) w0 H.size (ρ k))) (hpre : (lg ++ out1.2.2.1.map θ) <+: out.2.2.1) (hsl : sl + out1.2.2.2 ≤ out.2.2.2)
    (k : ax_SW l D κ ρ A M out p e s m args below meth cd pn ls' ((out1.1.map (ax_rv θ)).toList ++ rr) w' (lg ++ out1.2.2.1.map θ) (sl + out1.2.2.2)) : ax_SW l D κ ρ A M out p e s m args below meth cd pc ls st w lg sl := by
  intro H locs r hI
  refine W.heap (fun hsz => ?_)
  have hsz2 : H.size = s.heap.size + lg.length := Nat.le_antisymm hsz hI.2.2.2.2.1
  have hM' : M' ∈ G.2.2.2 := List.mem_of_getElem? hj
  have hpro : ∀ i a, out1.2.2.1[i]? = some a → ρ (θ a) = H.size + i := by
    intro i a hia
    rw [hsz2, Nat.add_assoc]
    refine hC.2.2.2.2.2.2.2.2.2.2.2 _ _ ?_
    obtain ⟨t, ht⟩ := hpre
    have hi : i < out1.2.2.1.length := (List.getElem?_eq_some_iff.mp hia).1
    rw [← ht, List.getElem?_append_left (by simp; omega), List.getElem?_append_right (by omega), Nat.add_sub_cancel_left, List.getElem?_map, hia]
    rfl
  have hmet := bx_met hV hn hM' hrun hlay D κ (fun x => ρ (θ x)) H.size hpro
  have hAA : ∀ q, ax_A (fun x => ρ (θ x)) w0 H.size q → A q := by
    rintro q (⟨k, x, h1, rfl⟩ | h)
    · obtain ⟨x', h2⟩ := hA0 k x h1
      exact hI.2.2.1 _ x' h2
    · exact hC.2.2.2.2.2.2.2.2.2.2.1 q (Nat.le_trans hI.2.2.2.1.1 h)
  have hav : (As.map (ax_rv τ)).map (ax_rv (fun x => ρ (θ x))) = As.map (ax_rv ρ) := by
    rw [List.map_map]
    congr 1
    funext v
    show ax_rv (fun x => ρ (θ x)) (ax_rv τ v) = ax_rv ρ v
    rw [ax_rv_comp]
    congr 1
    funext a
    rw [hτ]
  have hpc := bx_pre (av := As.map (ax_rv ρ)) hV hC hI hθ (hR H hI.2.1) hAA hav
  have hlg : (out1.2.2.1.map θ).length = out1.2.2.1.length := List.length_map ..
  have hroom : lg.length + out1.2.2.1.length ≤ (ax_Rm M out).cells ∧ sl + out1.2.2.2 ≤ (ax_Rm M out).slots := by
    refine ⟨?_, hsl⟩
    have := hpre.length_le
    rw [List.length_append, hlg] at this
    exact this
  have hfix : CallFix p m cd M.2.1 M.2.2.1 s args bx_TB M.1.cls := ⟨hC.1, hC.2.1, hC.2.2.1, hC.2.2.2.1, hC.2.2.2.2.2.2.2.1⟩
  obtain ⟨ins, len, a, b, d, cv, cl, sws, isf, kp⟩ := rw0
  cases ins with
  | invokevirtual i =>
    simp only [ax_rok, Bool.and_eq_true, decide_eq_true_eq] at hrok
    obtain ⟨hd, rfl, hv⟩ := hrok
    simp only [ax_dor, ax_do] at hstep
    split at hstep
    · split at hstep
      · rename_i y As' rr' hpop
        split at hstep
        · rename_i ci fs hy
          split at hstep
          · rename_i x0 c0 sws0
            split at hstep
            · rename_i hci
              split at hstep
              · rename_i hcs
                cases hstep
                rw [hj] at hv
                simp only [Bool.and_eq_true, decide_eq_true_eq] at hv
                obtain ⟨⟨⟨⟨⟨g1, g2⟩, g3⟩, g4⟩, g5⟩, g6⟩ := hv
                obtain ⟨pre, f1, f2, f3⟩ := ax_pop_eq hpop
                rw [List.append_nil] at f3
                have hst : st = As'.reverse ++ .ref y :: rr := by
                  rw [f2]
                  have : pre = (Value.ref y :: As').reverse := by rw [f3, List.reverse_reverse]
                  rw [this]; simp
                have hlen : (As'.map (ax_rv ρ)).length = b - 1 := by
                  rw [List.length_map, ← f1]
                  have := congrArg List.length f3
                  simp at this
                  omega
                obtain ⟨qq, hqq⟩ : ∃ q, vwCl[ci]? = some q := by
                  rw [hci]
                  cases hx : vwCl[c0]? with
                  | none => rw [hx] at g6; cases g6
                  | some q => exact ⟨q, rfl⟩
                have hqc : qq.1 = M'.1.cls := by
                  rw [← hci, hqq] at g6
                  exact Option.some.inj g6
                have hrecv := va_recv (q0 := 0) hC.2.2.2.2.2.2.2.2.1 (ax_P1 hI.2.1 hy) hqq rfl
                rw [hqc] at hrecv
                have hrun' := va_runV (l := l) (e := e) (below := below) (meth := meth) (H := H) (locs := locs) (cells := lg.length) (slots := sl) (R := ax_Rm M out) (g := F0 m pc r (st.map (ax_rv ρ))) (As := As'.map (ax_rv ρ)) (b := ρ y) (rest := rr.map (ax_rv ρ)) hfix hmet ⟨bx_calB hV hC hM' hwl g1 (hwl _ g3), hC.2.2.2.2.2.2.2.1 _ (hwl _ g4), hC.2.2.2.2.2.2.2.1 _ (hwl _ g5)⟩ ⟨ax_blind, hrecv, hpc⟩ rfl hlen hI.1.1 (by rw [hst]; simp [ax_rv]) (by show 2 * 0 + _ ≤ 8; rw [ax_cs_eq]; omega) hd hroom
                exact ax_goon hI hrun' hAA (hview H hI.2.1) hlg hpre hsl k
              · cases hstep
            · cases hstep
          · cases hstep
        · cases hstep
      · cases hstep
    · repeat' split at hstep
      all_goals cases hstep
  | invokestatic i =>
    simp only [ax_rok, Bool.and_eq_true, decide_eq_true_eq] at hrok
    obtain ⟨hd, rfl, hv⟩ := hrok
    simp only [ax_dor, ax_do] at hstep
    split at hstep
    · split at hstep
      · rename_i As' rr' hpop
        split at hstep
        · rename_i hcs
          cases hstep
          rw [hj] at hv
          simp only [Bool.and_eq_true, decide_eq_true_eq] at hv
          obtain ⟨⟨g1, g3⟩, g4⟩ := hv
          obtain ⟨pre, f1, f2, f3⟩ := ax_pop_eq hpop
          rw [List.append_nil] at f3
          have hst : st = As.reverse ++ rr := by rw [f2, f3, List.reverse_reverse]
          have hlen : (As.map (ax_rv ρ)).length = b := by rw [List.length_map, f3, List.length_reverse, f1]
          have hrun' := va_runS (l := l) (e := e) (below := below) (meth := meth) (H := H) (locs := locs) (cells := lg.length) (slots := sl) (R := ax_Rm M out) (g := F0 m pc r (st.map (ax_rv ρ))) (As := As.map (ax_rv ρ)) (rest := rr.map (ax_rv ρ)) hfix hmet ⟨bx_calB hV hC hM' hwl g1 (hwl _ g3), hC.2.2.2.2.2.2.2.1 _ (hwl _ g4)⟩ ⟨ax_blind, hpc⟩ rfl hlen hI.1.1 (by rw [hst]; simp) (by show 2 * 0 + _ ≤ 8; rw [ax_cs_eq]; omega) hd hroom
          exact ax_goon hI hrun' hAA (hview H hI.2.1) hlg hpre hsl k
        · cases hstep
      · cases hstep
    · repeat' split at hstep
      all_goals cases hstep
  | invokespecial i =>
    simp only [ax_rok, Bool.and_eq_true, decide_eq_true_eq] at hrok
    obtain ⟨hd, rfl, hv⟩ := hrok
    simp only [ax_dor, ax_do] at hstep
    split at hstep
    · split at hstep
      · rename_i y As' rr' hpop
        split at hstep
        · rename_i hcs
          cases hstep
          rw [hj] at hv
          simp only [Bool.and_eq_true, Bool.or_eq_true, decide_eq_true_eq] at hv
          obtain ⟨⟨⟨⟨⟨g1, g2⟩, g3⟩, g4⟩, g5⟩, g6⟩ := hv
          obtain ⟨pre, f1, f2, f3⟩ := ax_pop_eq hpop
          rw [List.append_nil] at f3
          have hst : st = As'.reverse ++ .ref y :: rr := by
            rw [f2]
            have : pre = (Value.ref y :: As').reverse := by rw [f3, List.reverse_reverse]
            rw [this]; simp
          have hlen : (As'.map (ax_rv ρ)).length = b - 1 := by
            rw [List.length_map, ← f1]
            have := congrArg List.length f3
            simp at this
            omega
          rcases g6 with g6 | g6
          · have hcb := bx_calB (out1 := out1) hV hC hM' hwl g1 (hwl _ g6)
            rw [g3] at hcb
            have hrun' := va_runI (l := l) (e := e) (below := below) (meth := meth) (H := H) (locs := locs) (cells := lg.length) (slots := sl) (R := ax_Rm M out) (g := F0 m pc r (st.map (ax_rv ρ))) (As := As'.map (ax_rv ρ)) (b := ρ y) (rest := rr.map (ax_rv ρ)) hfix hmet ⟨hcb, g4, hC.2.2.2.2.2.2.2.1 _ (hwl _ g5)⟩ ⟨ax_blind, hpc⟩ rfl hlen hI.1.1 (by rw [hst]; simp [ax_rv]) (by show 2 * 0 + _ ≤ 8; rw [ax_cs_eq]; omega) hd hroom
            exact ax_goon hI hrun' hAA (hview H hI.2.1) hlg hpre hsl k
          · have hcn : va_CN (ax_Rm M out) s args M.1.cls i M'.1 "LeapLane" M'.2.1 M'.2.2.1 M'.2.2.2.1 (bx_ws1 M') (ax_Rm M' out1) out1.2.2.1.length out1.2.2.2 (b - 1) := by
              have hg1 := g1
              simp only [ax_cal, Bool.and_eq_true, decide_eq_true_eq] at hg1
              obtain ⟨⟨⟨⟨⟨h1, h2⟩, h3⟩, h4⟩, h5⟩, h6⟩ := hg1
              have hlk := hC.2.2.2.2.2.2.2.1 _ (hwl _ g6)
              exact bx_cnB (b - 1) hC.2.2.2.2.2.2.2.1 (hwl _ h1) rfl rfl (va_tabs rfl rfl hlk) (hC.2.2.2.2.2.2.2.1 _ (hwl _ h2)) h5 ⟨h3, h4⟩
            rw [g3] at hcn
            have hrun' := va_runIN (l := l) (e := e) (below := below) (meth := meth) (H := H) (locs := locs) (cells := lg.length) (slots := sl) (R := ax_Rm M out) (g := F0 m pc r (st.map (ax_rv ρ))) (As := As'.map (ax_rv ρ)) (b := ρ y) (rest := rr.map (ax_rv ρ)) hfix hmet ⟨hcn, g4, hC.2.2.2.2.2.2.2.1 _ (hwl _ g5)⟩ ⟨ax_blind, hpc⟩ rfl hlen hI.1.1 (by rw [hst]; simp [ax_rv]) (by show 2 * 0 + _ ≤ 8; rw [ax_cs_eq]; omega) hd hroom
            exact ax_goon hI hrun' hAA (hview H hI.2.1) hlg hpre hsl k
        · cases hstep
      · cases hstep
    · repeat' split at hstep
      all_goals cases hstep
  | putfield i =>
    simp only [ax_dor, ax_do, ax_pf] at hstep
    repeat' split at hstep
    all_goals cases hstep
  | ifCond c o => cases c <;> (simp only [ax_dor, ax_do] at hstep; (repeat' split at hstep) <;> cases hstep)
  | if_icmp c o => cases c <;> (simp only [ax_dor, ax_do] at hstep; (repeat' split at hstep) <;> cases hstep)
  | _ => first
    | (simp [ax_rok] at hrok; done)
    | (simp only [ax_dor, ax_do] at hstep
       cases hstep
       done)
    | (simp only [ax_dor, ax_do] at hstep
       (repeat' split at hstep) <;> cases hstep)
end AXD
