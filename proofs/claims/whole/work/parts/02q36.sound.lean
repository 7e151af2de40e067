/-! a run of the small machine is a run of the machine: with the text's signs -/
def hc_lf (w : Cond) : Bool := match w with
  | .methodLink c i y => !(decide (y = hy_ca)) || (decide (c = "LeapLane$Tape") && decide (i = 49))
  | _ => true
theorem hc_lks : lw_tbl.all hc_lf = true := by decide +kernel
def hc_ck1 (M : ax_M) : Bool := (decide (5 ≤ M.2.2.2.2.1) && decide (120 ≤ M.2.2.2.2.2.1)) || !(decide (M.1.cls = "LeapLane$Tape")) || (ax_tab M).all (fun o => match o with
  | some r => (match r.1 with
    | .invokevirtual j => !(decide (j = 49))
    | _ => true)
  | none => true)
theorem hc_cks : ax_ms.all hc_ck1 = true := by decide +kernel
theorem hc_nth {α : Type} {f : Option α → Bool} : ∀ {l : List (Option α)} {n : Nat} {x : α}, l.all f = true → ax_nth l n = some x → f (some x) = true
  | [], _, _, _, h => by cases h
  | y :: l, 0, x, h, h2 => by
    simp only [List.all_cons, Bool.and_eq_true] at h
    have h2 : y = some x := h2
    rw [← h2]; exact h.1
  | y :: l, n + 1, x, h, h2 => by
    simp only [List.all_cons, Bool.and_eq_true] at h
    exact hc_nth h.2 h2
theorem hc_room {M : ax_M} (hM : M ∈ ax_ms) {pc i : Nat} {r : ax_R} (hrow : ax_nth (ax_tab M) pc = some r) (hdec : decode M.2.1 pc = .ok (r.1, r.2.1)) (g1 : decode M.2.1 pc = .ok (.invokevirtual i, 3)) (g2 : Cond.methodLink M.1.cls i hy_ca ∈ bx_TB) : 5 ≤ M.2.2.2.2.1 ∧ 120 ≤ M.2.2.2.2.2.1 := by
  have h1 := List.all_eq_true.mp hc_lks _ (bx_TB_in _ g2)
  simp only [hc_lf, decide_true, Bool.not_true, Bool.false_or, Bool.and_eq_true, decide_eq_true_eq] at h1
  have h2 := List.all_eq_true.mp hc_cks _ hM
  unfold hc_ck1 at h2
  rcases Bool.or_eq_true_iff.mp h2 with h2 | h2
  · rcases Bool.or_eq_true_iff.mp h2 with h2 | h2
    · simpa only [Bool.and_eq_true, decide_eq_true_eq] using h2
    · simp [h1.1] at h2
  · have h3 := hc_nth h2 hrow
    have h4 : r.1 = .invokevirtual i := by
      rw [hdec] at g1
      exact congrArg (fun x : Instr × Nat => x.1) (Except.ok.inj g1)
    simp only [h4, h1.2] at h3
    exact absurd h3 (by decide)
set_option maxHeartbeats 4000000 in
theorem bx_snd {l : Launch} {X : Nat × (Nat → Int32)} (hV : bx_Vd (ax_GG X)) : ∀ n, bx_Snd l (ax_GG X) n := by
  intro n
  induction n with
  | zero => intro M hM c out hrun; cases hrun
  | succ n ih =>
    intro M hM c out hrun D κ ρ A p e s m args below meth cd hC
    obtain ⟨hok, hwl⟩ := hV.1 M hM
    simp only [bx_mok, Bool.and_eq_true] at hok
    have htok := hok.2
    obtain ⟨pc, ls0, st, w, lg, sl⟩ := c
    unfold ax_run at hrun
    unfold ax_step at hrun
    cases hrow : ax_nth (ax_tab M) pc with
    | none =>
      simp only [hrow] at hrun
      cases hrun
    | some r =>
      have hrok : ax_rok (ax_GG X).2.1 (ax_GG X).2.2.2 M pc r = true := by
        have := ax_tok_at htok hrow
        rwa [Nat.zero_add] at this
      simp only [hrow] at hrun
      refine ax_unmask (kp := r.2.2.2.2.2.2.2.2.2) ?_
      split at hrun
      · cases hrun
      · rename_i g c' hs
        obtain ⟨pc', ls', st', w', lg', sl'⟩ := c'
        split at hrun
        · rename_i hg
          have hk := ax_run_keep hrun
          exact bx_one hC (fun {i x st} g1 g2 _ g4 g5 g6 => hc_chr hC (hc_room hM hrow (of_decide_eq_true (Bool.and_eq_true_iff.mp hrok).1) g1 g2) g1 g2 g4 g5 g6) hrok hwl hs hg hk.1 hk.2.1 (ih M hM _ out hrun D κ ρ A p e s m args below meth cd hC)
        · cases hrun
      · rename_i cs d hs
        exact bx_two hC hrok hs (ih M hM _ out hrun D κ ρ A p e s m args below meth cd hC)
      · rename_i g v hs
        split at hrun
        · rename_i hg
          cases hrun
          exact bx_end hC hrok hs hg rfl
        · cases hrun
      · rename_i j As is pn ls' rr hs
        split at hrun
        · cases hrun
        · rename_i M' hj
          split at hrun
          · split at hrun
            · rename_i hlay
              split at hrun
              · cases hrun
              · rename_i v w1 lg1 sl1 hr1
                have hk := ax_run_keep hrun
                have hk1 := ax_run_keep hr1
                refine bx_three (θ := fun x => x) (τ := fun x => x) (w0 := w) (w' := w1) (out1 := (v, w1, lg1, sl1)) hV hC ih hwl hrok hs hj (fun _ => rfl) (fun _ _ _ => rfl) ?_ ?_ (fun _ h => h) (fun k x h => ⟨x, h⟩) (fun H hR k e he => Or.inl ⟨k, e, he, rfl, by rw [ax_rc_id]⟩) ?_ hk.2.1 ?_
                · rw [show (ax_rv fun x => x) = id from funext (fun v => ax_rv_id), List.map_id]; exact hr1
                · rw [show (ax_rv fun x => x) = id from funext (fun v => ax_rv_id), List.map_id]; exact hlay
                · rw [List.map_id' ]; exact hk.1
                · have h := ih M hM _ out hrun D κ ρ A p e s m args below meth cd hC
                  rw [List.map_id', show (ax_rv fun x => x) = id from funext (fun v => ax_rv_id), Option.map_id]
                  exact h
            · cases hrun
          · rename_i L
            split at hrun
            · rename_i hokL
              obtain ⟨hokL, hlay⟩ := hokL
              split at hrun
              · cases hrun
              · rename_i v w1 lg1 sl1 hr1
                have hk := ax_run_keep hrun
                have hk1 := ax_run_keep hr1
                simp only [ax_okL, Bool.and_eq_true, List.all_eq_true] at hokL
                obtain ⟨⟨hb, hnd⟩, hle⟩ := hokL
                have hnd := ax_nod_nd hnd
                have hle : L.length ≤ 900 := Nat.le_of_ble_eq_true hle
                have hb : ∀ k ∈ L, k < w.length := fun k hk => by
                  have := hb k hk
                  exact Nat.le_of_ble_eq_true this
                have hwl1 : w1.length = L.length := by
                  have := hk1.2.2
                  simpa [ax_cut] using this
                refine bx_three (θ := ax_the L) (τ := ax_tau L) (w0 := ax_cut L w) (w' := ax_put w L (ax_uncut L w1)) (out1 := (v, w1, lg1, sl1)) hV hC ih hwl hrok hs hj (ax_the_tau hle) (fun k h1 h2 => ax_the_out hle h1 h2) hr1 ?_ (fun H hR => ax_cut_rep hR hle hnd) (fun k x h => ?_) (fun H hR => ax_view hR hle hnd hb hwl1) hk.1 hk.2.1 (ih M hM _ out hrun D κ ρ A p e s m args below meth cd hC)
                · have e1 : ∀ vs : List Value, (ax_lay (vs.map (ax_rv (ax_tau L)))).length = (ax_lay vs).length := by
                    intro vs
                    rw [← ax_lay_len (ρ := fun x => x) (vs := vs.map (ax_rv (ax_tau L))), ← ax_lay_len (ρ := ax_tau L) (vs := vs), show (ax_rv fun x => x) = id from funext (fun v => ax_rv_id), List.map_id]
                  rw [e1]; exact hlay
                · obtain ⟨k', x', h1, h2, -⟩ := ax_cut_nth h
                  exact ⟨x', by rw [ax_the_in h1]; exact h2⟩
            · cases hrun
