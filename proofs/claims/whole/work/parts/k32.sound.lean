/-! a run of the small machine is a run of the machine -/
theorem ax_unmask {l : Launch} {D : va_G} {κ ρ : Nat → Nat} {A : Nat → Prop} {M : ax_M} {out : ax_E} {p : Program} {e : Env} {s : State} {m : MethodId} {args : Array Value} {below : List Frame} {meth : Method} {cd : Code} {pc : Nat} {ls : ax_L} {st : List Value} {w : ax_W} {lg : List Nat} {sl : Nat} {kp : Option (List Bool)} (k : ax_SW l D κ ρ A M out p e s m args below meth cd pc (ax_keep kp ls) st w lg sl) : ax_SW l D κ ρ A M out p e s m args below meth cd pc ls st w lg sl := fun H locs r hI => k H locs r ⟨hI.1.sub ax_keep_sub, hI.2⟩
set_option maxHeartbeats 4000000 in
theorem ax_sound {l : Launch} {G : ax_G} (hV : ax_Vd G) (hCh : ax_Chr l G) : ∀ n, ax_Snd l G n := by
  intro n
  induction n with
  | zero => intro M hM c out hrun; cases hrun
  | succ n ih =>
    intro M hM c out hrun D κ ρ A p e s m args below meth cd hC
    obtain ⟨hok, hwl⟩ := hV.1 M hM
    simp only [ax_mok, Bool.and_eq_true] at hok
    have htok := hok.2
    obtain ⟨pc, ls0, st, w, lg, sl⟩ := c
    unfold ax_run at hrun
    unfold ax_step at hrun
    cases hrow : ax_nth (ax_tab M) pc with
    | none =>
      simp only [hrow] at hrun
      cases hrun
    | some r =>
      have hrok : ax_rok G.2.1 G.2.2.2 M pc r = true := by
        have := ax_tok_at htok hrow
        rwa [Nat.zero_add] at this
      simp only [hrow] at hrun
      refine ax_unmask (kp := r.2.2.2.2.2.2.2.2.2) ?_
      split at hrun
      · cases hrun
      · rename_i g c' hs
        obtain ⟨pc', ls', st', w', lg', sl'⟩ := c'
        split at hrun
        · rename_i hg
          have hk := ax_run_keep hrun
          exact ax_one hC (hCh D κ ρ A M out p e s m args below meth cd pc _ w lg sl hC) hrok hwl hs hg hk.1 hk.2.1 (ih M hM _ out hrun D κ ρ A p e s m args below meth cd hC)
        · cases hrun
      · rename_i cs d hs
        exact ax_two hC hrok hs (ih M hM _ out hrun D κ ρ A p e s m args below meth cd hC)
      · rename_i g v hs
        split at hrun
        · rename_i hg
          cases hrun
          exact ax_end hC hrok hs hg rfl
        · cases hrun
      · rename_i j As is pn ls' rr hs
        split at hrun
        · cases hrun
        · rename_i M' hj
          split at hrun
          · split at hrun
            · rename_i hlay
              split at hrun
              · cases hrun
              · rename_i v w1 lg1 sl1 hr1
                have hk := ax_run_keep hrun
                have hk1 := ax_run_keep hr1
                refine ax_three (θ := fun x => x) (τ := fun x => x) (w0 := w) (w' := w1) (out1 := (v, w1, lg1, sl1)) hV hC ih hwl hrok hs hj (fun _ => rfl) (fun _ _ _ => rfl) ?_ ?_ (fun _ h => h) (fun k x h => ⟨x, h⟩) (fun H hR k e he => Or.inl ⟨k, e, he, rfl, by rw [ax_rc_id]⟩) ?_ hk.2.1 ?_
                · rw [show (ax_rv fun x => x) = id from funext (fun v => ax_rv_id), List.map_id]; exact hr1
                · rw [show (ax_rv fun x => x) = id from funext (fun v => ax_rv_id), List.map_id]; exact hlay
                · rw [List.map_id' ]; exact hk.1
                · have h := ih M hM _ out hrun D κ ρ A p e s m args below meth cd hC
                  rw [List.map_id', show (ax_rv fun x => x) = id from funext (fun v => ax_rv_id), Option.map_id]
                  exact h
            · cases hrun
          · rename_i L
            split at hrun
            · rename_i hokL
              obtain ⟨hokL, hlay⟩ := hokL
              split at hrun
              · cases hrun
              · rename_i v w1 lg1 sl1 hr1
                have hk := ax_run_keep hrun
                have hk1 := ax_run_keep hr1
                simp only [ax_okL, Bool.and_eq_true, List.all_eq_true] at hokL
                obtain ⟨⟨hb, hnd⟩, hle⟩ := hokL
                have hnd := ax_nod_nd hnd
                have hle : L.length ≤ 900 := Nat.le_of_ble_eq_true hle
                have hb : ∀ k ∈ L, k < w.length := fun k hk => by
                  have := hb k hk
                  exact Nat.le_of_ble_eq_true this
                have hwl1 : w1.length = L.length := by
                  have := hk1.2.2
                  simpa [ax_cut] using this
                refine ax_three (θ := ax_the L) (τ := ax_tau L) (w0 := ax_cut L w) (w' := ax_put w L (ax_uncut L w1)) (out1 := (v, w1, lg1, sl1)) hV hC ih hwl hrok hs hj (ax_the_tau hle) (fun k h1 h2 => ax_the_out hle h1 h2) hr1 ?_ (fun H hR => ax_cut_rep hR hle hnd) (fun k x h => ?_) (fun H hR => ax_view hR hle hnd hb hwl1) hk.1 hk.2.1 (ih M hM _ out hrun D κ ρ A p e s m args below meth cd hC)
                · have e1 : ∀ vs : List Value, (ax_lay (vs.map (ax_rv (ax_tau L)))).length = (ax_lay vs).length := by
                    intro vs
                    rw [← ax_lay_len (ρ := fun x => x) (vs := vs.map (ax_rv (ax_tau L))), ← ax_lay_len (ρ := ax_tau L) (vs := vs), show (ax_rv fun x => x) = id from funext (fun v => ax_rv_id), List.map_id]
                  rw [e1]; exact hlay
                · obtain ⟨k', x', h1, h2, -⟩ := ax_cut_nth h
                  exact ⟨x', by rw [ax_the_in h1]; exact h2⟩
            · cases hrun
