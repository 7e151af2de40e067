/-! what is asked: the reference -/
section MSK
variable {N : Nat} {a : aS} {sg cl cs sd kp : Nat → Int32} {fc tp : Int32} {st wd : Nat → Int64}
theorem rm_ahead {x y w : Int32} {Q : Int32 → (Nat → Int64) → Int32 → (Nat → Int64) → (Nat → Int32) → (Nat → Int32) → Prop} (hN : 6000 ≤ N) (hA : AOk a) (hS : mSd sd (a_s a)) (hR : mRs a sg cl cs) (hfc : fc = jn (s_f (a_s a))) (h : ∀ r, A_ahead a x y w r → ∀ s t v kp, Q r s t v sd kp) : wp_X12_ahead N sg cl cs fc Q x y w st tp wd sd kp := by
  obtain ⟨s1, s2, s3, s4, s5, s6⟩ := AOk_s hA
  exact wm_ahead (by omega) s1 s2 hS.1 hS.2.1 (by omega) (rNow_ok hA) (by rw [hfc]; exact mR_now (by omega) hA hR) (fun q => h _ (Or.inr ⟨q, rfl⟩)) (fun n q => h _ (Or.inl ⟨n, q, rfl⟩))
theorem rm_leads {x : Int32} {Q : Int32 → (Nat → Int64) → Int32 → (Nat → Int64) → (Nat → Int32) → (Nat → Int32) → Prop} (hN : 6000 ≤ N) (hA : AOk a) (hS : mSd sd (a_s a)) (hR : mRs a sg cl cs) (hfc : fc = jn (s_f (a_s a))) (h : ∀ r, A_leads a x r → ∀ s t v kp, Q r s t v sd kp) : wp_X12_leads N sg cl cs fc Q x st tp wd sd kp := by
  obtain ⟨s1, s2, s3, s4, s5, s6⟩ := AOk_s hA
  exact wm_leads (by omega) s1 s2 hS.1 hS.2.1 (by omega) (rNow_ok hA) (by rw [hfc]; exact mR_now (by omega) hA hR) (fun q => h _ (Or.inr ⟨fun n z => (by rw [q] at z; cases z), rfl⟩)) (fun c q => h _ (Or.inl ⟨c, q, rfl⟩))
theorem rm_stuck {Q : Int32 → (Nat → Int64) → Int32 → (Nat → Int64) → (Nat → Int32) → (Nat → Int32) → Prop} (hN : 6000 ≤ N) (hA : AOk a) (hS : mSd sd (a_s a)) (hR : mRs a sg cl cs) (hfc : fc = jn (s_f (a_s a))) (h : ∀ r, A_stuck a r → ∀ s t v kp, Q r s t v sd kp) : wp_X12_stuck N sg cl cs fc Q st tp wd sd kp := by
  obtain ⟨s1, s2, s3, s4, s5, s6⟩ := AOk_s hA
  exact wm_stuck (by omega) s1 s2 hS.1 hS.2.1 (by omega) (rNow_ok hA) (by rw [hfc]; exact mR_now (by omega) hA hR) (fun q => h _ (if_pos q).symm) (fun q => h _ (if_neg (by omega)).symm)
theorem rm_given {x w : Int32} {Q : Int32 → (Nat → Int64) → Int32 → (Nat → Int64) → (Nat → Int32) → (Nat → Int32) → Prop} (hN : 6000 ≤ N) (hA : AOk a) (hS : mSd sd (a_s a)) (hR : mRs a sg cl cs) (hfc : fc = jn (s_f (a_s a))) (h : ∀ r, A_given a x w r → ∀ s t v kp, Q r s t v sd kp) : wp_X12_given N sg cl cs fc Q x w st tp wd sd kp := by
  obtain ⟨s1, s2, s3, s4, s5, s6⟩ := AOk_s hA
  exact wm_given (by omega) s1 s2 hS.1 hS.2.1 (by omega) (rNow_ok hA) (by rw [hfc]; exact mR_now (by omega) hA hR) (fun q => h _ (Or.inr ⟨q, rfl⟩)) (fun n q => h _ (Or.inl ⟨n, q, rfl⟩))
theorem rm_rests {x y z w : Int32} {hb : Nat → Int32} {Q : Int32 → (Nat → Int64) → Int32 → (Nat → Int64) → (Nat → Int32) → (Nat → Int32) → (Nat → Int32) → Prop} (hN : 6000 ≤ N) (hA : AOk a) (hS : mSd sd (a_s a)) (hR : mRs a sg cl cs) (hfc : fc = jn (s_f (a_s a))) (h : ∀ r, A_rests a x y z w r → ∀ s t v kp hb, Q r s t v sd kp hb) : wp_X12_rests N sg cl cs fc Q x y z w st tp wd sd kp hb := by
  obtain ⟨s1, s2, s3, s4, s5, s6⟩ := AOk_s hA
  exact wm_rests (by omega) s1 s2 hS.1 hS.2.1 (by omega) (rNow_ok hA) (by rw [hfc]; exact mR_now (by omega) hA hR) (fun q => h _ (Or.inr ⟨fun t => q t.1 t.2.1 t.2.2, rfl⟩)) (fun b c n q => h _ (Or.inl ⟨(b, c, n), q, rfl⟩))
theorem rm_alike {w : Int32} {sn : Nat → Int32} {Q : Int32 → (Nat → Int64) → Int32 → (Nat → Int64) → (Nat → Int32) → (Nat → Int32) → (Nat → Int32) → Prop} (hN : 6000 ≤ N) (hA : AOk a) (hS : mSd sd (a_s a)) (hR : mRs a sg cl cs) (hfc : fc = jn (s_f (a_s a))) (h : ∀ r, A_alike a w r → ∀ s t v kp sn, Q r s t v sd kp sn) : wp_X12_alike N sg cl cs fc Q w st tp wd sd kp sn := by
  obtain ⟨s1, s2, s3, s4, s5, s6⟩ := AOk_s hA
  exact wm_alike (by omega) s1 s2 hS.1 hS.2.1 (by omega) (rNow_ok hA) (by rw [hfc]; exact mR_now (by omega) hA hR) (fun q => h _ (Or.inr ⟨q, rfl⟩)) (fun q x hx => h _ (Or.inl ⟨q, hx⟩))
theorem rm_pence {x y : Int32} {Q : Int32 → Prop} (hN : 6000 ≤ N) (hA : AOk a) (hS : mSd sd (a_s a)) (h : ∀ r, A_pence a x y r → Q r) : wp_X12_pence N sd Q x y := by
  obtain ⟨s1, s2, s3, s4, s5, s6⟩ := AOk_s hA
  exact wm_pence (by omega) s1 s2 hS.1 hS.2.1 (fun q => h _ (Or.inr ⟨q, rfl⟩)) (fun n q => h _ (Or.inl ⟨n, q, rfl⟩))
theorem rm_leapsOf {x : Int32} {fn : Nat → Int32} {Q : Int32 → (Nat → Int64) → Int32 → (Nat → Int64) → (Nat → Int32) → (Nat → Int32) → (Nat → Int32) → Prop} (hN : 6000 ≤ N) (hA : AOk a) (hS : mSd sd (a_s a)) (hR : mRs a sg cl cs) (hfc : fc = jn (s_f (a_s a))) (h : ∀ r, A_leapsOf a x r → ∀ s t v kp fn, Q r s t v sd kp fn) : wp_X12_leapsOf N sg cl cs fc Q x st tp wd sd kp fn := by
  obtain ⟨s1, s2, s3, s4, s5, s6⟩ := AOk_s hA
  exact wm_leapsOf (by omega) s1 s3 hS.1 hS.2.2 (rNow_ok hA) (by rw [hfc]; exact mR_now (by omega) hA hR) (fun q => h _ (Or.inr ⟨fun n z => (by rw [q] at z; cases z), rfl⟩)) (fun c q => h _ (Or.inl ⟨c, q, rfl⟩))
theorem rm_backsOf {x : Int32} {fn : Nat → Int32} {Q : Int32 → (Nat → Int64) → Int32 → (Nat → Int64) → (Nat → Int32) → (Nat → Int32) → (Nat → Int32) → Prop} (hN : 6000 ≤ N) (hA : AOk a) (hS : mSd sd (a_s a)) (hR : mRs a sg cl cs) (hfc : fc = jn (s_f (a_s a))) (h : ∀ r, A_backsOf a x r → ∀ s t v kp fn, Q r s t v sd kp fn) : wp_X12_backsOf N sg cl cs fc Q x st tp wd sd kp fn := by
  obtain ⟨s1, s2, s3, s4, s5, s6⟩ := AOk_s hA
  exact wm_backsOf (by omega) s1 s3 hS.1 hS.2.2 (rNow_ok hA) (by rw [hfc]; exact mR_now (by omega) hA hR) (fun q => h _ (Or.inr ⟨fun n z => (by rw [q] at z; cases z), rfl⟩)) (fun c q => h _ (Or.inl ⟨c, q, rfl⟩))
theorem rm_ruled {w ru : Int32} {ft' fn : Nat → Int32} {Q : Int32 → (Nat → Int64) → Int32 → (Nat → Int64) → (Nat → Int32) → Int32 → (Nat → Int32) → (Nat → Int32) → (Nat → Int32) → Prop} (hN : 6000 ≤ N) (hA : AOk a) (hS : mSd sd (a_s a)) (hR : mRs a sg cl cs) (hru : ru = jn (a_r a : Int)) (h : ∀ r, A_ruled a w r → ∀ s t v kp ft' fn, Q r s t v sd fc kp ft' fn) : wp_X12_ruled N ru sg cl cs Q w st tp wd sd fc kp ft' fn := by
  obtain ⟨s1, s2, s3, s4, s5, s6⟩ := AOk_s hA
  exact wm_ruled (R := rFn a) (by omega) s1 s3 hS.1 hS.2.2 hA.2.2.1 hru (rO_ok hA) (mR_rO (by omega) hA hR) (fun q => h _ (Or.inr ⟨q, rfl⟩)) (fun q => h _ (Or.inl ⟨q, rfl⟩))
theorem rm_look {w ru : Int32} {ft' fn : Nat → Int32} {Q : Int32 → (Nat → Int64) → Int32 → (Nat → Int64) → (Nat → Int32) → Int32 → (Nat → Int32) → (Nat → Int32) → (Nat → Int32) → Prop} (hN : 6000 ≤ N) (hA : AOk a) (hS : mSd sd (a_s a)) (hR : mRs a sg cl cs) (hru : ru = jn (a_r a : Int)) (h : ∀ r, A_look a w r → ∀ s t v kp ft' fn, Q r s t v sd fc kp ft' fn) : wp_X12_look N ru sg cl cs Q w st tp wd sd fc kp ft' fn := by
  obtain ⟨s1, s2, s3, s4, s5, s6⟩ := AOk_s hA
  exact wm_look (R := rFn a) (by omega) s1 s3 hS.1 hS.2.2 hA.2.2.1 hru (rO_ok hA) (mR_rO (by omega) hA hR) (fun q => h _ (Or.inr ⟨q, rfl⟩)) (fun q => h _ (Or.inl ⟨q, rfl⟩))
theorem rm_stumbles {x y z w mx : Int32} {dx : Int64} {Q : Int32 → (Nat → Int64) → Int32 → (Nat → Int64) → (Nat → Int32) → (Nat → Int32) → Int64 → Prop} (hN : 6000 ≤ N) (hA : AOk a) (hS : mSd sd (a_s a)) (hR : mRs a sg cl cs) (hfc : fc = jn (s_f (a_s a))) (hmx : mx = jn (s_x (a_s a) : Int)) (h : ∀ r, A_stumbles a x y z w r → ∀ s t v kp dx, Q r s t v sd kp dx) : wp_X12_stumbles N sg cl cs fc mx Q x y z w st tp wd sd kp dx := by
  obtain ⟨s1, s2, s3, s4, s5, s6⟩ := AOk_s hA
  exact wm_stumbles (by omega) s1 s2 hS.1 hS.2.1 (by omega) (rNow_ok hA) (by rw [hfc]; exact mR_now (by omega) hA hR) s5 hmx (fun q => h _ (Or.inr ⟨fun t => q t.1 t.2.1 t.2.2, rfl⟩)) (fun m n p q => h _ (Or.inl ⟨(m, n, p), q, rfl⟩))
theorem mQ_of (hA : AOk a) (hS : mSd sd (a_s a)) : mQ (l_k (a_l a)) (l_s (a_l a)) (l_l (a_l a)) (g_b (a_g a)) sd := by
  obtain ⟨s1, s2, s3, s4, s5, s6⟩ := AOk_s hA
  have h1 := s1.2.1
  exact ⟨hS.1.2.2.1, hS.1.2.1, hS.1.2.2.2.1, hS.2.1.2.1, s1.2.2.1, by omega, fun c _ => by have := s1.2.2.2.2.2.1 c; omega, fun c _ => by have := s2.2.1 c; omega⟩
theorem lt_of (hA : AOk a) : l_t (a_l a) = 0 ∨ l_t (a_l a) = 1 := by
  have := (AOk_s hA).1.1; omega
theorem rm_fewest {x : Int32} {Q : Int32 → (Nat → Int32) → (Nat → Int32) → (Nat → Int32) → (Nat → Int32) → Int32 → Prop} {rw' rt' fa qu : Nat → Int32} {re : Int32} (hN : 6000 ≤ N) (hA : AOk a) (hS : mSd sd (a_s a)) (h : ∀ r, A_fewest a x r → ∀ rw' rt' fa qu re, Q r rw' rt' fa qu re) : wp_X12_fewest N sd Q x rw' rt' fa qu re := by
  obtain ⟨s1, s2, s3, s4, s5, s6⟩ := AOk_s hA
  rcases lt_of hA with e | e
  · unfold wp_X12_fewest
    refine wm_isLane (by omega) (t := 0) (by rw [hS.1.1, show l_t (s_l (a_s a)) = 0 from e]) ⟨fun _ => h _ (Or.inr ⟨fun o q => by have := q.1; omega, rfl⟩) _ _ _ _ _, fun q => absurd rfl q⟩
  · exact wm_fewest hN (mQ_of hA hS) s1.2.1 s2.1 hS.2.1.2.2.2.1 (by rw [hS.1.1, show l_t (s_l (a_s a)) = 1 from e]; rfl) (fun q => h _ (Or.inr ⟨fun o z => q o z.2, rfl⟩)) (fun o q y hy => h _ (Or.inl ⟨o, ⟨e, q⟩, y, hy, rfl⟩))
theorem rm_step {x y z : Int32} {Q : Int32 → (Nat → Int32) → (Nat → Int32) → (Nat → Int32) → (Nat → Int32) → Int32 → Int32 → Int32 → Prop} {rw' rt' fa qu : Nat → Int32} {re sw' sb : Int32} (hN : 6000 ≤ N) (hA : AOk a) (hS : mSd sd (a_s a)) (h : ∀ r, A_step a x y z r → ∀ rw' rt' fa qu re sw' sb, Q r rw' rt' fa qu re sw' sb) : wp_X12_step N sd Q x y z rw' rt' fa qu re sw' sb := by
  obtain ⟨s1, s2, s3, s4, s5, s6⟩ := AOk_s hA
  obtain ⟨i, rfl, hi⟩ := jn_of y
  obtain ⟨w, rfl, hw⟩ := jn_of z
  have ez : (jn w = 0 ∨ jn w = 1) ↔ (0 ≤ w ∧ w ≤ 1) := by
    rw [li_0, li_1, jn_eq hw (by omega), jn_eq hw (by omega)]; omega
  have ei : (jn i).toInt = i := jn_toInt hi
  have ew : (jn w = 0) = (w = 0) := by rw [li_0, jn_eq hw (by omega)]
  rcases lt_of hA with e | e
  · unfold wp_X12_step wp_X12_step_21
    refine wm_isLane (by omega) (t := 0) (by rw [hS.1.1, show l_t (s_l (a_s a)) = 0 from e]) ⟨fun _ => h _ (Or.inr ⟨fun o q => by have := q.1.1; omega, rfl⟩) _ _ _ _ _ _ _, fun q => absurd rfl q⟩
  · refine wm_step (i := i) (w := w) hN (mQ_of hA hS) s1.2.1 s2.1 hS.2.1.2.2.2.1 (by rw [hS.1.1, show l_t (s_l (a_s a)) = 1 from e]; rfl) rfl hi rfl hw (fun q => h _ (Or.inr ⟨fun o z => ?_, rfl⟩)) (fun o q q1 q2 q3 => h _ (Or.inl ⟨o, ⟨e, q⟩, by rw [ei]; exact q1, ez.mpr q2, Or.inr ⟨fun D hD => by rw [ei]; exact q3 D hD, rfl⟩⟩)) (fun o q q1 q2 D l hD hl hG => h _ (Or.inl ⟨o, ⟨e, q⟩, by rw [ei]; exact q1, ez.mpr q2, Or.inl ⟨D, l, hD, by rw [ei]; exact hl, by rw [ei]; exact hG, ?_⟩⟩))
    · rw [ei, ez] at z
      rcases q with q | q | q
      · exact q z.2.2
      · omega
      · exact q o z.1.2
    · by_cases q0 : w = 0
      · rw [if_pos q0, if_pos (ew.mpr q0)]
      · rw [if_neg q0, if_neg (fun z => q0 (ew.mp z))]
theorem rm_orders {x : Int32} {Q : Int32 → (Nat → Int32) → (Nat → Int32) → (Nat → Int32) → (Nat → Int32) → Int32 → Prop} {rw' rt' fa qu : Nat → Int32} {re : Int32} (hN : 6000 ≤ N) (hA : AOk a) (hS : mSd sd (a_s a)) (h : ∀ r, A_orders a x r → ∀ rw' rt' fa qu re, Q r rw' rt' fa qu re) : wp_X12_orders N sd Q x rw' rt' fa qu re := by
  obtain ⟨s1, s2, s3, s4, s5, s6⟩ := AOk_s hA
  obtain ⟨i, rfl, hi⟩ := jn_of x
  have ei : (jn i).toInt = i := jn_toInt hi
  rcases lt_of hA with e | e
  · unfold wp_X12_orders wp_X12_orders_19
    refine wm_isLane (by omega) (t := 0) (by rw [hS.1.1, show l_t (s_l (a_s a)) = 0 from e]) ⟨fun _ => h _ (Or.inr ⟨fun q => by have := q.1; omega, rfl⟩) _ _ _ _ _, fun q => absurd rfl q⟩
  · exact wm_orders (i := i) hN (mQ_of hA hS) s1.2.1 s2.1 hS.2.1.2.2.2.1 (by rw [hS.1.1, show l_t (s_l (a_s a)) = 1 from e]; rfl) rfl hi (fun q => h _ (Or.inr ⟨fun z => q (by rw [ei] at z; exact z.2), rfl⟩)) (fun q y hy => h _ (Or.inl ⟨⟨e, by rw [ei]; exact q⟩, y, by rw [ei]; exact hy, rfl⟩))
theorem rm_farthest {x : Int32} {Q : Int32 → (Nat → Int32) → (Nat → Int32) → (Nat → Int32) → (Nat → Int32) → Int32 → Prop} {rw' rt' fa qu : Nat → Int32} {re : Int32} (hN : 6000 ≤ N) (hA : AOk a) (hS : mSd sd (a_s a)) (h : ∀ r, A_farthest a x r → ∀ rw' rt' fa qu re, Q r rw' rt' fa qu re) : wp_X12_farthest N sd Q x rw' rt' fa qu re := by
  obtain ⟨s1, s2, s3, s4, s5, s6⟩ := AOk_s hA
  obtain ⟨w, rfl, hw⟩ := jn_of x
  have ez : (jn w = 0 ∨ jn w = 1) ↔ (0 ≤ w ∧ w ≤ 1) := by
    rw [li_0, li_1, jn_eq hw (by omega), jn_eq hw (by omega)]; omega
  rcases lt_of hA with e | e
  · unfold wp_X12_farthest wp_X12_farthest_17
    refine wm_isLane (by omega) (t := 0) (by rw [hS.1.1, show l_t (s_l (a_s a)) = 0 from e]) ⟨fun _ => h _ (Or.inr (Or.inr ⟨fun q => by have := q.1; omega, rfl⟩)) _ _ _ _ _, fun q => absurd rfl q⟩
  · exact wm_farthest (w := w) hN (mQ_of hA hS) s1.2.1 s2.1 hS.2.1.2.2.2.1 (by rw [hS.1.1, show l_t (s_l (a_s a)) = 1 from e]; rfl) rfl hw (fun q => h _ (Or.inr (Or.inr ⟨fun z => q (ez.mp z.2), rfl⟩))) (fun q y hy => h _ (Or.inl ⟨e, by rw [q]; rfl, y, hy, rfl⟩)) (fun q y hy => h _ (Or.inr (Or.inl ⟨e, by rw [q]; rfl, y, hy, rfl⟩)))
theorem rm_first {x : Int32} {Q : Int32 → (Nat → Int32) → (Nat → Int32) → (Nat → Int32) → (Nat → Int32) → Int32 → Prop} {rw' rt' fa qu : Nat → Int32} {re : Int32} (hN : 6000 ≤ N) (hA : AOk a) (hS : mSd sd (a_s a)) (h : ∀ r, A_first a x r → ∀ rw' rt' fa qu re, Q r rw' rt' fa qu re) : wp_X12_first N sd Q x rw' rt' fa qu re := by
  obtain ⟨s1, s2, s3, s4, s5, s6⟩ := AOk_s hA
  exact wm_first hN (mQ_of hA hS) s1.2.1 s2.1 hS.2.1.2.2.2.1 (fun q => h _ (Or.inr ⟨q, rfl⟩)) (fun c q y hy => h _ (Or.inl ⟨c, q, y, hy, rfl⟩))
theorem rm_behind {x : Int32} {Q : Int32 → (Nat → Int32) → (Nat → Int32) → (Nat → Int32) → (Nat → Int32) → Int32 → Prop} {rw' rt' fa qu : Nat → Int32} {re : Int32} (hN : 6000 ≤ N) (hA : AOk a) (hS : mSd sd (a_s a)) (h : ∀ r, A_behind a x r → ∀ rw' rt' fa qu re, Q r rw' rt' fa qu re) : wp_X12_behind N sd Q x rw' rt' fa qu re := by
  obtain ⟨s1, s2, s3, s4, s5, s6⟩ := AOk_s hA
  exact wm_behind hN (mQ_of hA hS) s1.2.1 s2.1 hS.2.1.2.2.2.1 (fun q => h _ (Or.inr ⟨q, rfl⟩)) (fun c q y hy => h _ (Or.inl ⟨c, q, y, hy, rfl⟩))
theorem rm_sources {Q : Int32 → (Nat → Int32) → Prop} {rw' : Nat → Int32} (hN : 6000 ≤ N) (hA : AOk a) (hS : mSd sd (a_s a)) (h : ∀ r, A_sources a r → ∀ rw', Q r rw') : wp_X12_sources N sd Q rw' := by
  obtain ⟨s1, s2, s3, s4, s5, s6⟩ := AOk_s hA
  rcases lt_of hA with e | e
  · unfold wp_X12_sources
    refine wm_isLane (by omega) (t := 0) (by rw [hS.1.1, show l_t (s_l (a_s a)) = 0 from e]) ⟨fun _ => h _ (if_pos e).symm _, fun q => absurd rfl q⟩
  · exact wm_sources (by omega) (mQ_of hA hS) s1.2.1 s2.1 hS.2.1.2.2.2.1 (by rw [hS.1.1, show l_t (s_l (a_s a)) = 1 from e]; rfl) (h _ (if_neg (by omega)).symm)
end MSK
