/-! class Reach: its answers -/
section CAN
variable {N m sp F : Nat} {cl : Nat → Nat → Bool} {O : Nat → Nat} {Q : Nat → Nat → Nat} {pa la dp : Nat → Nat} {em es fo : Int32} {el wh rw' fr de : Nat → Int32}
theorem cX_FB (h : cX m sp cl O F Q pa la dp em es el fo wh rw' fr de) : FB (Lg m sp cl) (rk m O) F (fun j => rk m (Q j)) dp := RB_FB h.2.2.2.2
theorem wl_aOr {n : Nat} {K : Int32 → Prop} {x : Int32} (hN : 6000 ≤ N) (hm : m ≤ 7) (h : cX m sp cl O F Q pa la dp em es el fo wh rw' fr de) (hn : n ≤ 9999) (hx : x = jn n) (hK : ∀ y, aOr (Lg m sp cl) (rk m O) n y → K (jn (y : Int))) : wp_X5_within N fo de K x :=
  wl_within hN h.2.2.2.1 hn hx (hK _ ⟨F, _, dp, cX_FB h, fun j _ => rk_lt hm, rfl⟩)
theorem wl_aMo {K : Int32 → Prop} (h : cX m sp cl O F Q pa la dp em es el fo wh rw' fr de) (hK : ∀ y, aMo (Lg m sp cl) (rk m O) y → K (jn (y : Int))) : wp_X5_most N fo de K :=
  wl_most h.2.2.2.1 (cX_FB h).1 (hK _ (FB_most (cX_FB h)))
theorem wl_aFo {K : Int32 → Prop} (hN : 6000 ≤ N) (hm : m ≤ 7) (h : cX m sp cl O F Q pa la dp em es el fo wh rw' fr de) (hK : ∀ y, aFo (Lg m sp cl) m (rk m O) y → K (jn (y : Int))) : wp_X5_farthestOrder N em fo rw' de K := by
  have hF := cX_FB h
  rw [h.1]
  refine wl_far hN hm h.2.2.2.1 hF.1 (fun x hx hmin => hK x ⟨_, FB_most hF, ?_, fun r hr hd => ?_⟩)
  · obtain ⟨j, j1, j2, j3⟩ := hx
    refine ⟨Q j, (h.2.2.2.1.2.2.1 j j1).1, ?_, j3.symm⟩
    rw [← j2]; exact FB_Ds hF j1
  · obtain ⟨j, j1, j2, j3⟩ := (FB_iff hF).mp hd
    have hPj := (h.2.2.2.1.2.2.1 j j1).1
    have := hmin j j1 j3
    have j2' : rk m (Q j) = rk m r := j2
    have := rk_mono hm hPj hr (by omega)
    omega
theorem wl_aFi {c : Nat} {K : Int32 → Prop} {x : Int32} (hN : 6000 ≤ N) (hm : m ≤ 7) (h : cX m sp cl O F Q pa la dp em es el fo wh rw' fr de) (hc : c < m) (hx : x = jn c) (hK : ∀ y, aFi (Lg m sp cl) m (rk m O) c y → K (jn y)) : wp_X5_soonestFirst N fo rw' de K x := by
  have hF := cX_FB h
  have hB := h.2.2.2.1
  have q0 : ∀ (r : Nat → Nat) (d : Nat), Pm m r → r 0 = c → Ds (Lg m sp cl) (rk m O) (rk m r) d → ∃ j, j < F ∧ Q j 0 = c ∧ dp j = d := by
    intro r d hr h0 hd
    obtain ⟨j, j1, j2, j3⟩ := (FB_iff hF).mp hd
    have j2' : rk m (Q j) = rk m r := j2
    refine ⟨j, j1, ?_, j3⟩
    rw [rk_inj hm (hB.2.2.1 j j1).1 hr j2' 0 (by omega)]; exact h0
  refine wl_soonest hN hm hB hc hx (fun j hj h0 hmin => hK _ (Or.inl ⟨dp j, Q j, (hB.2.2.1 j hj).1, h0, FB_Ds hF hj, ?_, rfl, fun r' d' b1 b2 b3 => ?_⟩)) (fun hno => hK (-2) (Or.inr ⟨fun r d hr h0 hd => ?_, rfl⟩))
  · have := (hB.2.2.1 j hj).2.2.2.2.2.2.2
    have := hB.2.1
    omega
  · obtain ⟨i, i1, i2, i3⟩ := q0 r' d' b1 b2 b3
    rw [← i3]
    refine hF.2.2.2.2.2.2 j i ?_ i1
    by_cases q : j ≤ i
    · exact q
    · exact absurd i2 (hmin i (by omega))
  · obtain ⟨i, i1, i2, -⟩ := q0 r d hr h0 hd
    exact hno i i1 i2
theorem wl_aBe {c : Nat} {K : Int32 → Prop} {x : Int32} (hN : 6000 ≤ N) (hm : m ≤ 7) (h : cX m sp cl O F Q pa la dp em es el fo wh rw' fr de) (hc : c < m) (hx : x = jn c) (hK : ∀ y : Nat, aBe (Lg m sp cl) m (rk m O) c y → K (jn (y : Int))) : wp_X5_alwaysAhead N em fo rw' K x := by
  have hF := cX_FB h
  have hB := h.2.2.2.1
  rw [h.1]
  refine wl_always hN hm hB hc hx (fun y hy => hK y (fun d => ?_))
  rw [hy d]
  refine ⟨fun ⟨a, b⟩ => ⟨a, fun r e hr hd => ?_⟩, fun ⟨a, b⟩ => ⟨a, fun j hj => b (Q j) (dp j) (hB.2.2.1 j hj).1 (FB_Ds hF hj)⟩⟩
  obtain ⟨j, j1, j2, -⟩ := (FB_iff hF).mp hd
  have j2' : rk m (Q j) = rk m r := j2
  have hh := rk_inj hm (hB.2.2.1 j j1).1 hr j2'
  rw [← iv_congr hh, ← iv_congr (c := c) hh]
  exact b j j1
/-- an order is found, and how far it is, and the i-th leap; or it is not -/
theorem wl_aFw {r : Nat → Nat} {K : Int32 → (Nat → Int32) → (Nat → Int32) → Prop} {x : Int32} {eo ee : Nat → Int32} (hN : 6000 ≤ N) (hm : m ≤ 7) (h : cX m sp cl O F Q pa la dp em es el fo wh rw' fr de) (hO : Ord m x r)
    (h1 : ∀ t, t < F → rk m (Q t) = rk m r → Ds (Lg m sp cl) (rk m O) (rk m r) (dp t) → dp t < 5040 → de t = jn (dp t : Int) → (∀ i, i < dp t → Gp (Lg m sp cl) (rk m r) i (rk m O) (dp t) (la (up pa t (dp t - (i + 1))))) → ∀ eo ee, K (jn (t : Int)) eo ee) (h2 : (∀ d, ¬ Ds (Lg m sp cl) (rk m O) (rk m r) d) → ∀ eo ee, K (-1) eo ee) : wp_X5_find N em wh K x eo ee := by
  have hF := cX_FB h
  have hB := h.2.2.2.1
  rw [h.1]
  refine wl_find hN hm hB hO.1 hO.2 (fun j hj e eo ee => ?_) (fun hno eo ee => h2 (fun d hd => ?_) eo ee)
  · obtain ⟨-, -, -, g4, -, -, -, g8⟩ := hB.2.2.1 j hj
    have h5 := hB.2.1
    refine h1 j hj e ?_ (by omega) g4 (fun i hi => ?_) eo ee
    · rw [← e]; exact FB_Ds hF hj
    · have := RB_lab h.2.2.2.2 hj hi
      rw [← e]; exact this
  · obtain ⟨j, j1, j2, -⟩ := (FB_iff hF).mp hd
    exact hno j j1 j2
end CAN
