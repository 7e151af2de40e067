/-! what is asked: the class -/
section CSK
variable {N : Nat} {a : aS} {lb lv lr od bk br lp nt nc od' bk' br' lp' : Nat → Int32} {t s m tn nm inf rm x sx tn' : Int32} {rl : Nat → Option Nat}
theorem cm_ahead_N  {p q w : Int32} {Q : Int32 → Int32 → (Nat → Int32) → (Nat → Int32) → (Nat → Int32) → (Nat → Int32) → Prop} (hN : 6000 ≤ N) (hA : AOk a) (hF : ∀ K : Prop, K → wp_X11_ruleInForce_N N rm rl inf K) (hL : cL t s m lb lv lr (a_l a)) (hG : cG (l_k (a_l a)) tn od bk br lp (a_g a)) (hr : rNow a = none)  (h : ∀ r, A_ahead a p q w r → ∀ t o b r' p, Q r t o b r' p) : wp_X11_ahead_N N rm rl t s m lv lr tn od bk br lp inf Q p q w tn' od' bk' br' lp' := by
  obtain ⟨s1, s2, s3, s4, s5, s6⟩ := AOk_s hA
  obtain ⟨l1, l2, l3, l4, l5, l6⟩ := hL
  have hok := rNow_ok hA
  rw [hr] at hok
  unfold A_ahead at h
  rw [hr] at h
  rw [l1, l2, l3]
  exact wl_ahead_N (by omega) hF s1 s2 hG l5 l6 (by omega) (fun q => h _ (Or.inr ⟨q, rfl⟩)) (fun n q => h _ (Or.inl ⟨n, q, rfl⟩))
theorem cm_leads_N  {p : Int32} {Q : Int32 → Int32 → (Nat → Int32) → (Nat → Int32) → (Nat → Int32) → (Nat → Int32) → Prop} (hN : 6000 ≤ N) (hA : AOk a) (hF : ∀ K : Prop, K → wp_X11_ruleInForce_N N rm rl inf K) (hL : cL t s m lb lv lr (a_l a)) (hG : cG (l_k (a_l a)) tn od bk br lp (a_g a)) (hr : rNow a = none)  (h : ∀ r, A_leads a p r → ∀ t o b r' p, Q r t o b r' p) : wp_X11_leads_N N rm rl s m lv lr tn od bk br lp inf Q p tn' od' bk' br' lp' := by
  obtain ⟨s1, s2, s3, s4, s5, s6⟩ := AOk_s hA
  obtain ⟨l1, l2, l3, l4, l5, l6⟩ := hL
  have hok := rNow_ok hA
  rw [hr] at hok
  unfold A_leads at h
  rw [hr] at h
  rw [l2, l3]
  exact wl_leads_N (by omega) hF s1 s2 hG l5 l6 (by omega) (fun q => h _ (Or.inr ⟨fun n z => (by rw [q] at z; cases z), rfl⟩)) (fun n q => h _ (Or.inl ⟨n, q, rfl⟩))
theorem cm_stuck_N  {Q : Int32 → Int32 → (Nat → Int32) → (Nat → Int32) → (Nat → Int32) → (Nat → Int32) → Prop} (hN : 6000 ≤ N) (hA : AOk a) (hF : ∀ K : Prop, K → wp_X11_ruleInForce_N N rm rl inf K) (hL : cL t s m lb lv lr (a_l a)) (hG : cG (l_k (a_l a)) tn od bk br lp (a_g a)) (hr : rNow a = none)  (h : ∀ r, A_stuck a r → ∀ t o b r' p, Q r t o b r' p) : wp_X11_stuck_N N rm rl t s m lv lr tn od bk br lp inf Q tn' od' bk' br' lp' := by
  obtain ⟨s1, s2, s3, s4, s5, s6⟩ := AOk_s hA
  obtain ⟨l1, l2, l3, l4, l5, l6⟩ := hL
  have hok := rNow_ok hA
  rw [hr] at hok
  unfold A_stuck at h
  rw [hr] at h
  rw [l1, l2, l3]
  exact wl_stuck_N (by omega) hF s1 s2 hG l5 l6 (by omega) (fun q => h _ (if_pos q).symm) (fun q => h _ (if_neg (by omega)).symm)
theorem cm_given_N  {p w : Int32} {Q : Int32 → Int32 → (Nat → Int32) → (Nat → Int32) → (Nat → Int32) → (Nat → Int32) → Prop} (hN : 6000 ≤ N) (hA : AOk a) (hF : ∀ K : Prop, K → wp_X11_ruleInForce_N N rm rl inf K) (hL : cL t s m lb lv lr (a_l a)) (hG : cG (l_k (a_l a)) tn od bk br lp (a_g a)) (hr : rNow a = none)  (h : ∀ r, A_given a p w r → ∀ t o b r' p, Q r t o b r' p) : wp_X11_given_N N rm rl t s m lv lr tn od bk br lp inf Q p w tn' od' bk' br' lp' := by
  obtain ⟨s1, s2, s3, s4, s5, s6⟩ := AOk_s hA
  obtain ⟨l1, l2, l3, l4, l5, l6⟩ := hL
  have hok := rNow_ok hA
  rw [hr] at hok
  unfold A_given at h
  rw [hr] at h
  rw [l1, l2, l3]
  exact wl_given_N (by omega) hF s1 s2 hG l5 l6 (by omega) (fun q => h _ (Or.inr ⟨q, rfl⟩)) (fun n q => h _ (Or.inl ⟨n, q, rfl⟩))
theorem cm_rests_N  {p q z w : Int32} {ga : Nat → Int32} {Q : Int32 → Int32 → (Nat → Int32) → (Nat → Int32) → (Nat → Int32) → (Nat → Int32) → (Nat → Int32) → Prop} (hN : 6000 ≤ N) (hA : AOk a) (hF : ∀ K : Prop, K → wp_X11_ruleInForce_N N rm rl inf K) (hL : cL t s m lb lv lr (a_l a)) (hG : cG (l_k (a_l a)) tn od bk br lp (a_g a)) (hr : rNow a = none)  (h : ∀ r, A_rests a p q z w r → ∀ t o b r' p ga, Q r t o b r' p ga) : wp_X11_rests_N N rm rl s m lv lr tn od bk br lp inf Q p q z w tn' od' bk' br' lp' ga := by
  obtain ⟨s1, s2, s3, s4, s5, s6⟩ := AOk_s hA
  obtain ⟨l1, l2, l3, l4, l5, l6⟩ := hL
  have hok := rNow_ok hA
  rw [hr] at hok
  unfold A_rests at h
  rw [hr] at h
  rw [l2, l3]
  exact wl_rests_N (by omega) hF s1 s2 hG l5 l6 (by omega) (fun q => h _ (Or.inr ⟨fun t => q t.1 t.2.1 t.2.2, rfl⟩)) (fun b c n q => h _ (Or.inl ⟨(b, c, n), q, rfl⟩))
theorem cm_alike_N  {w : Int32} {mk : Nat → Int64} {Q : Int32 → Int32 → (Nat → Int32) → (Nat → Int32) → (Nat → Int32) → (Nat → Int32) → (Nat → Int64) → Prop} (hN : 6000 ≤ N) (hA : AOk a) (hF : ∀ K : Prop, K → wp_X11_ruleInForce_N N rm rl inf K) (hL : cL t s m lb lv lr (a_l a)) (hG : cG (l_k (a_l a)) tn od bk br lp (a_g a)) (hr : rNow a = none)  (h : ∀ r, A_alike a w r → ∀ t o b r' p m, Q r t o b r' p m) : wp_X11_alike_N N rm rl t s m lv lr tn od bk br lp inf Q w tn' od' bk' br' lp' mk := by
  obtain ⟨s1, s2, s3, s4, s5, s6⟩ := AOk_s hA
  obtain ⟨l1, l2, l3, l4, l5, l6⟩ := hL
  have hok := rNow_ok hA
  rw [hr] at hok
  unfold A_alike at h
  rw [hr] at h
  rw [l1, l2, l3]
  exact wl_alike_N (by omega) hF s1 s2 hG l5 l6 (by omega) (fun q => h _ (Or.inr ⟨q, rfl⟩)) (fun q x hx => h _ (Or.inl ⟨q, hx⟩))
theorem cm_leapsOf_N  {p kt ks km : Int32} {kb kl kr : Nat → Int32} {Q : Int32 → Int32 → (Nat → Int32) → (Nat → Int32) → (Nat → Int32) → (Nat → Int32) → Int32 → Int32 → Int32 → (Nat → Int32) → (Nat → Int32) → (Nat → Int32) → Prop} (hN : 6000 ≤ N) (hA : AOk a) (hF : ∀ K : Prop, K → wp_X11_ruleInForce_N N rm rl inf K) (hL : cL t s m lb lv lr (a_l a)) (hn : cN nm nt nc (a_v a)) (hr : rNow a = none)  (h : ∀ r, A_leapsOf a p r → ∀ t o b r' p kt ks km kb kl kr, Q r t o b r' p kt ks km kb kl kr) : wp_X11_leapsOf_N N rm rl t s m lb lv lr nm nt nc inf Q p tn' od' bk' br' lp' kt ks km kb kl kr := by
  obtain ⟨s1, s2, s3, s4, s5, s6⟩ := AOk_s hA
  obtain ⟨l1, l2, l3, l4, l5, l6⟩ := hL
  have hok := rNow_ok hA
  rw [hr] at hok
  unfold A_leapsOf at h
  rw [hr] at h
  rw [l1, l2, l3, hn.1]
  exact wl_leapsOf_N (by omega) hF s1 s3 l4 l5 l6 hn.2.1 hn.2.2 (fun q => h _ (Or.inr ⟨fun n z => (by rw [q] at z; cases z), rfl⟩)) (fun n q => h _ (Or.inl ⟨n, q, rfl⟩))
theorem cm_backsOf_N  {p kt ks km : Int32} {kb kl kr : Nat → Int32} {Q : Int32 → Int32 → (Nat → Int32) → (Nat → Int32) → (Nat → Int32) → (Nat → Int32) → Int32 → Int32 → Int32 → (Nat → Int32) → (Nat → Int32) → (Nat → Int32) → Prop} (hN : 6000 ≤ N) (hA : AOk a) (hF : ∀ K : Prop, K → wp_X11_ruleInForce_N N rm rl inf K) (hL : cL t s m lb lv lr (a_l a)) (hn : cN nm nt nc (a_v a)) (hr : rNow a = none)  (h : ∀ r, A_backsOf a p r → ∀ t o b r' p kt ks km kb kl kr, Q r t o b r' p kt ks km kb kl kr) : wp_X11_backsOf_N N rm rl t s m lb lv lr nm nt nc inf Q p tn' od' bk' br' lp' kt ks km kb kl kr := by
  obtain ⟨s1, s2, s3, s4, s5, s6⟩ := AOk_s hA
  obtain ⟨l1, l2, l3, l4, l5, l6⟩ := hL
  have hok := rNow_ok hA
  rw [hr] at hok
  unfold A_backsOf at h
  rw [hr] at h
  rw [l1, l2, l3, hn.1]
  exact wl_backsOf_N (by omega) hF s1 s3 l4 l5 l6 hn.2.1 hn.2.2 (fun q => h _ (Or.inr ⟨fun n z => (by rw [q] at z; cases z), rfl⟩)) (fun n q => h _ (Or.inl ⟨n, q, rfl⟩))
theorem cm_stumbles_N  {p q z w : Int32} {Q : Int32 → Int32 → (Nat → Int32) → (Nat → Int32) → (Nat → Int32) → (Nat → Int32) → Prop} (hN : 6000 ≤ N) (hA : AOk a) (hF : ∀ K : Prop, K → wp_X11_ruleInForce_N N rm rl inf K) (hL : cL t s m lb lv lr (a_l a)) (hG : cG (l_k (a_l a)) tn od bk br lp (a_g a)) (hx : sx = jn (s_x (a_s a) : Int)) (hr : rNow a = none)  (h : ∀ r, A_stumbles a p q z w r → ∀ t o b r' p, Q r t o b r' p) : wp_X11_stumbles_N N rm rl t s m lv lr tn od bk br lp inf sx Q p q z w tn' od' bk' br' lp' := by
  obtain ⟨s1, s2, s3, s4, s5, s6⟩ := AOk_s hA
  obtain ⟨l1, l2, l3, l4, l5, l6⟩ := hL
  have hok := rNow_ok hA
  rw [hr] at hok
  unfold A_stumbles at h
  rw [hr] at h
  rw [l1, l2, l3]
  exact wl_stumbles_N (by omega) hF s1 s2 hG l5 l6 (by omega) s5 hx (fun q => h _ (Or.inr ⟨fun t => q t.1 t.2.1 t.2.2, rfl⟩)) (fun b c n q => h _ (Or.inl ⟨(b, c, n), q, rfl⟩))
theorem cm_ahead_R {f : (Nat → Int64) → Int64} {code : Nat → Int32} {len : Nat} {u pl : Nat → Int64} {p q w : Int32} {Q : Int32 → (Nat → Int64) → (Nat → Int64) → Int32 → (Nat → Int32) → (Nat → Int32) → (Nat → Int32) → (Nat → Int32) → Prop} (hN : 6000 ≤ N) (hA : AOk a) (hF : ∀ K : Prop, K → wp_X11_ruleInForce_R N rm rl inf K) (hL : cL t s m lb lv lr (a_l a)) (hG : cG (l_k (a_l a)) tn od bk br lp (a_g a)) (hr : rNow a = (some f)) (hR : cR N code len f) (h : ∀ r, A_ahead a p q w r → ∀ u pl t o b r' p, Q r u pl t o b r' p) : wp_X11_ahead_R N rm rl t s m lv lr tn od bk br lp inf code len Q p q w u pl tn' od' bk' br' lp' := by
  obtain ⟨s1, s2, s3, s4, s5, s6⟩ := AOk_s hA
  obtain ⟨l1, l2, l3, l4, l5, l6⟩ := hL
  have hok := rNow_ok hA
  rw [hr] at hok
  unfold A_ahead at h
  rw [hr] at h
  rw [l1, l2, l3]
  exact wl_ahead_R (by omega) hF s1 s2 hG l5 l6 (by omega) hok hR (fun q => h _ (Or.inr ⟨q, rfl⟩)) (fun n q => h _ (Or.inl ⟨n, q, rfl⟩))
theorem cm_leads_R {f : (Nat → Int64) → Int64} {code : Nat → Int32} {len : Nat} {u pl : Nat → Int64} {p : Int32} {Q : Int32 → (Nat → Int64) → (Nat → Int64) → Int32 → (Nat → Int32) → (Nat → Int32) → (Nat → Int32) → (Nat → Int32) → Prop} (hN : 6000 ≤ N) (hA : AOk a) (hF : ∀ K : Prop, K → wp_X11_ruleInForce_R N rm rl inf K) (hL : cL t s m lb lv lr (a_l a)) (hG : cG (l_k (a_l a)) tn od bk br lp (a_g a)) (hr : rNow a = (some f)) (hR : cR N code len f) (h : ∀ r, A_leads a p r → ∀ u pl t o b r' p, Q r u pl t o b r' p) : wp_X11_leads_R N rm rl s m lv lr tn od bk br lp inf code len Q p u pl tn' od' bk' br' lp' := by
  obtain ⟨s1, s2, s3, s4, s5, s6⟩ := AOk_s hA
  obtain ⟨l1, l2, l3, l4, l5, l6⟩ := hL
  have hok := rNow_ok hA
  rw [hr] at hok
  unfold A_leads at h
  rw [hr] at h
  rw [l2, l3]
  exact wl_leads_R (by omega) hF s1 s2 hG l5 l6 (by omega) hok hR (fun q => h _ (Or.inr ⟨fun n z => (by rw [q] at z; cases z), rfl⟩)) (fun n q => h _ (Or.inl ⟨n, q, rfl⟩))
theorem cm_stuck_R {f : (Nat → Int64) → Int64} {code : Nat → Int32} {len : Nat} {u pl : Nat → Int64} {Q : Int32 → (Nat → Int64) → (Nat → Int64) → Int32 → (Nat → Int32) → (Nat → Int32) → (Nat → Int32) → (Nat → Int32) → Prop} (hN : 6000 ≤ N) (hA : AOk a) (hF : ∀ K : Prop, K → wp_X11_ruleInForce_R N rm rl inf K) (hL : cL t s m lb lv lr (a_l a)) (hG : cG (l_k (a_l a)) tn od bk br lp (a_g a)) (hr : rNow a = (some f)) (hR : cR N code len f) (h : ∀ r, A_stuck a r → ∀ u pl t o b r' p, Q r u pl t o b r' p) : wp_X11_stuck_R N rm rl t s m lv lr tn od bk br lp inf code len Q u pl tn' od' bk' br' lp' := by
  obtain ⟨s1, s2, s3, s4, s5, s6⟩ := AOk_s hA
  obtain ⟨l1, l2, l3, l4, l5, l6⟩ := hL
  have hok := rNow_ok hA
  rw [hr] at hok
  unfold A_stuck at h
  rw [hr] at h
  rw [l1, l2, l3]
  exact wl_stuck_R (by omega) hF s1 s2 hG l5 l6 (by omega) hok hR (fun q => h _ (if_pos q).symm) (fun q => h _ (if_neg (by omega)).symm)
theorem cm_given_R {f : (Nat → Int64) → Int64} {code : Nat → Int32} {len : Nat} {u pl : Nat → Int64} {p w : Int32} {Q : Int32 → (Nat → Int64) → (Nat → Int64) → Int32 → (Nat → Int32) → (Nat → Int32) → (Nat → Int32) → (Nat → Int32) → Prop} (hN : 6000 ≤ N) (hA : AOk a) (hF : ∀ K : Prop, K → wp_X11_ruleInForce_R N rm rl inf K) (hL : cL t s m lb lv lr (a_l a)) (hG : cG (l_k (a_l a)) tn od bk br lp (a_g a)) (hr : rNow a = (some f)) (hR : cR N code len f) (h : ∀ r, A_given a p w r → ∀ u pl t o b r' p, Q r u pl t o b r' p) : wp_X11_given_R N rm rl t s m lv lr tn od bk br lp inf code len Q p w u pl tn' od' bk' br' lp' := by
  obtain ⟨s1, s2, s3, s4, s5, s6⟩ := AOk_s hA
  obtain ⟨l1, l2, l3, l4, l5, l6⟩ := hL
  have hok := rNow_ok hA
  rw [hr] at hok
  unfold A_given at h
  rw [hr] at h
  rw [l1, l2, l3]
  exact wl_given_R (by omega) hF s1 s2 hG l5 l6 (by omega) hok hR (fun q => h _ (Or.inr ⟨q, rfl⟩)) (fun n q => h _ (Or.inl ⟨n, q, rfl⟩))
theorem cm_rests_R {f : (Nat → Int64) → Int64} {code : Nat → Int32} {len : Nat} {u pl : Nat → Int64} {p q z w : Int32} {ga : Nat → Int32} {Q : Int32 → (Nat → Int64) → (Nat → Int64) → Int32 → (Nat → Int32) → (Nat → Int32) → (Nat → Int32) → (Nat → Int32) → (Nat → Int32) → Prop} (hN : 6000 ≤ N) (hA : AOk a) (hF : ∀ K : Prop, K → wp_X11_ruleInForce_R N rm rl inf K) (hL : cL t s m lb lv lr (a_l a)) (hG : cG (l_k (a_l a)) tn od bk br lp (a_g a)) (hr : rNow a = (some f)) (hR : cR N code len f) (h : ∀ r, A_rests a p q z w r → ∀ u pl t o b r' p ga, Q r u pl t o b r' p ga) : wp_X11_rests_R N rm rl s m lv lr tn od bk br lp inf code len Q p q z w u pl tn' od' bk' br' lp' ga := by
  obtain ⟨s1, s2, s3, s4, s5, s6⟩ := AOk_s hA
  obtain ⟨l1, l2, l3, l4, l5, l6⟩ := hL
  have hok := rNow_ok hA
  rw [hr] at hok
  unfold A_rests at h
  rw [hr] at h
  rw [l2, l3]
  exact wl_rests_R (by omega) hF s1 s2 hG l5 l6 (by omega) hok hR (fun q => h _ (Or.inr ⟨fun t => q t.1 t.2.1 t.2.2, rfl⟩)) (fun b c n q => h _ (Or.inl ⟨(b, c, n), q, rfl⟩))
theorem cm_alike_R {f : (Nat → Int64) → Int64} {code : Nat → Int32} {len : Nat} {u pl : Nat → Int64} {w : Int32} {mk : Nat → Int64} {Q : Int32 → (Nat → Int64) → (Nat → Int64) → Int32 → (Nat → Int32) → (Nat → Int32) → (Nat → Int32) → (Nat → Int32) → (Nat → Int64) → Prop} (hN : 6000 ≤ N) (hA : AOk a) (hF : ∀ K : Prop, K → wp_X11_ruleInForce_R N rm rl inf K) (hL : cL t s m lb lv lr (a_l a)) (hG : cG (l_k (a_l a)) tn od bk br lp (a_g a)) (hr : rNow a = (some f)) (hR : cR N code len f) (h : ∀ r, A_alike a w r → ∀ u pl t o b r' p m, Q r u pl t o b r' p m) : wp_X11_alike_R N rm rl t s m lv lr tn od bk br lp inf code len Q w u pl tn' od' bk' br' lp' mk := by
  obtain ⟨s1, s2, s3, s4, s5, s6⟩ := AOk_s hA
  obtain ⟨l1, l2, l3, l4, l5, l6⟩ := hL
  have hok := rNow_ok hA
  rw [hr] at hok
  unfold A_alike at h
  rw [hr] at h
  rw [l1, l2, l3]
  exact wl_alike_R (by omega) hF s1 s2 hG l5 l6 (by omega) hok hR (fun q => h _ (Or.inr ⟨q, rfl⟩)) (fun q x hx => h _ (Or.inl ⟨q, hx⟩))
theorem cm_leapsOf_R {f : (Nat → Int64) → Int64} {code : Nat → Int32} {len : Nat} {u pl : Nat → Int64} {p kt ks km : Int32} {kb kl kr : Nat → Int32} {Q : Int32 → (Nat → Int64) → (Nat → Int64) → Int32 → (Nat → Int32) → (Nat → Int32) → (Nat → Int32) → (Nat → Int32) → Int32 → Int32 → Int32 → (Nat → Int32) → (Nat → Int32) → (Nat → Int32) → Prop} (hN : 6000 ≤ N) (hA : AOk a) (hF : ∀ K : Prop, K → wp_X11_ruleInForce_R N rm rl inf K) (hL : cL t s m lb lv lr (a_l a)) (hn : cN nm nt nc (a_v a)) (hr : rNow a = (some f)) (hR : cR N code len f) (h : ∀ r, A_leapsOf a p r → ∀ u pl t o b r' p kt ks km kb kl kr, Q r u pl t o b r' p kt ks km kb kl kr) : wp_X11_leapsOf_R N rm rl t s m lb lv lr nm nt nc inf code len Q p u pl tn' od' bk' br' lp' kt ks km kb kl kr := by
  obtain ⟨s1, s2, s3, s4, s5, s6⟩ := AOk_s hA
  obtain ⟨l1, l2, l3, l4, l5, l6⟩ := hL
  have hok := rNow_ok hA
  rw [hr] at hok
  unfold A_leapsOf at h
  rw [hr] at h
  rw [l1, l2, l3, hn.1]
  exact wl_leapsOf_R (by omega) hF s1 s3 l4 l5 l6 hn.2.1 hn.2.2 hok hR (fun q => h _ (Or.inr ⟨fun n z => (by rw [q] at z; cases z), rfl⟩)) (fun n q => h _ (Or.inl ⟨n, q, rfl⟩))
theorem cm_backsOf_R {f : (Nat → Int64) → Int64} {code : Nat → Int32} {len : Nat} {u pl : Nat → Int64} {p kt ks km : Int32} {kb kl kr : Nat → Int32} {Q : Int32 → (Nat → Int64) → (Nat → Int64) → Int32 → (Nat → Int32) → (Nat → Int32) → (Nat → Int32) → (Nat → Int32) → Int32 → Int32 → Int32 → (Nat → Int32) → (Nat → Int32) → (Nat → Int32) → Prop} (hN : 6000 ≤ N) (hA : AOk a) (hF : ∀ K : Prop, K → wp_X11_ruleInForce_R N rm rl inf K) (hL : cL t s m lb lv lr (a_l a)) (hn : cN nm nt nc (a_v a)) (hr : rNow a = (some f)) (hR : cR N code len f) (h : ∀ r, A_backsOf a p r → ∀ u pl t o b r' p kt ks km kb kl kr, Q r u pl t o b r' p kt ks km kb kl kr) : wp_X11_backsOf_R N rm rl t s m lb lv lr nm nt nc inf code len Q p u pl tn' od' bk' br' lp' kt ks km kb kl kr := by
  obtain ⟨s1, s2, s3, s4, s5, s6⟩ := AOk_s hA
  obtain ⟨l1, l2, l3, l4, l5, l6⟩ := hL
  have hok := rNow_ok hA
  rw [hr] at hok
  unfold A_backsOf at h
  rw [hr] at h
  rw [l1, l2, l3, hn.1]
  exact wl_backsOf_R (by omega) hF s1 s3 l4 l5 l6 hn.2.1 hn.2.2 hok hR (fun q => h _ (Or.inr ⟨fun n z => (by rw [q] at z; cases z), rfl⟩)) (fun n q => h _ (Or.inl ⟨n, q, rfl⟩))
theorem cm_stumbles_R {f : (Nat → Int64) → Int64} {code : Nat → Int32} {len : Nat} {u pl : Nat → Int64} {p q z w : Int32} {Q : Int32 → (Nat → Int64) → (Nat → Int64) → Int32 → (Nat → Int32) → (Nat → Int32) → (Nat → Int32) → (Nat → Int32) → Prop} (hN : 6000 ≤ N) (hA : AOk a) (hF : ∀ K : Prop, K → wp_X11_ruleInForce_R N rm rl inf K) (hL : cL t s m lb lv lr (a_l a)) (hG : cG (l_k (a_l a)) tn od bk br lp (a_g a)) (hx : sx = jn (s_x (a_s a) : Int)) (hr : rNow a = (some f)) (hR : cR N code len f) (h : ∀ r, A_stumbles a p q z w r → ∀ u pl t o b r' p, Q r u pl t o b r' p) : wp_X11_stumbles_R N rm rl t s m lv lr tn od bk br lp inf sx code len Q p q z w u pl tn' od' bk' br' lp' := by
  obtain ⟨s1, s2, s3, s4, s5, s6⟩ := AOk_s hA
  obtain ⟨l1, l2, l3, l4, l5, l6⟩ := hL
  have hok := rNow_ok hA
  rw [hr] at hok
  unfold A_stumbles at h
  rw [hr] at h
  rw [l1, l2, l3]
  exact wl_stumbles_R (by omega) hF s1 s2 hG l5 l6 (by omega) hok hR s5 hx (fun q => h _ (Or.inr ⟨fun t => q t.1 t.2.1 t.2.2, rfl⟩)) (fun b c n q => h _ (Or.inl ⟨(b, c, n), q, rfl⟩))
theorem cm_pence {p q : Int32} {Q : Int32 → Prop} (hN : 6000 ≤ N) (hA : AOk a) (hL : cL t s m lb lv lr (a_l a)) (hG : cG (l_k (a_l a)) tn od bk br lp (a_g a)) (h : ∀ r, A_pence a p q r → Q r) : wp_X11_pence_N N m lp Q p q := by
  obtain ⟨s1, s2, s3, s4, s5, s6⟩ := AOk_s hA
  rw [hL.2.2.1]
  exact wl_pence (by omega) s1 s2 hG.2.2.2.2 (fun q => h _ (Or.inr ⟨q, rfl⟩)) (fun n q => h _ (Or.inl ⟨n, q, rfl⟩))
theorem cm_sources {Q : Int32 → Prop} (hN : 6000 ≤ N) (hA : AOk a) (hL : cL t s m lb lv lr (a_l a)) (hG : cG (l_k (a_l a)) tn od bk br lp (a_g a)) (h : ∀ r, A_sources a r → Q r) : wp_X11_sources_N N t s m lv od bk Q := by
  obtain ⟨s1, s2, s3, s4, s5, s6⟩ := AOk_s hA
  obtain ⟨l1, l2, l3, l4, l5, l6⟩ := hL
  rcases lt_of hA with e | e
  · unfold wp_X11_sources_N
    rw [l1, e]
    exact ⟨fun _ => h _ (if_pos e).symm, fun q => absurd rfl q⟩
  · rw [l1, l2, l3, show jn (l_t (a_l a) : Int) = 1 from by rw [e]; rfl]
    exact wl_sources (by omega) s1.2.2.1 s1.2.1 l5 hG.2.1 hG.2.2.1 (fun c _ => by have := s1.2.2.2.2.2.1 c; omega) (fun c _ => by have := s2.2.1 c; omega) s2.1 (h _ (if_neg (by omega)).symm)
end CSK
