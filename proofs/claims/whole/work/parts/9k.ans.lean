/-! what is asked: the answers, and the reference's -/
def QA {α : Type} (q : α → Prop) (f : α → Int32) (d r : Int32) : Prop := (∃ n, q n ∧ r = f n) ∨ ((∀ n, ¬ q n) ∧ r = d)
theorem QA_un {α : Type} {q : α → Prop} {f : α → Int32} {d r r' : Int32} (hq : ∀ n n', q n → q n' → n = n') (h : QA q f d r) (h' : QA q f d r') : r = r' := by
  rcases h with ⟨n, h1, h2⟩ | ⟨h1, h2⟩
  · rcases h' with ⟨n', g1, g2⟩ | ⟨g1, g2⟩
    · rw [h2, g2, hq n n' h1 g1]
    · exact absurd h1 (g1 n)
  · rcases h' with ⟨n', g1, g2⟩ | ⟨g1, g2⟩
    · exact absurd g1 (h1 n')
    · rw [h2, g2]
def A_ahead (a : aS) (x y w : Int32) : Int32 → Prop := QA (qAh (a_l a) x y w) (fun n => aAh (a_l a) (rNow a) (a_g a) x n w) (-1)
def A_leads (a : aS) (x : Int32) : Int32 → Prop := QA (fun c => asC (l_k (a_l a)) x = some c) (fun c => a200 (a_g a) (pLd (a_l a) (rNow a) (a_g a) c)) (-1)
def A_stuck (a : aS) (r : Int32) : Prop := r = if l_t (a_l a) = 0 then -1 else a200 (a_g a) (pSt (a_l a) (rNow a) (a_g a))
def A_given (a : aS) (x w : Int32) : Int32 → Prop := QA (qGv (a_l a) x w) (fun n => aGv (a_l a) (rNow a) (a_g a) n w) (-2)
def A_rests (a : aS) (x y z w : Int32) : Int32 → Prop := QA (fun t : Nat × Nat × Nat => qRs (a_l a) x y z w t.1 t.2.1 t.2.2) (fun t => aRs (rP (gnA (a_l a) (rNow a) (a_g a) t.2.2 t.1 t.2.1)) w) (-1)
def A_alike (a : aS) (w r : Int32) : Prop := (qAl (a_l a) w ∧ aAl (a_l a) (rNow a) (a_g a) w r) ∨ (¬ qAl (a_l a) w ∧ r = -1)
def A_pence (a : aS) (x y : Int32) : Int32 → Prop := QA (qPe (l_k (a_l a)) x y) (fun c => aPe (l_k (a_l a)) (a_g a) x c) (-1)
def A_leapsOf (a : aS) (x : Int32) : Int32 → Prop := QA (fun c => asC (l_k (a_l a)) x = some c) (fun c => jn (bs (cbF (fun i => nh (lwL (a_l a) c i) (rNow a) (a_v a))) 21 : Int)) (-1)
def A_backsOf (a : aS) (x : Int32) : Int32 → Prop := QA (fun c => asC (l_k (a_l a)) x = some c) (fun c => jn (bs (cbF (fun i => nh (lwB (a_l a) c i) (rNow a) (a_v a))) 21 : Int)) (-1)
def A_ruled (a : aS) (w r : Int32) : Prop := (qAl (a_l a) w ∧ r = aRu (fun i => nh (a_l a) (rO (rFn a) i) (a_v a)) (a_r a + 1) w) ∨ (¬ qAl (a_l a) w ∧ r = -3)
def A_look (a : aS) (w r : Int32) : Prop := (qAl (a_l a) w ∧ r = aLk (l_k (a_l a)) (fun i => nh (a_l a) (rO (rFn a) i) (a_v a)) (fun i => ft (a_l a) (rO (rFn a) i)) (a_r a + 1) w) ∨ (¬ qAl (a_l a) w ∧ r = -1)
def A_stumbles (a : aS) (x y z w : Int32) : Int32 → Prop := QA (fun t : Nat × Nat × Nat => qSm (a_l a) x y z w t.1 t.2.1 t.2.2) (fun t => aSm w (stM (a_l a) (rNow a) (a_g a) t.2.2 t.2.1 (s_x (a_s a)) t.1)) (-1)
def A_sources (a : aS) (r : Int32) : Prop := r = if l_t (a_l a) = 0 then -1 else jn (sumTo (src (l_k (a_l a)) (l_s (a_l a)) (l_l (a_l a)) (g_b (a_g a)) (g_o (a_g a))) (l_k (a_l a)) : Int)
/-- the leaps from order to order -/
def gE (a : aS) : Nat → Nat → Nat → Prop := Lg (l_k (a_l a)) (l_s (a_l a)) (clf (l_l (a_l a)) (g_b (a_g a)))
def gS0 (a : aS) : Nat := rk (l_k (a_l a)) (g_o (a_g a))
def isO (a : aS) (x : Int32) (o : Nat → Nat) : Prop := l_t (a_l a) = 1 ∧ Ord (l_k (a_l a)) x o
def A_fewest (a : aS) (x r : Int32) : Prop := (∃ o, isO a x o ∧ ∃ y, aFw (gE a) (gS0 a) (rk (l_k (a_l a)) o) y ∧ r = jn y) ∨ ((∀ o, ¬ isO a x o) ∧ r = -1)
def A_step (a : aS) (x y z r : Int32) : Prop := (∃ o, isO a x o ∧ 0 ≤ y.toInt ∧ (z = 0 ∨ z = 1) ∧ ((∃ D l : Nat, Ds (gE a) (gS0 a) (rk (l_k (a_l a)) o) D ∧ y.toInt < D ∧ Gp (gE a) (rk (l_k (a_l a)) o) y.toInt.toNat (gS0 a) D l ∧ r = if z = 0 then jn ((l / 8 : Nat) : Int) else jn ((l % 8 : Nat) : Int)) ∨ ((∀ D : Nat, Ds (gE a) (gS0 a) (rk (l_k (a_l a)) o) D → (D : Int) ≤ y.toInt) ∧ r = -2))) ∨ ((∀ o, ¬ (isO a x o ∧ 0 ≤ y.toInt ∧ (z = 0 ∨ z = 1))) ∧ r = -1)
def A_orders (a : aS) (x r : Int32) : Prop := ((l_t (a_l a) = 1 ∧ 0 ≤ x.toInt ∧ x.toInt ≤ 30) ∧ ∃ y : Nat, aOr (gE a) (gS0 a) x.toInt.toNat y ∧ r = jn (y : Int)) ∨ (¬ (l_t (a_l a) = 1 ∧ 0 ≤ x.toInt ∧ x.toInt ≤ 30) ∧ r = -1)
def A_farthest (a : aS) (x r : Int32) : Prop := (l_t (a_l a) = 1 ∧ x = 0 ∧ ∃ y : Nat, aMo (gE a) (gS0 a) y ∧ r = jn (y : Int)) ∨ (l_t (a_l a) = 1 ∧ x = 1 ∧ ∃ y : Nat, aFo (gE a) (l_k (a_l a)) (gS0 a) y ∧ r = jn (y : Int)) ∨ (¬ (l_t (a_l a) = 1 ∧ (x = 0 ∨ x = 1)) ∧ r = -1)
def A_first (a : aS) (x r : Int32) : Prop := (∃ c, asC (l_k (a_l a)) x = some c ∧ ∃ y, aFi (gE a) (l_k (a_l a)) (gS0 a) c y ∧ r = jn y) ∨ (asC (l_k (a_l a)) x = none ∧ r = -1)
def A_behind (a : aS) (x r : Int32) : Prop := (∃ c, asC (l_k (a_l a)) x = some c ∧ ∃ y : Nat, aBe (gE a) (l_k (a_l a)) (gS0 a) c y ∧ r = jn (y : Int)) ∨ (asC (l_k (a_l a)) x = none ∧ r = -1)
section UNS
variable {a : aS} {x y z w r r' : Int32}
theorem jnN {n m : Nat} (hn : n ≤ 400) (hm : m ≤ 400) (h : jn (n : Int) = jn (m : Int)) : n = m := by
  rw [jn_eq (by omega) (by omega)] at h; omega
theorem A_ahead_un (h : A_ahead a x y w r) (h' : A_ahead a x y w r') : r = r' := QA_un (fun n n' q q' => jnN (by have := q.2.2.1; omega) (by have := q'.2.2.1; omega) (q.2.1.symm.trans q'.2.1)) h h'
theorem sm_un {k : Nat} {x : Int32} : ∀ n n', asC k x = some n → asC k x = some n' → n = n' := fun n n' q q' => by rw [q] at q'; cases q'; rfl
theorem A_leads_un (h : A_leads a x r) (h' : A_leads a x r') : r = r' := QA_un sm_un h h'
theorem A_leapsOf_un (h : A_leapsOf a x r) (h' : A_leapsOf a x r') : r = r' := QA_un sm_un h h'
theorem A_backsOf_un (h : A_backsOf a x r) (h' : A_backsOf a x r') : r = r' := QA_un sm_un h h'
theorem A_given_un (h : A_given a x w r) (h' : A_given a x w r') : r = r' := QA_un (fun n n' q q' => jnN (by have := q.2.2.2.1; omega) (by have := q'.2.2.2.1; omega) (q.2.1.symm.trans q'.2.1)) h h'
theorem A_pence_un (h : A_pence a x y r) (h' : A_pence a x y r') : r = r' := QA_un (fun n n' q q' => sm_un n n' q.1 q'.1) h h'
theorem A_rests_un (h : A_rests a x y z w r) (h' : A_rests a x y z w r') : r = r' := QA_un (fun n n' q q' => by
  obtain ⟨n1, n2, n3⟩ := n
  obtain ⟨m1, m2, m3⟩ := n'
  dsimp only at q q'
  obtain ⟨q1, q2, q3, q4, q5, q6, q7⟩ := q
  obtain ⟨p1, p2, p3, p4, p5, p6, p7⟩ := q'
  have e1 := sm_un _ _ q1 p1
  have e2 := sm_un _ _ q2 p2
  have e3 := jnN (n := n3) (m := m3) (by omega) (by omega) (q4.symm.trans p4)
  rw [e1, e2, e3]) h h'
theorem A_stumbles_un (h : A_stumbles a x y z w r) (h' : A_stumbles a x y z w r') : r = r' := QA_un (fun n n' q q' => by
  obtain ⟨n1, n2, n3⟩ := n
  obtain ⟨m1, m2, m3⟩ := n'
  dsimp only at q q'
  obtain ⟨-, q1, q2, q3, q4, q5, q6, q7, q8, -⟩ := q
  obtain ⟨-, p1, p2, p3, p4, p5, p6, p7, p8, -⟩ := q'
  have e1 := jnN (n := n1) (m := m1) (by omega) (by omega) (q1.symm.trans p1)
  have e2 := jnN (n := n2) (m := m2) (by omega) (by omega) (q4.symm.trans p4)
  have e3 := jnN (n := n3) (m := m3) (by omega) (by omega) (q7.symm.trans p7)
  rw [e1, e2, e3]) h h'
theorem A_alike_un (h : A_alike a w r) (h' : A_alike a w r') : r = r' := by
  rcases h with ⟨h1, h2⟩ | ⟨h1, h2⟩
  · rcases h' with ⟨g1, g2⟩ | ⟨g1, g2⟩
    · exact aAl_un h2 g2
    · exact absurd h1 g1
  · rcases h' with ⟨g1, g2⟩ | ⟨g1, g2⟩
    · exact absurd g1 h1
    · rw [h2, g2]
theorem A_ruled_un (h : A_ruled a w r) (h' : A_ruled a w r') : r = r' := by
  rcases h with ⟨h1, h2⟩ | ⟨h1, h2⟩
  · rcases h' with ⟨g1, g2⟩ | ⟨g1, g2⟩
    · rw [h2, g2]
    · exact absurd h1 g1
  · rcases h' with ⟨g1, g2⟩ | ⟨g1, g2⟩
    · exact absurd g1 h1
    · rw [h2, g2]
theorem A_look_un (h : A_look a w r) (h' : A_look a w r') : r = r' := by
  rcases h with ⟨h1, h2⟩ | ⟨h1, h2⟩
  · rcases h' with ⟨g1, g2⟩ | ⟨g1, g2⟩
    · rw [h2, g2]
    · exact absurd h1 g1
  · rcases h' with ⟨g1, g2⟩ | ⟨g1, g2⟩
    · exact absurd g1 h1
    · rw [h2, g2]
theorem Ord_rk {m : Nat} {x : Int32} {o o' : Nat → Nat} (hm : m ≤ 7) (h : Ord m x o) (h' : Ord m x o') : rk m o = rk m o' := by
  have b1 := onum_bd hm h.1
  have b2 := onum_bd hm h'.1
  have e := h.2.symm.trans h'.2
  rw [jn_eq (by omega) (by omega)] at e
  have e2 := onum_inj (m := m) (r := o) (s := o') (fun i hi => by have := h.1.1 i hi; omega) (fun i hi => by have := h'.1.1 i hi; omega) (by omega)
  exact rk_congr e2
theorem A_fewest_un (hA : AOk a) (h : A_fewest a x r) (h' : A_fewest a x r') : r = r' := by
  have hm := (AOk_s hA).1.2.2.1
  rcases h with ⟨o, h1, y1, h2, h3⟩ | ⟨h1, h2⟩
  · rcases h' with ⟨o', g1, y2, g2, g3⟩ | ⟨g1, g2⟩
    · rw [Ord_rk hm h1.2 g1.2] at h2
      rw [h3, g3, aFw_un h2 g2]
    · exact absurd h1 (g1 o)
  · rcases h' with ⟨o', g1, -⟩ | ⟨g1, g2⟩
    · exact absurd g1 (h1 o')
    · rw [h2, g2]
theorem A_step_un (hA : AOk a) (h : A_step a x y z r) (h' : A_step a x y z r') : r = r' := by
  have hm := (AOk_s hA).1.2.2.1
  rcases h with ⟨o, h1, h2, h3, h4⟩ | ⟨h1, h2⟩
  · rcases h' with ⟨o', g1, g2, g3, g4⟩ | ⟨g1, g2⟩
    · rw [Ord_rk hm h1.2 g1.2] at h4
      rcases h4 with ⟨D, l, d1, d2, d3, d4⟩ | ⟨d1, d2⟩
      · rcases g4 with ⟨D', l', c1, c2, c3, c4⟩ | ⟨c1, c2⟩
        · have e := Ds_un d1 c1
          subst e
          have e2 := Gp_un (E := gE a) (Lg_fun hm) d3 c3
          rw [d4, c4, e2]
        · have := c1 D d1; omega
      · rcases g4 with ⟨D', l', c1, c2, c3, c4⟩ | ⟨c1, c2⟩
        · have := d1 D' c1; omega
        · rw [d2, c2]
    · exact absurd ⟨h1, h2, h3⟩ (g1 o)
  · rcases h' with ⟨o', g1, g2, g3, -⟩ | ⟨g1, g2⟩
    · exact absurd ⟨g1, g2, g3⟩ (h1 o')
    · rw [h2, g2]
theorem A_orders_un (h : A_orders a x r) (h' : A_orders a x r') : r = r' := by
  rcases h with ⟨h1, y1, h2, h3⟩ | ⟨h1, h2⟩
  · rcases h' with ⟨g1, y2, g2, g3⟩ | ⟨g1, g2⟩
    · rw [h3, g3, aOr_un h2 g2]
    · exact absurd h1 g1
  · rcases h' with ⟨g1, -⟩ | ⟨g1, g2⟩
    · exact absurd g1 h1
    · rw [h2, g2]
theorem A_farthest_un (h : A_farthest a x r) (h' : A_farthest a x r') : r = r' := by
  rcases h with ⟨h0, h1, y1, h2, h3⟩ | ⟨h0, h1, y1, h2, h3⟩ | ⟨h1, h2⟩
  · rcases h' with ⟨g0, g1, y2, g2, g3⟩ | ⟨g0, g1, y2, g2, g3⟩ | ⟨g1, g2⟩
    · rw [h3, g3, aMo_un h2 g2]
    · rw [h1] at g1; exact absurd g1 (by decide)
    · exact absurd ⟨h0, Or.inl h1⟩ g1
  · rcases h' with ⟨g0, g1, y2, g2, g3⟩ | ⟨g0, g1, y2, g2, g3⟩ | ⟨g1, g2⟩
    · rw [h1] at g1; exact absurd g1 (by decide)
    · rw [h3, g3, aFo_un h2 g2]
    · exact absurd ⟨h0, Or.inr h1⟩ g1
  · rcases h' with ⟨g0, g1, -⟩ | ⟨g0, g1, -⟩ | ⟨g1, g2⟩
    · exact absurd ⟨g0, Or.inl g1⟩ h1
    · exact absurd ⟨g0, Or.inr g1⟩ h1
    · rw [h2, g2]
theorem A_first_un (h : A_first a x r) (h' : A_first a x r') : r = r' := by
  rcases h with ⟨c, h1, y1, h2, h3⟩ | ⟨h1, h2⟩
  · rcases h' with ⟨c', g1, y2, g2, g3⟩ | ⟨g1, g2⟩
    · have e := sm_un _ _ h1 g1
      subst e
      rw [h3, g3, aFi_un h2 g2]
    · rw [h1] at g1; cases g1
  · rcases h' with ⟨c', g1, -⟩ | ⟨g1, g2⟩
    · rw [h1] at g1; cases g1
    · rw [h2, g2]
theorem A_behind_un (h : A_behind a x r) (h' : A_behind a x r') : r = r' := by
  rcases h with ⟨c, h1, y1, h2, h3⟩ | ⟨h1, h2⟩
  · rcases h' with ⟨c', g1, y2, g2, g3⟩ | ⟨g1, g2⟩
    · have e := sm_un _ _ h1 g1
      subst e
      rw [h3, g3, aBe_un h2 g2]
    · rw [h1] at g1; cases g1
  · rcases h' with ⟨c', g1, -⟩ | ⟨g1, g2⟩
    · rw [h1] at g1; cases g1
    · rw [h2, g2]
end UNS
