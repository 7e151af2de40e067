/-! the class's RuleReader: behind a value, behind a fact -/
theorem mul_if {P : Prop} [Decidable P] {a b : Nat} : (if P then a else b) = a ∨ (if P then a else b) = b := by split <;> simp
section CR3
variable {N n : Nat} {b : Nat → Int} {s : pS}
theorem wl_workOf {Q : Int32 → Prop} {sg : Int32} {g : Nat} (hs : sg = jn g) (hg : g < 1000) (h : Q (jn (wrk g))) : wp_X7_workOf N Q sg := by
  subst hs
  unfold wp_X7_workOf
  have e : ∀ m : Nat, m < 1000 → (jn (g : Int) = jn (m : Int)) = (g = m) := by
    intro m hm
    rw [jn_eq (by omega) (by omega)]
    exact propext ⟨fun z => by omega, fun z => by omega⟩
  rw [show (37 : Int32) = jn (37 : Nat) from rfl, show (38 : Int32) = jn (38 : Nat) from rfl, show (39 : Int32) = jn (39 : Nat) from rfl, show (40 : Int32) = jn (40 : Nat) from rfl, show (41 : Int32) = jn (41 : Nat) from rfl, show (42 : Int32) = jn (42 : Nat) from rfl, show (43 : Int32) = jn (43 : Nat) from rfl, show (44 : Int32) = jn (44 : Nat) from rfl, show (45 : Int32) = jn (45 : Nat) from rfl, show (46 : Int32) = jn (46 : Nat) from rfl, show (47 : Int32) = jn (47 : Nat) from rfl]
  rw [e 37 (by omega), e 38 (by omega), e 39 (by omega), e 40 (by omega), e 41 (by omega), e 42 (by omega), e 43 (by omega), e 44 (by omega), e 45 (by omega), e 46 (by omega), e 47 (by omega)]
  unfold wrk at h
  refine ⟨fun z => ?_, fun n1 => ⟨fun z => ?_, fun n2 => ⟨fun z => ?_, fun n3 => ⟨fun z => ?_, fun n4 => ⟨fun z => ?_, fun n5 => ⟨fun z => ?_, fun n6 => ⟨fun z => ?_, fun n7 => ⟨fun z => ?_, fun n8 => ⟨fun z => ?_, fun n9 => ⟨fun z => ?_, fun n10 => ⟨fun z => ?_, fun n11 => ?_⟩⟩⟩⟩⟩⟩⟩⟩⟩⟩⟩
  all_goals first | (subst z; exact h) | (rw [if_neg (by omega), if_neg (by omega), if_neg (by omega), if_neg (by omega), if_neg (by omega)] at h; exact h)
theorem wl_compOf {Q : Int32 → Prop} {sg : Int32} {g : Nat} (hs : sg = jn g) (hg : g < 1000) (h : Q (jn (cmpo g))) : wp_X7_comparisonOf N Q sg := by
  subst hs
  unfold wp_X7_comparisonOf
  have e : ∀ m : Nat, m < 1000 → (jn (g : Int) = jn (m : Int)) = (g = m) := by
    intro m hm
    rw [jn_eq (by omega) (by omega)]
    exact propext ⟨fun z => by omega, fun z => by omega⟩
  rw [show (60 : Int32) = jn (60 : Nat) from rfl, show (61 : Int32) = jn (61 : Nat) from rfl, show (62 : Int32) = jn (62 : Nat) from rfl, show (258 : Int32) = jn (258 : Nat) from rfl, show (259 : Int32) = jn (259 : Nat) from rfl]
  rw [e 60 (by omega), e 61 (by omega), e 62 (by omega), e 258 (by omega), e 259 (by omega)]
  unfold cmpo at h
  refine ⟨fun z => ?_, fun n1 => ⟨fun z => ?_, fun n2 => ⟨fun z => ?_, fun n3 => ⟨fun z => ?_, fun n4 => ⟨fun z => ?_, fun n5 => ?_⟩⟩⟩⟩⟩
  all_goals first | (subst z; exact h) | (rw [if_neg (by omega), if_neg (by omega), if_neg (by omega), if_neg (by omega), if_neg (by omega)] at h; exact h)
/-- what waits is not too much -/
theorem p_len (hI : Inv n s) : (p_p s).length ≤ 40 ∧ ∀ o, o ∈ p_p s → 2 ≤ o ∧ o ≤ 15 := by
  have hd := hI.2.2.1
  have bl : bO 3 (p_p s) → (p_p s).length ≤ 40 ∧ ∀ o, o ∈ p_p s → 2 ≤ o ∧ o ≤ 15 := by
    intro z
    have := bO_len (by omega) z
    have := opn_dep (p := p_p s)
    exact ⟨by omega, fun o ho => by have := bO_r z o ho; omega⟩
  have al : aO (RK (p_k s)) 7 (p_p s) → (p_p s).length ≤ 40 ∧ ∀ o, o ∈ p_p s → 2 ≤ o ∧ o ≤ 15 := by
    intro z
    have := aO_len (by omega) z hd
    exact ⟨by omega, fun o ho => aO_r z o ho⟩
  rcases hI.2.2.2.2.2.2.2 with ⟨-, z, -⟩ | ⟨-, -, z, -⟩ | ⟨-, -, z, -⟩ | ⟨-, -, z, -⟩ | ⟨-, -, z, -⟩
  · rw [z]; exact ⟨by simp, fun o ho => by cases ho⟩
  · exact al z
  · exact al z
  · exact bl z
  · exact bl z
theorem cod_len (hI : Inv n s) (hn : n ≤ 400) (hin : inC s = 1) : (cod s).length + (p_p s).length < 400 := by
  have := hI.2.1
  have := hI.1
  omega
/-- what is laid behind what binds more strongly -/
theorem cod_lay {m a st k c v : Nat} {t : Bool} {p : List Nat} {f : Nat} : cod (mkP a st k c v t (p_d s) (p_u s) (popG m (p_p s) (p_w s)).2 p f) = (popG m (p_p s) (cod s)).2 ∧ (popG m (p_p s) (p_w s)).1 = (popG m (p_p s) (cod s)).1 := by
  have e : popG m (p_p s) (cod s) = ((popG m (p_p s) (p_w s)).1, (fl (p_d s) ++ p_u s) ++ (popG m (p_p s) (p_w s)).2) := by
    unfold cod; exact popG_app
  rw [e]
  exact ⟨rfl, rfl⟩
theorem wl_takeEnd {Q : Int32 → (Nat → Int32) → Int32 → Int32 → Int32 → Int32 → Int32 → Prop} {sg pc st td ln : Int32} {cd pl : Nat → Int32} {tp dp op : Int32} (hN : 100 ≤ N) (hI : Inv n s) (hn : n ≤ 400) (hs : (p_s s = 3 ∧ p_k s = 0) ∨ (p_s s = 3 ∧ p_k s = 2 ∧ opn (p_p s) = 0) ∨ (p_s s = 4 ∧ opn (p_p s) = 0)) (hsg : sg = jn (sg0 b n s)) (hpc : pc = jn (skp b n (p_a s))) (htd : td = if p_t s = true then 1 else 0) (hQ : cQ (cod s) (p_p s) cd ln pl tp dp op)
    (h0 : p_f (tkE b n s) ≠ 0 → ∀ st cd ln tp dp op, Q st cd ln tp dp op (jn (p_f (tkE b n s))))
    (h1 : p_f (tkE b n s) = 0 → ∀ cd ln tp dp op, cQ (cod (tkE b n s)) (p_p (tkE b n s)) cd ln pl tp dp op → Q (jn (p_s (tkE b n s))) cd ln tp dp op 0) : wp_X7_takeEndOfClause N td pl sg pc Q st cd ln tp dp op 0 := by
  have hs0 := sg0_lt (b := b) (n := n) (s := s)
  have hin : inC s = 1 := by unfold inC; rw [if_neg (by omega)]
  have hpl := p_len hI
  have hcl := cod_len hI hn hin
  have e59 : (sg = (59 : Int32)) = (sg0 b n s = 59) := by rw [hsg, li_59, jn_eq (by omega) (by omega)]; exact propext ⟨fun z => by omega, fun z => by omega⟩
  have e256 : (sg = (256 : Int32)) = (sg0 b n s = 256) := by rw [hsg, li_256, jn_eq (by omega) (by omega)]; exact propext ⟨fun z => by omega, fun z => by omega⟩
  unfold wp_X7_takeEndOfClause
  rw [e59, e256]
  have go : (sg0 b n s = 59 ∨ sg0 b n s = 256) → wp_X7_takeEndOfClause_34 N td pl sg pc Q st cd ln tp dp op 0 := by
    intro hs2
    unfold wp_X7_takeEndOfClause_34 wp_X7_takeEndOfClause_53 wp_X7_takeEndOfClause_74
    have e : tkE b n s = mkP (at1 b n s) (if sg0 b n s = 59 then 0 else 5) (p_k s) (p_c s) (p_v s) (p_t s) (p_d s ++ [if p_t s = true then (p_u s, some (popG 1 (p_p s) (p_w s)).2) else ((popG 1 (p_p s) (p_w s)).2, none)]) [] [] (popG 1 (p_p s) (p_w s)).1 0 := by
      unfold tkE; rw [if_neg (by omega)]
    have hf : p_f (tkE b n s) = 0 := by rw [e]; rfl
    have hE := (tkE_Inv hI hs hf).2.2
    have hg := popG_app (m := 1) (x := fl (p_d s) ++ p_u s) (p := p_p s) (c := p_w s)
    have hg : popG 1 (p_p s) (cod s) = ([], (fl (p_d s) ++ p_u s) ++ (popG 1 (p_p s) (p_w s)).2) := by rw [← hE]; exact hg
    have hlen := popG_len (m := 1) (p := p_p s) (c := cod s)
    refine wl_waiting hN hQ hpl.2 (by omega) (by omega) (fun cd' ln' tp' dp' op' hq => ?_)
    rw [hg] at hq hlen
    dsimp only at hq hlen
    have wr : ∀ (v : Nat) (x : Int32), x = jn v → v = (if p_t s = true then 17 else 16) → wp_X7_write N (fun m7 m8 => ((sg0 b n s = 59 → Q (0 : Int32) m7 m8 tp' dp' op' 0) ∧ (¬ sg0 b n s = 59 → Q (5 : Int32) m7 m8 tp' dp' op' 0))) x cd' ln' := by
      intro v x hx ev
      refine wl_write hq.1 hq.2.1 (by simp only [List.length_nil] at hlen; omega) hx (fun cd2 hcd2 => ?_)
      have ec : cod (tkE b n s) = ((fl (p_d s) ++ p_u s) ++ (popG 1 (p_p s) (p_w s)).2) ++ [v] := by
        rw [e]
        show fl (p_d s ++ [_]) ++ [] ++ [] = _
        rw [fl_app, fl_one, List.append_nil, List.append_nil, ev]
        cases ht : p_t s with
        | true =>
          rw [if_pos rfl, if_pos rfl]
          unfold flc
          simp only [List.append_assoc]
        | false =>
          rw [if_neg (by decide), if_neg (by decide)]
          have hu : p_u s = [] := by
            rcases hI.2.2.2.2.2.2.2 with ⟨z, -⟩ | ⟨z, -⟩ | ⟨-, z, -⟩ | ⟨z, -⟩ | ⟨-, z, -⟩
            · omega
            · omega
            · rcases z with ⟨-, -, z⟩ | ⟨-, z, -⟩
              · exact z
              · rw [ht] at z; cases z
            · omega
            · rw [ht] at z; cases z.1
          rw [hu]
          unfold flc
          simp only [List.append_assoc, List.append_nil]
      have ep : p_p (tkE b n s) = [] := by rw [e]; exact hE
      have := h1 hf cd2 _ tp' dp' op' (by rw [ec, ep]; exact ⟨hcd2, rfl, hq.2.2⟩)
      have es : p_s (tkE b n s) = if sg0 b n s = 59 then 0 else 5 := by rw [e]; rfl
      rw [es] at this
      refine ⟨fun z => ?_, fun z => ?_⟩
      · rw [if_pos z] at this; exact this
      · rw [if_neg z] at this; exact this
    rw [e59]
    refine ⟨fun z => ?_, fun z => ?_⟩
    · refine wr 16 _ rfl ?_
      rw [if_neg]
      intro y; rw [htd, if_pos y] at z; exact absurd z (by decide)
    · refine wr 17 _ rfl ?_
      rw [if_pos]
      cases y : p_t s with
      | true => rfl
      | false => rw [htd, y] at z; exact absurd rfl z
  refine ⟨fun z => go (Or.inl z), fun z => ⟨fun y => go (Or.inr y), fun y => ?_⟩⟩
  have hf : p_f (tkE b n s) = 1 + 8 * skp b n (p_a s) + 0 := by unfold tkE; rw [if_pos ⟨z, y⟩]; rfl
  refine wl_fail (kd := 0) rfl hpc ?_
  rw [← hf]
  exact h0 (by rw [hf]; omega) _ _ _ _ _ _
theorem wl_takeBF {Q : Int32 → (Nat → Int32) → Int32 → (Nat → Int32) → Int32 → Int32 → Int32 → Int32 → Prop} {sg pc st td ln : Int32} {cd pl : Nat → Int32} {tp dp op : Int32} (hN : 100 ≤ N) (hI : Inv n s) (hn : n ≤ 400) (hs : (p_s s = 3 ∧ p_k s = 2) ∨ p_s s = 4) (hsg : sg = jn (sg0 b n s)) (hpc : pc = jn (skp b n (p_a s))) (htd : td = if p_t s = true then 1 else 0) (hQ : cQ (cod s) (p_p s) cd ln pl tp dp op)
    (h0 : p_f (tkF b n s) ≠ 0 → ∀ st cd ln pl tp dp op, Q st cd ln pl tp dp op (jn (p_f (tkF b n s))))
    (h1 : p_f (tkF b n s) = 0 → ∀ cd ln pl tp dp op, cQ (cod (tkF b n s)) (p_p (tkF b n s)) cd ln pl tp dp op → Q (jn (p_s (tkF b n s))) cd ln pl tp dp op 0) : wp_X7_takeBehindFact N td sg pc Q st cd ln pl tp dp op 0 := by
  have hs0 := sg0_lt (b := b) (n := n) (s := s)
  have hin : inC s = 1 := by unfold inC; rw [if_neg (by omega)]
  have hpl := p_len hI
  have hcl := cod_len hI hn hin
  have ole : opn (p_p s) ≤ (p_p s).length := List.countP_le_length
  unfold wp_X7_takeBehindFact wp_X7_takeBehindFact_97
  have ao : (sg0 b n s = 312 ∨ sg0 b n s = 313) → wp_X7_takeBehindFact_18 N td sg pc (wp_X7_takeBehindFact_97 N td sg pc Q) Q st cd ln pl tp dp op 0 := by
    intro hs2
    unfold wp_X7_takeBehindFact_18 wp_X7_takeBehindFact_35 wp_X7_takeBehindFact_97
    refine wl_isWord7 (w := 12) hsg rfl (by omega) (by omega) ?_
    by_cases e : sg0 b n s = 312
    · rw [if_pos e]
      refine ⟨fun z => absurd z (by decide), fun _ => ?_⟩
      refine wl_layBS (w := 13) hN (by omega) (by omega) rfl hQ hpl.2 (by omega) (by omega) (fun cd' ln' pl' tp' dp' op' hq => ?_)
      have ek : tkF b n s = mkP (at1 b n s) 2 (p_k s) (p_c s) (p_v s) (p_t s) (p_d s) (p_u s) (popG 2 (p_p s) (p_w s)).2 (13 :: (popG 2 (p_p s) (p_w s)).1) 0 := by unfold tkF; rw [if_pos e]
      rw [ek] at h1
      refine h1 rfl cd' ln' pl' tp' dp' op' ?_
      have hc := cod_lay (s := s) (m := 2) (a := at1 b n s) (st := 2) (k := p_k s) (c := p_c s) (v := p_v s) (t := p_t s) (p := 13 :: (popG 2 (p_p s) (p_w s)).1) (f := 0)
      rw [hc.1]
      show cQ _ (13 :: (popG 2 (p_p s) (p_w s)).1) _ _ _ _ _ _
      rw [hc.2]; exact hq
    · rw [if_neg e]
      refine ⟨fun _ => ?_, fun z => absurd rfl z⟩
      refine wl_layBS (w := 14) hN (by omega) (by omega) rfl hQ hpl.2 (by omega) (by omega) (fun cd' ln' pl' tp' dp' op' hq => ?_)
      have ek : tkF b n s = mkP (at1 b n s) 2 (p_k s) (p_c s) (p_v s) (p_t s) (p_d s) (p_u s) (popG 1 (p_p s) (p_w s)).2 (14 :: (popG 1 (p_p s) (p_w s)).1) 0 := by unfold tkF; rw [if_neg e, if_pos (by omega)]
      rw [ek] at h1
      refine h1 rfl cd' ln' pl' tp' dp' op' ?_
      have hc := cod_lay (s := s) (m := 1) (a := at1 b n s) (st := 2) (k := p_k s) (c := p_c s) (v := p_v s) (t := p_t s) (p := 14 :: (popG 1 (p_p s) (p_w s)).1) (f := 0)
      rw [hc.1]
      show cQ _ (14 :: (popG 1 (p_p s) (p_w s)).1) _ _ _ _ _ _
      rw [hc.2]; exact hq
  refine wl_isWord7 (w := 12) hsg rfl (by omega) (by omega) ?_
  by_cases e1 : sg0 b n s = 312
  · rw [if_pos e1]
    exact ⟨fun z => absurd z (by decide), fun _ => ao (Or.inl e1)⟩
  · rw [if_neg e1]
    refine ⟨fun _ => ?_, fun z => absurd rfl z⟩
    refine wl_isWord7 (w := 13) hsg rfl (by omega) (by omega) ?_
    by_cases e2 : sg0 b n s = 313
    · rw [if_pos e2]
      exact ⟨fun z => absurd z (by decide), fun _ => ao (Or.inr e2)⟩
    · rw [if_neg e2]
      refine ⟨fun _ => ?_, fun z => absurd rfl z⟩
      rw [show (op = 0) = (opn (p_p s) = 0) by rw [hQ.2.2.2.2.2, li_0, jn_eq (by omega) (by omega)]; exact propext ⟨fun z => by omega, fun z => by omega⟩]
      rw [show (sg = (93 : Int32)) = (sg0 b n s = 93) by rw [hsg, li_93, jn_eq (by omega) (by omega)]; exact propext ⟨fun z => by omega, fun z => by omega⟩]
      refine ⟨fun z => ?_, fun z => ⟨fun y => ?_, fun y => ?_⟩⟩
      · have ek : tkF b n s = tkE b n s := by unfold tkF; rw [if_neg e1, if_neg e2, if_pos z]
        rw [ek] at h0 h1
        exact wl_takeEnd hN hI hn (by omega) hsg hpc htd hQ (fun x st cd ln tp dp op => h0 x _ _ _ _ _ _ _) (fun x cd ln tp dp op hq => h1 x _ _ _ _ _ _ hq)
      · have ek : tkF b n s = mkP (at1 b n s) 4 (p_k s) (p_c s) (p_v s) (p_t s) (p_d s) (p_u s) (popG 1 (p_p s) (p_w s)).2 (popG 1 (p_p s) (p_w s)).1.tail 0 := by unfold tkF; rw [if_neg e1, if_neg e2, if_neg z, if_pos y]
        rw [ek] at h1
        have hg : popG 1 (p_p s) (cod s) = ((popG 1 (p_p s) (p_w s)).1, (fl (p_d s) ++ p_u s) ++ (popG 1 (p_p s) (p_w s)).2) := by unfold cod; exact popG_app
        have pops : ∃ q, (popG 1 (p_p s) (p_w s)).1 = 15 :: q := by
          rcases hI.2.2.2.2.2.2.2 with ⟨x, -⟩ | ⟨x, -⟩ | ⟨x, -, x2, -⟩ | ⟨x, -⟩ | ⟨x, -, x2, -⟩
          · omega
          · omega
          · have k2 : p_k s = 2 := by omega
            rw [k2] at x2
            obtain ⟨i1, -, -, -, i5⟩ := a2_pop (m := 1) (by omega) (c := p_w s) x2
            obtain ⟨q, hq, -⟩ := (bO1 i1 popG_stop).2 (by rw [i5]; exact z)
            exact ⟨q, hq⟩
          · omega
          · obtain ⟨i1, -, -, -, i5⟩ := bO_pop (m := 1) (by omega) (c := p_w s) x2
            obtain ⟨q, hq, -⟩ := (bO1 i1 popG_stop).2 (by rw [i5]; exact z)
            exact ⟨q, hq⟩
        obtain ⟨q, hq15⟩ := pops
        have hlen := popG_len (m := 1) (p := p_p s) (c := cod s)
        refine wl_waiting hN hQ hpl.2 (by omega) (by omega) (fun cd' ln' tp' dp' op' hq => ?_)
        rw [hg, hq15] at hq hlen
        dsimp only at hq hlen
        obtain ⟨g1, g2, g3, g4, g5, g6⟩ := hq
        simp only [List.length_cons] at hlen
        have hql : q.length < 48 := by
          have h2 := popG_len (m := 1) (p := p_p s) (c := ([] : List Nat))
          have h3 := popG_app (m := 1) (x := cod s) (p := p_p s) (c := [])
          rw [List.append_nil, hg, hq15] at h3
          have h4 : (popG 1 (p_p s) []).1 = 15 :: q := (congrArg Prod.fst h3).symm
          rw [h4] at h2
          simp only [List.length_cons, List.length_nil] at h2
          omega
        refine wl_fromPile g3 g4 hql (by omega) g5 g6 ?_
        refine h1 rfl cd' ln' pl _ _ _ ?_
        show cQ (fl (p_d s) ++ p_u s ++ (popG 1 (p_p s) (p_w s)).2) (popG 1 (p_p s) (p_w s)).1.tail _ _ _ _ _ _
        rw [hq15]
        exact ⟨g1, g2, (lA_top g3).2, rfl, rfl, rfl⟩
      · have hf : p_f (tkF b n s) = 1 + 8 * skp b n (p_a s) + 0 := by unfold tkF; rw [if_neg e1, if_neg e2, if_neg z, if_neg y]; rfl
        refine wl_fail (kd := 0) rfl hpc ?_
        rw [← hf]
        exact h0 (by rw [hf]; omega) _ _ _ _ _ _ _
end CR3
