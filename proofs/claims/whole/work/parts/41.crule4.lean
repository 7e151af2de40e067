/-! the class reads a rule -/
section CR4
variable {N n : Nat} {b : Nat → Int}
theorem wl_takeBV {s : pS} {Q : Int32 → Int32 → Int32 → Int32 → (Nat → Int32) → Int32 → (Nat → Int32) → Int32 → Int32 → Int32 → Int32 → Prop} {sg pc st sm vl td ln : Int32} {cd pl : Nat → Int32} {tp dp op : Int32} (hN : 100 ≤ N) (hI : Inv n s) (hn : n ≤ 400) (hs : p_s s = 3) (hsg : sg = jn (sg0 b n s)) (hpc : pc = jn (skp b n (p_a s))) (hsm : sm = jn (p_k s)) (hv : vl = jn (p_v s)) (htd : td = if p_t s = true then 1 else 0) (hQ : cQ (cod s) (p_p s) cd ln pl tp dp op)
    (h0 : p_f (tkB b n s) ≠ 0 → ∀ st sm vl td cd ln pl tp dp op, Q st sm vl td cd ln pl tp dp op (jn (p_f (tkB b n s))))
    (h1 : p_f (tkB b n s) = 0 → ∀ cd ln pl tp dp op, cQ (cod (tkB b n s)) (p_p (tkB b n s)) cd ln pl tp dp op → Q (jn (p_s (tkB b n s))) (jn (p_k (tkB b n s))) (jn (p_v (tkB b n s))) (if p_t (tkB b n s) = true then 1 else 0) cd ln pl tp dp op 0) : wp_X7_takeBehindValue N sg pc Q st sm vl td cd ln pl tp dp op 0 := by
  have hs0 := sg0_lt (b := b) (n := n) (s := s)
  have hin : inC s = 1 := by unfold inC; rw [if_neg (by omega)]
  have hpl := p_len hI
  have hcl := cod_len hI hn hin
  have hv60 := hI.2.2.2.1
  have hk : p_k s ≤ 2 := by
    rcases hI.2.2.2.2.2.2.2 with ⟨z, -⟩ | ⟨z, -⟩ | ⟨-, z, -⟩ | ⟨z, -⟩ | ⟨z, -⟩
    · omega
    · omega
    · rcases z with ⟨z, -⟩ | ⟨z, -⟩ <;> omega
    · omega
    · omega
  have hwl : wrk (sg0 b n s) ≤ 18 := by
    unfold wrk
    repeat' split
    all_goals omega
  have hcm : cmpo (sg0 b n s) ≤ 18 := by
    unfold cmpo
    repeat' split
    all_goals omega
  unfold wp_X7_takeBehindValue wp_X7_takeBehindValue_90
  refine wl_workOf hsg (by omega) ?_
  rw [li_18, jn_eq (by omega) (by omega)]
  refine ⟨fun z => ?_, fun z => ?_⟩
  · have z : wrk (sg0 b n s) = 18 := by omega
    have t1 : tkB b n s = if p_k s = 1 then (
        if cmpo (sg0 b n s) = 18 then flt b n s 0
        else if 60 ≤ p_v s then flt b n s 3
        else mkP (at1 b n s) 1 2 (p_c s) (p_v s + 1) (p_t s) (p_d s) (p_u s) (popG 4 (p_p s) (p_w s)).2 (cmpo (sg0 b n s) :: (popG 4 (p_p s) (p_w s)).1) 0)
      else if p_k s = 2 then tkF b n s
      else if sg0 b n s = 310 then mkP (at1 b n s) 2 (p_k s) (p_c s) (p_v s) true (p_d s) (popG 1 (p_p s) (p_w s)).2 [] (popG 1 (p_p s) (p_w s)).1 0
      else tkE b n s := by unfold tkB; rw [if_neg (by omega)]
    rw [show (sm = (1 : Int32)) = (p_k s = 1) by rw [hsm, li_1, jn_eq (by omega) (by omega)]; exact propext ⟨fun z => by omega, fun z => by omega⟩]
    rw [show (sm = (2 : Int32)) = (p_k s = 2) by rw [hsm, li_2, jn_eq (by omega) (by omega)]; exact propext ⟨fun z => by omega, fun z => by omega⟩]
    refine ⟨fun y => ?_, fun y => ⟨fun x => ?_, fun x => ?_⟩⟩
    · rw [if_pos y] at t1
      unfold wp_X7_takeComparison wp_X7_takeComparison_73
      refine wl_compOf hsg (by omega) ?_
      rw [li_18, jn_eq (by omega) (by omega)]
      refine ⟨fun x => ?_, fun x => ?_⟩
      · rw [if_pos (by omega)] at t1
        have hf : p_f (tkB b n s) = 1 + 8 * skp b n (p_a s) + 0 := by rw [t1]; rfl
        refine wl_fail (kd := 0) rfl hpc ?_
        rw [← hf]
        exact h0 (by rw [hf]; omega) _ _ _ _ _ _ _ _ _ _
      · rw [if_neg (by omega)] at t1
        rw [hv, li_60, jn_lt (by omega) (by omega)]
        obtain ⟨c1, -⟩ := cmpo_r (sg := sg0 b n s) (by omega)
        refine ⟨fun w => ?_, fun w => ?_⟩
        · rw [if_neg (by omega)] at t1
          refine wl_layBS (w := cmpo (sg0 b n s)) hN (by omega) (by omega) rfl hQ hpl.2 (by omega) (by omega) (fun cd' ln' pl' tp' dp' op' hq => ?_)
          rw [t1] at h1
          have := h1 rfl cd' ln' pl' tp' dp' op' ?_
          · rw [htd, li_1, jn_add]; exact this
          · have hc := cod_lay (s := s) (m := 4) (a := at1 b n s) (st := 1) (k := 2) (c := p_c s) (v := p_v s + 1) (t := p_t s) (p := cmpo (sg0 b n s) :: (popG 4 (p_p s) (p_w s)).1) (f := 0)
            rw [hc.1]
            show cQ _ (cmpo (sg0 b n s) :: (popG 4 (p_p s) (p_w s)).1) _ _ _ _ _ _
            rw [str_c c1] at hq
            rw [hc.2]; exact hq
        · rw [if_pos (by omega)] at t1
          have hf : p_f (tkB b n s) = 1 + 8 * skp b n (p_a s) + 3 := by rw [t1]; rfl
          refine wl_fail (kd := 3) rfl hpc ?_
          rw [← hf]
          exact h0 (by rw [hf]; omega) _ _ _ _ _ _ _ _ _ _
    · rw [if_neg y, if_pos x] at t1
      rw [t1] at h0 h1
      refine wl_takeBF hN hI hn (Or.inl ⟨hs, x⟩) hsg hpc htd hQ (fun w st cd ln pl tp dp op => h0 w _ _ _ _ _ _ _ _ _ _) (fun w cd ln pl tp dp op hq => ?_)
      have := h1 w cd ln pl tp dp op hq
      have same : p_k (tkF b n s) = p_k s ∧ p_v (tkF b n s) = p_v s ∧ p_t (tkF b n s) = p_t s := by
        unfold tkF tkE
        repeat' split
        all_goals exact ⟨rfl, rfl, rfl⟩
      rw [same.1, same.2.1, same.2.2] at this
      rw [hsm, hv, htd]; exact this
    · rw [if_neg y, if_neg x] at t1
      refine wl_isWord7 (w := 10) hsg rfl (by omega) (by omega) ?_
      by_cases e : sg0 b n s = 310
      · rw [if_pos e] at t1 ⊢
        refine ⟨fun w => absurd w (by decide), fun _ => ?_⟩
        refine wl_waiting hN hQ hpl.2 (by omega) (by omega) (fun cd' ln' tp' dp' op' hq => ?_)
        rw [t1] at h1
        have := h1 rfl cd' ln' pl tp' dp' op' ?_
        · rw [hsm, hv]; exact this
        · have hg : popG 1 (p_p s) (cod s) = ((popG 1 (p_p s) (p_w s)).1, (fl (p_d s) ++ p_u s) ++ (popG 1 (p_p s) (p_w s)).2) := by unfold cod; exact popG_app
          rw [hg] at hq
          have hu : p_u s = [] := by
            rcases hI.2.2.2.2.2.2.2 with ⟨w, -⟩ | ⟨w, -⟩ | ⟨-, w, -⟩ | ⟨w, -⟩ | ⟨w, -⟩
            · omega
            · omega
            · rcases w with ⟨-, -, w⟩ | ⟨w, -⟩
              · exact w
              · omega
            · omega
            · omega
          rw [hu, List.append_nil] at hq
          show cQ (fl (p_d s) ++ (popG 1 (p_p s) (p_w s)).2 ++ []) _ _ _ _ _ _ _
          rw [List.append_nil]; exact hq
      · rw [if_neg e] at t1 ⊢
        refine ⟨fun _ => ?_, fun w => absurd rfl w⟩
        rw [t1] at h0 h1
        refine wl_takeEnd hN hI hn (Or.inl ⟨hs, by omega⟩) hsg hpc htd hQ (fun w st cd ln tp dp op => h0 w _ _ _ _ _ _ _ _ _ _) (fun w cd ln tp dp op hq => ?_)
        have := h1 w cd ln pl tp dp op hq
        have same : p_k (tkE b n s) = p_k s ∧ p_v (tkE b n s) = p_v s ∧ p_t (tkE b n s) = p_t s := by
          unfold tkE
          repeat' split
          all_goals exact ⟨rfl, rfl, rfl⟩
        rw [same.1, same.2.1, same.2.2] at this
        rw [hsm, hv, htd]; exact this
  · have z : wrk (sg0 b n s) ≠ 18 := by omega
    have t1 : tkB b n s = mkP (at1 b n s) 1 (p_k s) (p_c s) (p_v s) (p_t s) (p_d s) (p_u s) (popG (str (wrk (sg0 b n s))) (p_p s) (p_w s)).2 (wrk (sg0 b n s) :: (popG (str (wrk (sg0 b n s))) (p_p s) (p_w s)).1) 0 := by unfold tkB; rw [if_pos z]
    obtain ⟨c1, -⟩ := wrk_r z
    refine wl_layBS (w := wrk (sg0 b n s)) hN (by omega) (by omega) rfl hQ hpl.2 (by omega) (by omega) (fun cd' ln' pl' tp' dp' op' hq => ?_)
    rw [t1] at h1
    have := h1 rfl cd' ln' pl' tp' dp' op' ?_
    · rw [hsm, hv, htd]; exact this
    · have hc := cod_lay (s := s) (m := str (wrk (sg0 b n s))) (a := at1 b n s) (st := 1) (k := p_k s) (c := p_c s) (v := p_v s) (t := p_t s) (p := wrk (sg0 b n s) :: (popG (str (wrk (sg0 b n s))) (p_p s) (p_w s)).1) (f := 0)
      rw [hc.1]
      show cQ _ (wrk (sg0 b n s) :: (popG (str (wrk (sg0 b n s))) (p_p s) (p_w s)).1) _ _ _ _ _ _
      rw [hc.2]; exact hq
theorem itr_fix {s : pS} (h : p_f s ≠ 0 ∨ p_s s = 5) : ∀ m, itr b n m s = s
  | 0 => rfl
  | m + 1 => by
    have : stp b n s = s := by unfold stp; rw [if_pos h]
    rw [itr, this]; exact itr_fix h m
theorem itr_succ {s : pS} : ∀ m, itr b n (m + 1) s = stp b n (itr b n m s)
  | 0 => rfl
  | m + 1 => by rw [itr, itr_succ m]; rfl
theorem itr_add {s : pS} (i : Nat) : ∀ j, itr b n (i + j) s = itr b n j (itr b n i s)
  | 0 => rfl
  | j + 1 => by rw [← Nat.add_assoc, itr_succ, itr_add i j, itr_succ]
/-- the machine comes to an end -/
theorem itr_Inv : ∀ m, p_f (itr b n m s00) ≠ 0 ∨ (Inv n (itr b n m s00) ∧ (p_s (itr b n m s00) = 5 ∨ m ≤ p_a (itr b n m s00)))
  | 0 => Or.inr ⟨Inv_00, Or.inr (Nat.zero_le _)⟩
  | m + 1 => by
    rw [itr_succ]
    rcases itr_Inv m with h | ⟨h1, h2⟩
    · left
      rw [show stp b n (itr b n m s00) = itr b n m s00 by unfold stp; rw [if_pos (Or.inl h)]]; exact h
    · by_cases h0 : p_f (itr b n m s00) = 0
      · by_cases h5 : p_s (itr b n m s00) = 5
        · right
          rw [show stp b n (itr b n m s00) = itr b n m s00 by unfold stp; rw [if_pos (Or.inr h5)]]
          exact ⟨h1, Or.inl h5⟩
        · by_cases hf : p_f (stp b n (itr b n m s00)) = 0
          · obtain ⟨i1, i2⟩ := stp_Inv h1 h0 h5 hf
            right
            refine ⟨i1, ?_⟩
            rcases i2 with i2 | i2
            · right
              rcases h2 with h2 | h2
              · exact absurd h2 h5
              · omega
            · exact Or.inl i2
          · exact Or.inl hf
      · left
        rw [show stp b n (itr b n m s00) = itr b n m s00 by unfold stp; rw [if_pos (Or.inl h0)]]; exact h0
theorem itr_end (hn : n ≤ 400) : p_f (itr b n 401 s00) ≠ 0 ∨ (p_f (itr b n 401 s00) = 0 ∧ p_s (itr b n 401 s00) = 5 ∧ Inv n (itr b n 401 s00)) := by
  rcases itr_Inv (b := b) (n := n) 401 with h | ⟨h1, h2⟩
  · exact Or.inl h
  · by_cases h0 : p_f (itr b n 401 s00) = 0
    · right
      refine ⟨h0, ?_, h1⟩
      rcases h2 with h2 | h2
      · exact h2
      · have := h1.1; omega
    · exact Or.inl h0
theorem ite_fr {c : Prop} [Decidable c] {x y : pS} (hx : p_f x < 4000) (hy : p_f y < 4000) : p_f (if c then x else y) < 4000 := by
  by_cases h : c
  · rw [if_pos h]; exact hx
  · rw [if_neg h]; exact hy
theorem mkP_fr {a st k c v : Nat} {t : Bool} {d : List cS1} {u w p : List Nat} : p_f (mkP a st k c v t d u w p 0) < 4000 := by show 0 < 4000; omega
theorem stp_fr {s : pS} (h : p_f s < 4000) (ha : p_a s ≤ n) (hn : n ≤ 400) : p_f (stp b n s) < 4000 := by
  have h1 := skp_le (b := b) ha
  have ff : ∀ kd, kd ≤ 4 → p_f (flt b n s kd) < 4000 := by
    intro kd hk; show 1 + 8 * skp b n (p_a s) + kd < 4000; omega
  have hV : ∀ k, p_f (tkV b n s k) < 4000 := fun k => ite_fr (ff _ (by omega)) (ite_fr (ff _ (by omega)) (ite_fr (ff _ (by omega)) mkP_fr))
  have hE : p_f (tkE b n s) < 4000 := ite_fr (ff _ (by omega)) mkP_fr
  have hF : p_f (tkF b n s) < 4000 := ite_fr mkP_fr (ite_fr mkP_fr (ite_fr hE (ite_fr mkP_fr (ff _ (by omega)))))
  have hB : p_f (tkB b n s) < 4000 := ite_fr mkP_fr (ite_fr (ite_fr (ff _ (by omega)) (ite_fr (ff _ (by omega)) mkP_fr)) (ite_fr hF (ite_fr mkP_fr hE)))
  have hX : p_f (tkX b n s) < 4000 := ite_fr (ite_fr (ff _ (by omega)) mkP_fr) (hV 1)
  have hC : p_f (tkC b n s) < 4000 := ite_fr (ff _ (by omega)) (ite_fr (ff _ (by omega)) mkP_fr)
  exact ite_fr h (ite_fr hC (ite_fr (hV _) (ite_fr hX (ite_fr hB hF))))
theorem wl_ruleRead {Q : Int32 → Int32 → Int32 → Int32 → Int32 → Int32 → (Nat → Int32) → Int32 → (Nat → Int32) → Int32 → Int32 → Int32 → Int32 → Int32 → Int32 → Int32 → Int32 → Prop} {bt : Nat → Int32} {st sm cl vl td ln tp dp op at' sg pc nu ft : Int32} {cd pl : Nat → Int32} (hN : 500 ≤ N) (hn : n ≤ 400) (hB : ∀ i, i < n → bt i = jn (b i)) (bB : ∀ i, -128 ≤ b i ∧ b i ≤ 127)
    (h : ∀ st sm cl vl td cd ln pl tp dp op at' sg pc nu, (p_f (itr b n 401 s00) = 0 → lA cd (fl (p_d (itr b n 401 s00))) ∧ ln = jn (fl (p_d (itr b n 401 s00))).length) → Q (jn (p_f (itr b n 401 s00))) st sm cl vl td cd ln pl tp dp op at' sg pc nu (jn (p_f (itr b n 401 s00)))) : wp_X7_read N bt (jn n) Q st sm cl vl td cd ln pl tp dp op at' sg pc nu ft := by
  unfold wp_X7_read wp_X9_rewind
  have fin : ∀ (i : Nat), p_f (itr b n i s00) ≠ 0 ∨ (p_f (itr b n i s00) = 0 ∧ p_s (itr b n i s00) = 5) → i ≤ 401 → itr b n 401 s00 = itr b n i s00 := by
    intro i hi hle
    have := itr_add (b := b) (n := n) (s := s00) i (401 - i)
    rw [show i + (401 - i) = 401 by omega] at this
    rw [this]
    exact itr_fix (by rcases hi with hi | hi; exact Or.inl hi; exact Or.inr hi.2) _
  have key : ∀ (m i : Nat) (v st sm cl vl td ln tp dp op at' sg pc nu : Int32) (cd pl : Nat → Int32), v = jn i → i ≤ 401 → p_f (itr b n i s00) = 0 → Inv n (itr b n i s00) → st = jn (p_s (itr b n i s00)) → cl = jn (p_c (itr b n i s00)) → vl = jn (p_v (itr b n i s00)) → cQ (cod (itr b n i s00)) (p_p (itr b n i s00)) cd ln pl tp dp op → at' = jn (p_a (itr b n i s00)) → (inC (itr b n i s00) = 1 → (p_s (itr b n i s00) ≠ 2 → sm = jn (p_k (itr b n i s00))) ∧ td = if p_t (itr b n i s00) = true then 1 else 0) → 402 < m + i → wp_X7_read_49 N bt (jn n) Q m v st sm cl vl td cd ln pl tp dp op at' sg pc nu 0 := by
    intro m
    induction m with
    | zero => intro i v st sm cl vl td ln tp dp op at' sg pc nu cd pl _ h1 _ _ _ _ _ _ _ _ h2; omega
    | succ m ih =>
      intro i v st sm cl vl td ln tp dp op at' sg pc nu cd pl hv hi hf hI hst hcl hvl hQ hat hsm hm
      have hend := itr_end (b := b) (n := n) hn
      have hII := itr_Inv (b := b) (n := n) i
      have hnext : itr b n (i + 1) s00 = stp b n (itr b n i s00) := itr_succ i
      have hfr := stp_fr (b := b) (n := n) (s := itr b n i s00) (by omega) hI.1 hn
      have hsI := stp_Inv (b := b) (n := n) (s := itr b n i s00) hI hf
      generalize hs : itr b n i s00 = s at *
      unfold wp_X7_read_49 wp_X7_read_154
      subst hv
      have ret : p_s s = 5 → Q 0 st sm cl vl td cd ln pl tp dp op at' sg pc nu 0 := by
        intro h5
        have e := fin i (by rw [hs]; exact Or.inr ⟨hf, h5⟩) hi
        rw [e, hs, hf] at h
        refine h _ _ _ _ _ _ _ _ _ _ _ _ _ _ _ (fun _ => ?_)
        have hsh : p_w s = [] ∧ p_u s = [] := by
          rcases hI.2.2.2.2.2.2.2 with ⟨-, -, z1, z2⟩ | ⟨z, -⟩ | ⟨z, -⟩ | ⟨z, -⟩ | ⟨z, -⟩
          · exact ⟨z1, z2⟩
          · omega
          · omega
          · omega
          · omega
        have hc : cod s = fl (p_d s) := by unfold cod; rw [hsh.1, hsh.2, List.append_nil, List.append_nil]
        rw [hc] at hQ
        exact ⟨hQ.1, hQ.2.1⟩
      have hst5 : p_s s = 0 ∨ p_s s = 1 ∨ p_s s = 2 ∨ p_s s = 3 ∨ p_s s = 4 ∨ p_s s = 5 := by
        rcases hI.2.2.2.2.2.2.2 with ⟨z, -⟩ | ⟨z, -⟩ | ⟨z, -⟩ | ⟨z, -⟩ | ⟨z, -⟩ <;> omega
      refine ⟨fun z => ?_, fun z => ⟨fun _ => ⟨fun y => ?_, fun y => ?_⟩, fun y => absurd rfl y⟩⟩
      · rw [li_400, jn_lt (by omega) (by omega)] at z
        have e401 : i = 401 := by omega
        subst e401
        rw [hs] at hend
        rcases hend with e | e
        · exact absurd hf e
        · exact ret e.2.1
      · rw [hst, li_5, jn_eq (by omega) (by omega)] at y
        exact ret (by omega)
      · rw [hst, li_5, jn_eq (by omega) (by omega)] at y
        rw [li_400, jn_lt (by omega) (by omega)] at z
        have h5 : p_s s ≠ 5 := by omega
        have hsI := hsI h5
        have hsk := skp_le (b := b) hI.1
        -- a step that fails ends; one that doesn't goes on
        have bad : p_f (stp b n s) ≠ 0 → ∀ st sm cl vl td cd ln pl tp dp op at' sg pc nu, wp_X7_read_49 N bt (jn n) Q m (jn i + 1) st sm cl vl td cd ln pl tp dp op at' sg pc nu (jn (p_f (stp b n s))) := by
          intro hb st sm cl vl td cd ln pl tp dp op at' sg pc nu
          have e := fin (i + 1) (by rw [hnext]; exact Or.inl hb) (by omega)
          rw [e, hnext] at h
          obtain ⟨m, rfl⟩ : ∃ m', m = m' + 1 := ⟨m - 1, by omega⟩
          unfold wp_X7_read_49 wp_X7_read_154
          have hq := h st sm cl vl td cd ln pl tp dp op at' sg pc nu (fun x => absurd x hb)
          refine ⟨fun _ => hq, fun _ => ⟨fun x => ?_, fun _ => hq⟩⟩
          rw [li_0, jn_eq (by omega) (by omega)] at x
          omega
        have good : p_f (stp b n s) = 0 → ∀ st sm cl vl td cd ln pl tp dp op at' sg pc nu, st = jn (p_s (stp b n s)) → cl = jn (p_c (stp b n s)) → vl = jn (p_v (stp b n s)) → cQ (cod (stp b n s)) (p_p (stp b n s)) cd ln pl tp dp op → at' = jn (p_a (stp b n s)) → (inC (stp b n s) = 1 → (p_s (stp b n s) ≠ 2 → sm = jn (p_k (stp b n s))) ∧ td = if p_t (stp b n s) = true then 1 else 0) → wp_X7_read_49 N bt (jn n) Q m (jn i + 1) st sm cl vl td cd ln pl tp dp op at' sg pc nu 0 := by
          intro hg st sm cl vl td cd ln pl tp dp op at' sg pc nu g1 g2 g3 g4 g5 g6
          refine ih (i + 1) _ _ _ _ _ _ _ _ _ _ _ _ _ _ _ _ (by (first | rfl | (simp (disch := omega) only [jn_add, jn_sub, jn_mul, jn_neg, li_0, li_1, li_2, li_3, li_4, li_5, li_6, li_7, li_8, li_9, li_10, li_11, li_12, li_13, li_14, li_15, li_16, li_17, li_18, li_20, li_24, li_29, li_30, li_31, li_32, li_37, li_39, li_40, li_42, li_43, li_45, li_46, li_47, li_48, li_53, li_57, li_59, li_60, li_61, li_62, li_63, li_80, li_81, li_91, li_93, li_97, li_100, li_122, li_200, li_255, li_256, li_257, li_258, li_259, li_260, li_300, li_314, li_400, li_580, li_999, li_5040, li_9999, li_65536, li_99999, li_7654321] <;> first | rfl | exact congrArg jn (by omega)) | exact congrArg jn (by omega))) (by omega) (by rw [hnext]; exact hg) (by rw [hnext]; exact (hsI hg).1) (by rw [hnext]; exact g1) (by rw [hnext]; exact g2) (by rw [hnext]; exact g3) (by rw [hnext]; exact g4) (by rw [hnext]; exact g5) (by rw [hnext]; exact g6) (by omega)
        refine wl_readSign hN hn hB bB hI.1 hat (fun u hu => ?_)
        unfold wp_X7_read_148
        have pa : ∀ x : pS, p_f x = 0 → (x = tkC b n s ∨ (∃ k, x = tkV b n s k) ∨ x = tkX b n s ∨ x = tkB b n s ∨ x = tkF b n s) → p_a x = en b n (skp b n (p_a s)) := by
          intro x hx hh
          have aV : ∀ k, p_a (tkV b n s k) = en b n (skp b n (p_a s)) := by
            intro k; unfold tkV; repeat' split
            all_goals rfl
          have aE : p_a (tkE b n s) = en b n (skp b n (p_a s)) := by
            unfold tkE; by_cases e : sg0 b n s ≠ 59 ∧ sg0 b n s ≠ 256
            · rw [if_pos e]; rfl
            · rw [if_neg e]; rfl
          have aF : p_a (tkF b n s) = en b n (skp b n (p_a s)) := by
            unfold tkF; repeat' split
            all_goals first | rfl | exact aE
          rcases hh with e | ⟨k, e⟩ | e | e | e <;> subst e
          · unfold tkC; repeat' split
            all_goals rfl
          · exact aV k
          · unfold tkX; split
            · split <;> rfl
            · exact aV 1
          · unfold tkB; repeat' split
            all_goals first | rfl | exact aE | exact aF
          · exact aF
        have e0 : (st = 0) = (p_s s = 0) := by rw [hst, li_0, jn_eq (by omega) (by omega)]; exact propext ⟨fun z => by omega, fun z => by omega⟩
        have e1 : (st = 1) = (p_s s = 1) := by rw [hst, li_1, jn_eq (by omega) (by omega)]; exact propext ⟨fun z => by omega, fun z => by omega⟩
        have e2 : (st = 2) = (p_s s = 2) := by rw [hst, li_2, jn_eq (by omega) (by omega)]; exact propext ⟨fun z => by omega, fun z => by omega⟩
        have e3 : (st = 3) = (p_s s = 3) := by rw [hst, li_3, jn_eq (by omega) (by omega)]; exact propext ⟨fun z => by omega, fun z => by omega⟩
        rw [e0, e1, e2, e3]
        refine ⟨fun x => ?_, fun x => ⟨fun x1 => ?_, fun x1 => ⟨fun x2 => ?_, fun x2 => ⟨fun x3 => ?_, fun x3 => ?_⟩⟩⟩⟩
        · have es : stp b n s = tkC b n s := by unfold stp; rw [if_neg (by omega), if_pos x]
          rw [es] at bad good
          refine wl_takeClause hI rfl rfl hcl (fun w st sm cl td => bad w _ _ _ _ _ _ _ _ _ _ _ _ _ _ _) (fun w => ?_)
          have hC : tkC b n s = mkP (at1 b n s) 1 0 (p_c s + 1) (p_v s) false (p_d s) [] [] (p_p s) 0 := by
            unfold tkC at w ⊢
            split at w
            · exact absurd w flt_f
            · split at w
              · exact absurd w flt_f
              · rename_i w1 w2; rw [if_neg w1, if_neg w2]
          have hsh : p_w s = [] ∧ p_u s = [] := by
            rcases hI.2.2.2.2.2.2.2 with ⟨-, -, z1, z2⟩ | ⟨z, -⟩ | ⟨z, -⟩ | ⟨z, -⟩ | ⟨z, -⟩
            · exact ⟨z1, z2⟩
            · omega
            · omega
            · omega
            · omega
          refine good w _ _ _ _ _ _ _ _ _ _ _ _ _ _ _ rfl rfl (by rw [hC]; exact hvl) ?_ (by rw [pa _ w (Or.inl rfl)]) (fun _ => ⟨fun _ => rfl, by rw [hC]; rfl⟩)
          rw [hC]
          have hc : cod (mkP (at1 b n s) 1 0 (p_c s + 1) (p_v s) false (p_d s) [] [] (p_p s) 0) = cod s := by
            show fl (p_d s) ++ [] ++ [] = fl (p_d s) ++ p_u s ++ p_w s
            rw [hsh.1, hsh.2]
          rw [hc]; exact hQ
        · have es : stp b n s = tkV b n s (p_k s) := by unfold stp; rw [if_neg (by omega), if_neg x, if_pos x1]
          have hin : inC s = 1 := by unfold inC; rw [if_neg (by omega)]
          have hsm := hsm hin
          rw [es] at bad good
          refine wl_takeValue (k := p_k s) hI hn hin rfl rfl hu hvl hQ (fun w st vl cd ln => bad w _ _ _ _ _ _ _ _ _ _ _ _ _ _ _) (fun w cd ln hq => ?_)
          have same : p_c (tkV b n s (p_k s)) = p_c s ∧ p_k (tkV b n s (p_k s)) = p_k s ∧ p_t (tkV b n s (p_k s)) = p_t s := by
            unfold tkV; repeat' split
            all_goals exact ⟨rfl, rfl, rfl⟩
          refine good w _ _ _ _ _ _ _ _ _ _ _ _ _ _ _ rfl (by rw [same.1]; exact hcl) rfl hq (by rw [pa _ w (Or.inr (Or.inl ⟨_, rfl⟩))]) (fun _ => ⟨fun _ => ?_, ?_⟩)
          · rw [same.2.1]; exact hsm.1 (by omega)
          · rw [same.2.2]; exact hsm.2
        · have es : stp b n s = tkX b n s := by unfold stp; rw [if_neg (by omega), if_neg x, if_neg x1, if_pos x2]
          have hin : inC s = 1 := by unfold inC; rw [if_neg (by omega)]
          have hsm := hsm hin
          rw [es] at bad good
          refine wl_takeFact hI hn x2 (by rw [hst, x2]; rfl) rfl rfl hu hvl hQ (fun w st sm vl cd ln pl tp dp op => bad w _ _ _ _ _ _ _ _ _ _ _ _ _ _ _) (fun w sm cd ln pl tp dp op h3 hq => ?_)
          have same : p_c (tkX b n s) = p_c s ∧ p_t (tkX b n s) = p_t s ∧ (p_f (tkX b n s) = 0 → p_s (tkX b n s) = 2 ∨ p_s (tkX b n s) = 3) := by
            unfold tkX tkV
            repeat' split
            all_goals refine ⟨rfl, rfl, fun w => ?_⟩
            all_goals first | exact absurd w flt_f | exact Or.inl rfl | exact Or.inr rfl
          refine good w _ _ _ _ _ _ _ _ _ _ _ _ _ _ _ rfl (by rw [same.1]; exact hcl) rfl hq (by rw [pa _ w (Or.inr (Or.inr (Or.inl rfl)))]) (fun _ => ⟨fun w2 => ?_, ?_⟩)
          · exact h3 (by have := same.2.2 w; omega)
          · rw [same.2.1]; exact hsm.2
        · have es : stp b n s = tkB b n s := by unfold stp; rw [if_neg (by omega), if_neg x, if_neg x1, if_neg x2, if_pos x3]
          have hin : inC s = 1 := by unfold inC; rw [if_neg (by omega)]
          have hsm := hsm hin
          rw [es] at bad good
          refine wl_takeBV (by omega) hI hn x3 rfl rfl (hsm.1 (by omega)) hvl hsm.2 hQ (fun w st sm vl td cd ln pl tp dp op => bad w _ _ _ _ _ _ _ _ _ _ _ _ _ _ _) (fun w cd ln pl tp dp op hq => ?_)
          have same : p_c (tkB b n s) = p_c s := by
            unfold tkB tkF tkE
            repeat' split
            all_goals rfl
          exact good w _ _ _ _ _ _ _ _ _ _ _ _ _ _ _ rfl (by rw [same]; exact hcl) rfl hq (by rw [pa _ w (Or.inr (Or.inr (Or.inr (Or.inl rfl))))]) (fun _ => ⟨fun _ => rfl, rfl⟩)
        · have es : stp b n s = tkF b n s := by unfold stp; rw [if_neg (by omega), if_neg x, if_neg x1, if_neg x2, if_neg x3]
          have hin : inC s = 1 := by unfold inC; rw [if_neg (by omega)]
          have hsm := hsm hin
          rw [es] at bad good
          refine wl_takeBF (by omega) hI hn (Or.inr (by omega)) rfl rfl hsm.2 hQ (fun w st cd ln pl tp dp op => bad w _ _ _ _ _ _ _ _ _ _ _ _ _ _ _) (fun w cd ln pl tp dp op hq => ?_)
          have same : p_c (tkF b n s) = p_c s ∧ p_v (tkF b n s) = p_v s ∧ p_k (tkF b n s) = p_k s ∧ p_t (tkF b n s) = p_t s := by
            unfold tkF tkE
            repeat' split
            all_goals exact ⟨rfl, rfl, rfl, rfl⟩
          exact good w _ _ _ _ _ _ _ _ _ _ _ _ _ _ _ rfl (by rw [same.1]; exact hcl) (by rw [same.2.1]; exact hvl) hq (by rw [pa _ w (Or.inr (Or.inr (Or.inr (Or.inr rfl))))]) (fun _ => ⟨fun _ => by rw [same.2.2.1]; exact hsm.1 (by omega), by rw [same.2.2.2]; exact hsm.2⟩)
  refine key N 0 _ _ _ _ _ _ _ _ _ _ _ _ _ _ _ _ rfl (by omega) rfl Inv_00 rfl rfl rfl ⟨lA_nil, rfl, lA_nil, rfl, rfl, rfl⟩ rfl (fun z => by cases z) (by omega)
end CR4
