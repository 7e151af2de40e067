/-! the class's RuleReader: sign by sign -/
theorem jn_shl5 (a : Nat) : jn (a : Int) <<< ((5 : Int32) &&& 31) = jn ((a * 32 : Nat) : Int) := by
  rw [jn_nat, jn_nat, show ((5 : Int32) &&& 31) = 5 from rfl]
  show (⟨⟨BitVec.ofNat 32 a <<< ((5#32).smod 32)⟩⟩ : Int32) = _
  rw [show ((5#32).smod 32) = 5#32 by decide]
  congr 2
  refine BitVec.eq_of_toNat_eq ?_
  rw [BitVec.shiftLeft_eq', BitVec.toNat_shiftLeft, BitVec.toNat_ofNat, BitVec.toNat_ofNat, BitVec.toNat_ofNat, show 5 % 2 ^ 32 = 5 from rfl, Nat.shiftLeft_eq]
  omega
section CR2
variable {N n : Nat} {b : Nat → Int} {s : pS}
theorem wl_isWord7 {Q : Int32 → Prop} {sg x : Int32} {g w : Nat} (hs : sg = jn g) (hx : x = jn w) (hg : g < 1000) (hw : w < 100) (h : Q (if g = 300 + w then 1 else 0)) : wp_X7_isWord N sg Q x := by
  subst hs hx
  unfold wp_X7_isWord wp_X7_isWord_20
  rw [li_300, jn_add, jn_eq (by omega) (by omega)]
  refine ⟨fun q => ⟨Or.inr rfl, ?_⟩, fun q => ⟨Or.inl rfl, ?_⟩⟩
  · rwa [if_pos (by omega)] at h
  · rwa [if_neg (by omega)] at h
theorem sg0_lt : sg0 b n s < 315 := sgn_lt
theorem wl_takeValue {k : Nat} {Q : Int32 → Int32 → (Nat → Int32) → Int32 → Int32 → Prop} {sg pc nu st vl ln : Int32} {cd pl : Nat → Int32} {tp dp op : Int32} (hI : Inv n s) (hn : n ≤ 400) (hin : inC s = 1) (hsg : sg = jn (sg0 b n s)) (hpc : pc = jn (skp b n (p_a s))) (hnu : sg0 b n s = 257 → nu = jn (numb b n (skp b n (p_a s)))) (hv : vl = jn (p_v s)) (hQ : cQ (cod s) (p_p s) cd ln pl tp dp op)
    (h0 : p_f (tkV b n s k) ≠ 0 → ∀ st vl cd ln, Q st vl cd ln (jn (p_f (tkV b n s k))))
    (h1 : p_f (tkV b n s k) = 0 → ∀ cd ln, cQ (cod (tkV b n s k)) (p_p (tkV b n s k)) cd ln pl tp dp op → Q (jn (p_s (tkV b n s k))) (jn (p_v (tkV b n s k))) cd ln 0) : wp_X7_takeValue N sg pc nu Q st vl cd ln 0 := by
  have hs := sg0_lt (b := b) (n := n) (s := s)
  have hr := numb_r (b := b) (n := n) (p := skp b n (p_a s))
  have hw := hI.2.1
  have ha := hI.1
  have hv60 := hI.2.2.2.1
  have hal := at_le (b := b) ha
  subst hsg hpc hv
  unfold wp_X7_takeValue
  have fail : ∀ (kd : Nat) (x : Int32) st vl cd ln, x = jn kd → tkV b n s k = flt b n s kd → wp_X9_fail N (jn (skp b n (p_a s))) (fun m => Q st vl cd ln m) x 0 := by
    intro kd x st vl cd ln hx e
    have hf : p_f (tkV b n s k) = 1 + 8 * skp b n (p_a s) + kd := by rw [e]; rfl
    refine wl_fail hx rfl ?_
    rw [← hf]
    exact h0 (by rw [hf]; omega) _ _ _ _
  have mid : ∀ (v1 : Nat) (v2 : Int32), v1 = (if sg0 b n s = 257 then 1 else 0) → v2 = jn ((sg0 b n s : Int) - 300) → (sg0 b n s = 257 ∨ (300 ≤ sg0 b n s ∧ sg0 b n s < 310)) → wp_X7_takeValue_56 N (jn (sg0 b n s)) (jn (skp b n (p_a s))) nu (wp_X7_takeValue_144 N (jn (sg0 b n s)) (jn (skp b n (p_a s))) nu Q) Q (jn v1) v2 st (jn (p_v s)) cd ln 0 := by
    intro v1 v2 e1 e2 hsw
    unfold wp_X7_takeValue_56
    have n1 : ¬ (sg0 b n s ≠ 257 ∧ ¬ (300 ≤ sg0 b n s ∧ sg0 b n s < 310)) := by omega
    have last : ¬ (sg0 b n s = 257 ∧ numb b n (skp b n (p_a s)) = -1) → wp_X7_takeValue_82 N (jn (sg0 b n s)) (jn (skp b n (p_a s))) nu (wp_X7_takeValue_144 N (jn (sg0 b n s)) (jn (skp b n (p_a s))) nu Q) Q (jn v1) v2 st (jn (p_v s)) cd ln 0 := by
      intro n2
      unfold wp_X7_takeValue_82 wp_X7_takeValue_136 wp_X7_takeValue_144
      rw [li_60, jn_lt (by omega) (by omega)]
      have wr : ∀ x : Int32, x = jn (vtok b n s) → p_v s < 60 → wp_X7_write N (fun m5 m6 => Q (3 : Int32) (jn (p_v s) + (1 : Int32)) m5 m6 0) x cd ln := by
        intro x hx hv
        have e : tkV b n s k = mkP (at1 b n s) 3 k (p_c s) (p_v s + 1) (p_t s) (p_d s) (p_u s) (p_w s ++ [vtok b n s]) (p_p s) 0 := by
          unfold tkV; rw [if_neg n1, if_neg n2, if_neg (by omega)]
        rw [e] at h1
        refine wl_write hQ.1 hQ.2.1 (by omega) hx (fun cd' hcd => ?_)
        have ec : cod (mkP (at1 b n s) 3 k (p_c s) (p_v s + 1) (p_t s) (p_d s) (p_u s) (p_w s ++ [vtok b n s]) (p_p s) 0) = cod s ++ [vtok b n s] := by
          show fl (p_d s) ++ p_u s ++ (p_w s ++ [vtok b n s]) = (fl (p_d s) ++ p_u s ++ p_w s) ++ [vtok b n s]
          rw [List.append_assoc (fl (p_d s) ++ p_u s)]
        rw [li_1, jn_add]
        exact h1 rfl cd' _ (by rw [ec]; exact ⟨hcd, rfl, hQ.2.2⟩)
      refine ⟨fun z => ⟨fun y => ?_, fun y => ?_⟩, fun z => ?_⟩
      · have e3 : ¬ sg0 b n s = 257 := by
          intro e3; rw [if_pos e3] at e1; subst e1; exact absurd y (by decide)
        refine wr _ ?_ (by omega)
        have e4 : v2 = jn ((sg0 b n s - 300 : Nat) : Int) := by rw [e2]; exact congrArg jn (by omega)
        have key : ∀ w : Fin 10, ((1 : Int32) ||| (jn (w.val : Int) <<< ((5 : Int32) &&& 31))) = jn ((1 + 32 * w.val : Nat) : Int) := by decide +kernel
        have := key ⟨sg0 b n s - 300, by omega⟩
        unfold vtok
        rw [if_neg e3, e4]; exact this
      · have e3 : sg0 b n s = 257 := by
          by_cases e3 : sg0 b n s = 257
          · exact e3
          · rw [if_neg e3] at e1; subst e1; exact absurd rfl y
        refine wr _ ?_ (by omega)
        unfold vtok
        rw [if_pos e3, hnu e3]
        have : numb b n (skp b n (p_a s)) = ((numb b n (skp b n (p_a s))).toNat : Int) := by
          have : numb b n (skp b n (p_a s)) ≠ -1 := fun z => n2 ⟨e3, z⟩
          omega
        rw [this, jn_shl5, li_0, show jn 0 = jn ((0 : Nat) : Int) from rfl, jn_or, Nat.zero_or]
        exact congrArg jn (by omega)
      · refine fail 3 _ _ _ _ _ rfl ?_
        unfold tkV; rw [if_neg n1, if_neg n2, if_pos (by omega)]
    refine ⟨fun y => ?_, fun y => ⟨fun z => ?_, fun z => ?_⟩⟩
    · refine last (fun z => ?_)
      rw [if_pos z.1] at e1; subst e1; exact absurd y (by decide)
    · have e3 : sg0 b n s = 257 := by
        by_cases e3 : sg0 b n s = 257
        · exact e3
        · rw [if_neg e3] at e1; subst e1; exact absurd rfl y
      rw [hnu e3, show (-1 : Int32) = jn (-1) from rfl, jn_eq (by omega) (by omega)] at z
      unfold wp_X7_takeValue_144
      refine fail 1 _ _ _ _ _ rfl ?_
      unfold tkV; rw [if_neg n1, if_pos ⟨e3, z⟩]
    · refine last (fun x => z ?_)
      rw [hnu x.1, x.2]; rfl
  unfold wp_X7_takeValue_18 wp_X7_takeValue_45
  rw [li_257, jn_eq (by omega) (by omega)]
  refine ⟨fun q x hx => ⟨fun z => absurd z (by decide), fun _ => ?_⟩, fun q x hx => ⟨fun _ => ?_, fun z => absurd rfl z⟩⟩
  · exact mid 1 x (by rw [if_pos (by omega)]) (by rw [hx, li_300, jn_sub]) (by omega)
  · rw [li_300, jn_sub] at hx
    have ff : ¬ (300 ≤ sg0 b n s ∧ sg0 b n s < 310) → wp_X9_fail N (jn (skp b n (p_a s))) (fun m2 => wp_X7_takeValue_144 N (jn (sg0 b n s)) (jn (skp b n (p_a s))) nu Q st (jn (p_v s)) cd ln m2) (0 : Int32) 0 := by
      intro z
      unfold wp_X7_takeValue_144
      refine fail 0 _ _ _ _ _ rfl ?_
      unfold tkV; rw [if_pos ⟨by omega, z⟩]
    rw [hx, li_0, li_10, jn_lt (by omega) (by omega), jn_lt (by omega) (by omega), ← li_0]
    refine ⟨fun z => ff (by omega), fun z => ⟨fun y => ?_, fun y => ff (by omega)⟩⟩
    exact mid 0 _ (by rw [if_neg (by omega)]) rfl (by omega)
theorem wl_takeClause {Q : Int32 → Int32 → Int32 → Int32 → Int32 → Prop} {sg pc st sm cl td : Int32} (hI : Inv n s) (hsg : sg = jn (sg0 b n s)) (hpc : pc = jn (skp b n (p_a s))) (hcl : cl = jn (p_c s))
    (h0 : p_f (tkC b n s) ≠ 0 → ∀ st sm cl td, Q st sm cl td (jn (p_f (tkC b n s))))
    (h1 : p_f (tkC b n s) = 0 → Q (jn (p_s (tkC b n s))) (jn (p_k (tkC b n s))) (jn (p_c (tkC b n s))) 0 0) : wp_X7_takeClause N sg pc Q st sm cl td 0 := by
  have hs := sg0_lt (b := b) (n := n) (s := s)
  have hc := hI.2.2.2.2.1
  subst hpc hcl
  unfold wp_X7_takeClause wp_X7_takeClause_64
  have fail : ∀ (kd : Nat) (x : Int32) st sm cl td, x = jn kd → tkC b n s = flt b n s kd → wp_X9_fail N (jn (skp b n (p_a s))) (fun m => Q st sm cl td m) x 0 := by
    intro kd x st sm cl td hx e
    have hf : p_f (tkC b n s) = 1 + 8 * skp b n (p_a s) + kd := by rw [e]; rfl
    refine wl_fail hx rfl ?_
    rw [← hf]
    exact h0 (by rw [hf]; omega) _ _ _ _
  refine wl_isWord7 (w := 3) hsg rfl (by omega) (by omega) ?_
  by_cases e1 : sg0 b n s = 303
  · rw [if_pos e1]
    refine ⟨fun q => absurd q (by decide), fun _ => ?_⟩
    rw [li_12, jn_lt (by omega) (by omega)]
    refine ⟨fun q => ?_, fun q => ?_⟩
    · have e : tkC b n s = mkP (at1 b n s) 1 0 (p_c s + 1) (p_v s) false (p_d s) [] [] (p_p s) 0 := by
        unfold tkC; rw [if_neg (by omega), if_neg (by omega)]
      rw [e] at h1
      have := h1 rfl
      rw [li_1, jn_add]; exact this
    · refine fail 4 _ _ _ _ _ rfl ?_
      unfold tkC; rw [if_neg (by omega), if_pos (by omega)]
  · rw [if_neg e1]
    refine ⟨fun _ => ?_, fun q => absurd rfl q⟩
    refine fail 0 _ _ _ _ _ rfl ?_
    unfold tkC; rw [if_pos e1]
theorem wl_takeFact {Q : Int32 → Int32 → Int32 → (Nat → Int32) → Int32 → (Nat → Int32) → Int32 → Int32 → Int32 → Int32 → Prop} {sg pc nu st sm vl ln : Int32} {cd pl : Nat → Int32} {tp dp op : Int32} (hI : Inv n s) (hn : n ≤ 400) (hst : p_s s = 2) (hsts : st = jn 2) (hsg : sg = jn (sg0 b n s)) (hpc : pc = jn (skp b n (p_a s))) (hnu : sg0 b n s = 257 → nu = jn (numb b n (skp b n (p_a s)))) (hv : vl = jn (p_v s)) (hQ : cQ (cod s) (p_p s) cd ln pl tp dp op)
    (h0 : p_f (tkX b n s) ≠ 0 → ∀ st sm vl cd ln pl tp dp op, Q st sm vl cd ln pl tp dp op (jn (p_f (tkX b n s))))
    (h1 : p_f (tkX b n s) = 0 → ∀ sm cd ln pl tp dp op, (p_s (tkX b n s) = 3 → sm = jn (p_k (tkX b n s))) → cQ (cod (tkX b n s)) (p_p (tkX b n s)) cd ln pl tp dp op → Q (jn (p_s (tkX b n s))) sm (jn (p_v (tkX b n s))) cd ln pl tp dp op 0) : wp_X7_takeFact N sg pc nu Q st sm vl cd ln pl tp dp op 0 := by
  have hs := sg0_lt (b := b) (n := n) (s := s)
  have hd := hI.2.2.1
  have hin : inC s = 1 := by unfold inC; rw [if_neg (by omega)]
  have hplen : (p_p s).length ≤ 40 := by
    rcases hI.2.2.2.2.2.2.2 with ⟨z, -⟩ | ⟨z, -⟩ | ⟨z, -⟩ | ⟨z, -, z2, -⟩ | ⟨z, -⟩
    · omega
    · omega
    · omega
    · have := bO_len (by omega) z2
      have := opn_dep (p := p_p s)
      omega
    · omega
  unfold wp_X7_takeFact wp_X7_takeFact_17
  have fail : ∀ (kd : Nat) (x : Int32) st sm vl cd ln pl tp dp op, x = jn kd → tkX b n s = flt b n s kd → wp_X9_fail N pc (fun m => Q st sm vl cd ln pl tp dp op m) x 0 := by
    intro kd x st sm vl cd ln pl tp dp op hx e
    have hf : p_f (tkX b n s) = 1 + 8 * skp b n (p_a s) + kd := by rw [e]; rfl
    refine wl_fail hx hpc ?_
    rw [← hf]
    exact h0 (by rw [hf]; omega) _ _ _ _ _ _ _ _ _
  have op1 : ∀ v1 : Nat, (sg0 b n s = 91 ∨ sg0 b n s = 311) → v1 = (if sg0 b n s = 91 then 1 else 0) → wp_X7_takeFact_43 N sg pc nu (wp_X7_takeFact_106 N sg pc nu Q) Q (jn v1) st sm vl cd ln pl tp dp op 0 := by
    intro v1 hs2 e1
    unfold wp_X7_takeFact_43
    rw [hQ.2.2.2.2.1, li_10, jn_lt (by omega) (by omega)]
    have ole := opn_dep (p := p_p s)
    have both : ∀ (o w : Nat) (c : Int32), (o = 12 ∨ o = 15) → o = (if sg0 b n s = 91 then 15 else 12) → w = (if o = 15 then 1 else 0) → c = jn w → dep (p_p s) < 10 → wp_X7_takeFact_103 N sg pc nu (wp_X7_takeFact_106 N sg pc nu Q) Q (jn o) st sm vl cd ln pl tp (jn (dep (p_p s)) + (1 : Int32)) (op + c) 0 := by
      intro o w c ho eo ew ec hdl
      unfold wp_X7_takeFact_103 wp_X7_takeFact_106
      have e : tkX b n s = mkP (at1 b n s) 2 (p_k s) (p_c s) (p_v s) (p_t s) (p_d s) (p_u s) (p_w s) (o :: p_p s) 0 := by
        unfold tkX; rw [if_pos hs2, if_neg (by omega), ← eo]
      rw [e] at h1
      refine wl_lay hQ.2.2.1 hQ.2.2.2.1 (by omega) rfl (fun pl' hpl => ?_)
      have := h1 rfl sm cd ln pl' (jn (o :: p_p s).length) (jn (dep (p_p s)) + (1 : Int32)) (op + c) (fun z => by cases z) ⟨hQ.1, hQ.2.1, hpl, rfl, ?_, ?_⟩
      · rw [hsts, hv]; exact this
      · show _ = jn (dep (o :: p_p s))
        rw [dep_cons, if_pos ho, li_1, jn_add]; rfl
      · show _ = jn (opn (o :: p_p s))
        rw [opn_cons, hQ.2.2.2.2.2, ec, jn_add, ew]; rfl
    have stp1 : ∀ (w : Nat) (c : Int32), w = (if sg0 b n s = 91 then 1 else 0) → c = jn w → dep (p_p s) < 10 → wp_X7_takeFact_87 N sg pc nu (wp_X7_takeFact_106 N sg pc nu Q) Q (jn v1) c op st sm vl cd ln pl tp (jn (dep (p_p s)) + (1 : Int32)) op 0 := by
      intro w c ew ec hdl
      unfold wp_X7_takeFact_87
      refine ⟨fun y => ?_, fun y => ?_⟩
      · have e3 : ¬ sg0 b n s = 91 := by
          intro e3; rw [if_pos e3] at e1; subst e1; exact absurd y (by decide)
        rw [if_neg e3] at ew
        exact both 12 w c (Or.inl rfl) (by rw [if_neg e3]) (by rw [ew]; rfl) ec hdl
      · have e3 : sg0 b n s = 91 := by
          by_cases e3 : sg0 b n s = 91
          · exact e3
          · rw [if_neg e3] at e1; subst e1; exact absurd rfl y
        rw [if_pos e3] at ew
        exact both 15 w c (Or.inr rfl) (by rw [if_pos e3]) (by rw [ew]; rfl) ec hdl
    refine ⟨fun z => ⟨fun y => ?_, fun y => ?_⟩, fun z => ?_⟩
    · refine stp1 0 0 ?_ rfl (by omega)
      rw [if_neg]
      intro e3; rw [if_pos e3] at e1; subst e1; exact absurd y (by decide)
    · refine stp1 1 1 ?_ rfl (by omega)
      rw [if_pos]
      by_cases e3 : sg0 b n s = 91
      · exact e3
      · rw [if_neg e3] at e1; subst e1; exact absurd rfl y
    · unfold wp_X7_takeFact_106
      refine fail 2 _ _ _ _ _ _ _ _ _ _ rfl ?_
      unfold tkX; rw [if_pos hs2, if_pos (by omega)]
  rw [show (sg = (91 : Int32)) = (sg0 b n s = 91) by rw [hsg, li_91, jn_eq (by omega) (by omega)]; exact propext ⟨fun z => by omega, fun z => by omega⟩]
  refine ⟨fun q => ⟨fun z => absurd z (by decide), fun _ => op1 1 (Or.inl q) (by rw [if_pos q])⟩, fun q => ⟨fun _ => ?_, fun z => absurd rfl z⟩⟩
  refine wl_isWord7 (w := 11) hsg rfl (by omega) (by omega) ?_
  by_cases e1 : sg0 b n s = 311
  · rw [if_pos e1]
    exact ⟨fun z => absurd z (by decide), fun _ => op1 0 (Or.inr e1) (by rw [if_neg q])⟩
  · rw [if_neg e1]
    refine ⟨fun _ => ?_, fun z => absurd rfl z⟩
    have e : tkX b n s = tkV b n s 1 := by unfold tkX; rw [if_neg (by omega)]
    rw [e] at h0 h1
    unfold wp_X7_takeFact_106
    refine wl_takeValue (k := 1) hI hn hin hsg hpc hnu hv hQ (fun z st vl cd ln => h0 z _ _ _ _ _ _ _ _ _) (fun z cd ln hq => h1 z _ _ _ _ _ _ _ (fun y => ?_) hq)
    unfold tkV at z ⊢
    split at z
    · exact absurd z flt_f
    · split at z
      · exact absurd z flt_f
      · split at z
        · exact absurd z flt_f
        · rename_i z1 z2 z3
          rw [if_neg z1, if_neg z2, if_neg z3]; rfl
end CR2
