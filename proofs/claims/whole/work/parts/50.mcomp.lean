/-! the reference reads a rule: comparisons -/
section MCO
variable {N n : Nat} {b : Nat → Int} {bt : Nat → Int32} {t : Nat}
theorem cmp_tok {p : Nat} (bB : ∀ i, -128 ≤ b i ∧ b i ≤ 127) : cmpo (sgn b n p) ≠ 18 ↔ p < n ∧ (b p = 60 ∨ b p = 61 ∨ b p = 62) := by
  have hw := wxf_r (b := b) (n := n) (p := p) (i := 15)
  have hb := bB p
  have cm : ∀ g, cmpo g ≠ 18 ↔ (g = 60 ∨ g = 258 ∨ g = 61 ∨ g = 259 ∨ g = 62) := by
    intro g
    unfold cmpo
    repeat' split
    all_goals omega
  rw [cm]
  constructor
  · intro h
    unfold sgn mk8 at h
    repeat' split at h
    all_goals omega
  · rintro ⟨a, c⟩
    unfold sgn mk8
    rw [if_neg (by omega), if_neg (by omega), if_neg (by omega)]
    split
    · split <;> omega
    · omega
/-- a comparison's sign: whether = is in it too -/
theorem cmp_is {p : Nat} (bB : ∀ i, -128 ≤ b i ∧ b i ≤ 127) (hp : p < n) (h : b p = 60 ∨ b p = 61 ∨ b p = 62) : ((b p ≠ 61 ∧ p + 1 < n ∧ b (p + 1) = 61) ∧ en b n p = p + 2 ∧ cmpo (sgn b n p) = (if b p = 60 then 8 else 10)) ∨ (¬ (b p ≠ 61 ∧ p + 1 < n ∧ b (p + 1) = 61) ∧ en b n p = p + 1 ∧ cmpo (sgn b n p) = (if b p = 60 then 7 else if b p = 61 then 9 else 11)) := by
  have hb := bB p
  by_cases e : b p ≠ 61 ∧ p + 1 < n ∧ b (p + 1) = 61
  · left
    refine ⟨e, ?_, ?_⟩
    · unfold en; rw [if_neg (by omega), if_neg (by omega), if_neg (by omega), if_pos ⟨by omega, e.2⟩]
    · unfold sgn
      rw [if_neg (by omega), if_neg (by omega), if_neg (by omega), if_pos ⟨by omega, e.2⟩]
      by_cases e60 : b p = 60
      · rw [if_pos e60, if_pos e60]; rfl
      · rw [if_neg e60, if_neg e60]; rfl
  · right
    have e2 : ¬ ((b p = 60 ∨ b p = 62) ∧ p + 1 < n ∧ b (p + 1) = 61) := fun z => e ⟨by omega, z.2⟩
    refine ⟨e, ?_, ?_⟩
    · unfold en; rw [if_neg (by omega), if_neg (by omega), if_neg (by omega), if_neg e2]
    · unfold sgn
      rw [if_neg (by omega), if_neg (by omega), if_neg (by omega), if_neg e2]
      rcases h with z | z | z <;> rw [z] <;> rfl
/-- behind a comparison -/
def CM (b : Nat → Int) (n : Nat) (s s' : pS) : Prop := RnS b n s s' ∧ Inv n s' ∧ p_f s' = 0 ∧ p_s s' = 3 ∧ p_k s' = 2 ∧ p_c s' = p_c s ∧ p_d s' = p_d s ∧ p_u s' = p_u s ∧ p_t s' = p_t s ∧ (popG 4 (p_p s') (p_w s')).1 = p_p s ∧ wrk (sg0 b n s') = 18
theorem wm_compare {s : pS} {a : Nat} {Q : Int32 → (Nat → Int32) → (Nat → Int32) → Int32 → Int32 → Int32 → Int32 → Prop} {tx nx nu md : Int32} {sg ln : Nat → Int32} (hN : 500 ≤ N) (hn : n ≤ 400) (hB : ∀ i, i < n → bt i = jn (b i)) (bB : ∀ i, -128 ≤ b i ∧ b i ≤ 127) (ht : t < 6) (htx : tx = jn t) (ha : a ≤ n) (hnx : nx = jn a) (hsa : skp b n a = skp b n (p_a s)) (hmd : md = jn (p_v s)) (hI : Inv n s) (hf : p_f s = 0) (hst : p_s s = 1) (hk : p_k s = 1) (hwk : wk 4 (p_p s)) (hC : mC t sg ln (TM 9 s))
    (hF : ∀ s', RnS b n s s' → p_f s' ≠ 0 → ∀ sg' ln' nx nu md, mFr t sg ln sg' ln' → Q 0 sg' ln' nx (jn (p_f s')) nu md)
    (hO : ∀ s', CM b n s s' → ∀ sg' ln' a' nu, mC t sg' ln' (TM 4 s') → mFr t sg ln sg' ln' → a' ≤ n → skp b n a' = skp b n (p_a s') → Q 1 sg' ln' (jn a') 0 nu (jn (p_v s'))) : wp_X12_compare N bt (jn n) tx Q sg ln nx 0 nu md := by
  unfold wp_X12_compare
  refine wm_sum (s := s) hN hn hB bB ht htx ha hnx hsa hmd hI hf hst (wk_up hwk (by omega)) hC (fun s2 r2 z sg2 ln2 nx2 nu2 md2 g => ?_) (fun s1 hB1 hw1 sg1 ln1 a1 nu1 g1 g2 g3 g4 => ?_)
  · exact ⟨fun _ => hF s2 r2 z sg2 ln2 nx2 nu2 md2 g, fun y => absurd rfl y⟩
  · refine ⟨fun y => absurd y (by decide), fun _ => ?_⟩
    obtain ⟨j1, j2, j3, j4, j5, j6, j7, j8, j9, j10⟩ := hB1
    have hsk := skp_le (b := b) g3
    rw [g4] at hsk
    have hen := en_le (b := b) hsk.2
    have hbp := bB (skp b n (p_a s1))
    have hv60 := j2.2.2.2.1
    have tkb : stp b n s1 = if cmpo (sg0 b n s1) = 18 then flt b n s1 0 else if 60 ≤ p_v s1 then flt b n s1 3 else mkP (at1 b n s1) 1 2 (p_c s1) (p_v s1 + 1) (p_t s1) (p_d s1) (p_u s1) (popG 4 (p_p s1) (p_w s1)).2 (cmpo (sg0 b n s1) :: (popG 4 (p_p s1) (p_w s1)).1) 0 := by
      rw [stp_3 j3 j4]; unfold tkB; rw [if_neg (by omega), if_pos (by omega)]
    refine wm_see hN hn hB bB g3 rfl ?_
    rw [g4]
    have pop4 : popG 4 (p_p s1) (p_w s1) = (p_p s, (popG 5 (p_p s1) (p_w s1)).2) := by
      rw [popG_two (m := 5) (by omega), j10, popG_wk hwk]
    by_cases hcm : cmpo (sg0 b n s1) = 18
    · -- no such sign
      have hno : ¬ (skp b n (p_a s1) < n ∧ (b (skp b n (p_a s1)) = 60 ∨ b (skp b n (p_a s1)) = 61 ∨ b (skp b n (p_a s1)) = 62)) := fun z => (cmp_tok bB).mpr z hcm
      have ne : ∀ m : Nat, (m = 60 ∨ m = 61 ∨ m = 62) → ¬ (if skp b n (p_a s1) < n then jn (mk8 (b (skp b n (p_a s1)))) else (-1 : Int32)) = jn m := by
        intro m hm z
        by_cases hp : skp b n (p_a s1) < n
        · rw [if_pos hp, jn_eq (by have := mk8_lt (x := b (skp b n (p_a s1))); omega) (by omega)] at z
          unfold mk8 at z
          exact hno ⟨hp, by omega⟩
        · rw [if_neg hp, show (-1 : Int32) = jn (-1) from rfl, jn_eq (by omega) (by omega)] at z
          omega
      refine ⟨fun z => absurd z (ne 60 (by omega)), fun _ => ⟨fun z => absurd z (ne 61 (by omega)), fun _ => ⟨fun z => absurd z (ne 62 (by omega)), fun _ => ?_⟩⟩⟩
      rw [if_pos hcm] at tkb
      have hf0 : p_f (stp b n s1) = 1 + 8 * skp b n (p_a s1) + 0 := by rw [tkb]; rfl
      refine wm_fails (kd := 0) rfl rfl ⟨Or.inl rfl, ?_⟩
      rw [← hf0]
      exact hF _ (RnS_step j1) (by rw [hf0]; omega) sg1 ln1 _ _ _ g2
    · obtain ⟨hlt, hch⟩ := (cmp_tok bB).mp hcm
      rw [if_neg hcm] at tkb
      rw [if_pos hlt]
      have ci := cmp_is bB hlt hch
      have hr8 : jn (mk8 (b (skp b n (p_a s1)))) = jn (b (skp b n (p_a s1))) := by
        refine congrArg jn ?_
        unfold mk8; omega
      rw [hr8]
      -- what follows the sign
      have rest : ∀ (v3 s0 : Nat), (v3 = 0 ∨ v3 = 1) → (v3 = 1 ↔ (b (skp b n (p_a s1)) ≠ 61 ∧ skp b n (p_a s1) + 1 < n ∧ b (skp b n (p_a s1) + 1) = 61)) → wp_X12_compare_105 N bt (jn n) tx Q (jn (b (skp b n (p_a s1)))) (jn (skp b n (p_a s1))) (jn v3) sg1 ln1 (jn (en b n (skp b n (p_a s1)))) 0 nu1 (jn (p_v s1)) := by
        intro v3 s0 hv3 hal
        unfold wp_X12_compare_105
        refine wm_makes rfl rfl hv60 (fun z => ?_) (fun z => ?_)
        · refine ⟨fun _ => ?_, fun y => absurd rfl y⟩
          rw [if_pos (by omega)] at tkb
          have hf0 : p_f (stp b n s1) = 1 + 8 * skp b n (p_a s1) + 3 := by rw [tkb]; rfl
          rw [← hf0]
          exact hF _ (RnS_step j1) (by rw [hf0]; omega) sg1 ln1 _ _ _ g2
        · refine ⟨fun y => absurd y (by decide), fun _ => ?_⟩
          rw [if_neg (by omega), pop4] at tkb
          have pf1 : p_f (stp b n s1) = 0 := by rw [tkb]; rfl
          have ps1 : p_s (stp b n s1) = 1 := by rw [tkb]; rfl
          have i1 := (stp_Inv j2 j3 (by omega) pf1).1
          have pp1 : p_p (stp b n s1) = cmpo (sg0 b n s1) :: p_p s := by rw [tkb]; rfl
          have pa1 : p_a (stp b n s1) = en b n (skp b n (p_a s1)) := by rw [tkb]; rfl
          have pv1 : p_v (stp b n s1) = p_v s1 + 1 := by rw [tkb]; rfl
          have hc711 := (cmpo_r hcm).1
          have hwk1 : wk 5 (p_p (stp b n s1)) := by rw [pp1]; intro o q z; cases z; rw [str_c hc711]; omega
          have hT9 : TM 9 (stp b n s1) = TM 5 s1 := by
            rw [TM_wk (wk_9 i1), tkb]; rfl
          have s152 : ∀ (x : Int32) (w : Nat), x = jn w → 6 + w = mo (cmpo (sg0 b n s1)) → wp_X12_compare_152 N bt (jn n) tx Q x sg1 ln1 (jn (en b n (skp b n (p_a s1)))) 0 nu1 (jn ((p_v s1 + 1 : Nat) : Int)) := by
            intro x w hx hw
            unfold wp_X12_compare_152
            refine wm_sum (s := stp b n s1) (a := en b n (skp b n (p_a s1))) hN hn hB bB ht htx hen.2 rfl (by rw [pa1]) (by rw [pv1]) i1 pf1 ps1 hwk1 (by rw [hT9]; exact g1) (fun s2 r2 z sg2 ln2 nx2 nu2 md2 g => ?_) (fun s2 hB2 hw2 sg2 ln2 a2 nu2 k1 k2 k3 k4 => ?_)
            · exact ⟨fun _ => hF s2 (RnS_trans (RnS_step j1) r2) z sg2 ln2 nx2 nu2 md2 (mFr_trans g2 g), fun y => absurd rfl y⟩
            · refine ⟨fun y => absurd y (by decide), fun _ => ?_⟩
              obtain ⟨l1, l2, l3, l4, l5, l6, l7, l8, l9, l10⟩ := hB2
              rw [pp1] at l10
              have pop2 : popG 4 (p_p s2) (p_w s2) = (p_p s, (popG 5 (p_p s2) (p_w s2)).2 ++ [cmpo (sg0 b n s1)]) := by
                rw [popG_two (m := 5) (by omega), l10, popG, if_pos (by rw [str_c hc711]; omega), popG_wk hwk]
              have hTe : TM 4 s2 = TM 5 s2 ++ [cmpo (sg0 b n s1)] := by
                unfold TM
                rw [pop2, List.append_assoc (fm (p_d s2) ++ p_u s2)]
              have hl2 := TM_len (m := 5) l2 hn (inC_1 (by omega))
              refine wm_puts (v := cmpo (sg0 b n s1)) ht htx k1 (by omega) ?_ (fun sg3 ln3 q1 q2 => ?_)
              · rw [hx, show (16 : Int32) = jn 16 from rfl, li_0, li_6, jn_mul, jn_add, jn_add]
                have : mt (cmpo (sg0 b n s1)) = mo (cmpo (sg0 b n s1)) := by
                  unfold mt
                  rw [if_neg (by omega)]
                rw [this, ← hw]; exact congrArg jn (by omega)
              · refine hO s2 ⟨RnS_trans (RnS_step j1) l1, l2, l3, l4, ?_, ?_, ?_, ?_, ?_, ?_, hw2⟩ sg3 ln3 a2 nu2 (by rw [hTe]; exact q1) (mFr_trans g2 (mFr_trans k2 q2)) k3 k4
                · rw [l5, tkb]; rfl
                · rw [l6, tkb]; exact j6
                · rw [l7, tkb]; exact j7
                · rw [l8, tkb]; exact j8
                · rw [l9, tkb]; exact j9
                · rw [pop2]
          have v3e : (jn (v3 : Int) = 0) = (v3 = 0) := by rw [li_0, jn_eq (by omega) (by omega)]; exact propext ⟨fun z => by omega, fun z => by omega⟩
          have ci2 : cmpo (sg0 b n s1) = (if v3 = 1 then (if b (skp b n (p_a s1)) = 60 then 8 else 10) else (if b (skp b n (p_a s1)) = 60 then 7 else if b (skp b n (p_a s1)) = 61 then 9 else 11)) := by
            rcases ci with ⟨c1, -, c3⟩ | ⟨c1, -, c3⟩
            · rw [if_pos (hal.mpr c1)]; exact c3
            · rw [if_neg (fun z => c1 (hal.mp z))]; exact c3
          have h61 : v3 = 1 → b (skp b n (p_a s1)) ≠ 61 := fun z => (hal.mp z).1
          rw [show (60 : Int32) = jn 60 from rfl, show (61 : Int32) = jn 61 from rfl, jn_eq (by omega) (by omega), jn_eq (by omega) (by omega), v3e]
          refine ⟨fun y => ⟨fun x => ?_, fun x => ?_⟩, fun y => ⟨fun x => ?_, fun x => ⟨fun w => ?_, fun w => ?_⟩⟩⟩
          · rw [if_neg (by omega), if_pos y] at ci2
            exact s152 _ 0 rfl (by rw [ci2]; rfl)
          · rw [if_pos (by omega), if_pos y] at ci2
            exact s152 _ 1 rfl (by rw [ci2]; rfl)
          · rw [if_neg (fun z => h61 z x), if_neg y, if_pos x] at ci2
            exact s152 _ 2 rfl (by rw [ci2]; rfl)
          · rw [if_neg (by omega), if_neg y, if_neg x] at ci2
            exact s152 _ 4 rfl (by rw [ci2]; rfl)
          · rw [if_pos (by omega), if_neg y] at ci2
            exact s152 _ 3 rfl (by rw [ci2]; rfl)
      have all : wp_X12_compare_44 N bt (jn n) tx Q (jn (b (skp b n (p_a s1)))) (jn (skp b n (p_a s1))) sg1 ln1 (jn (skp b n (p_a s1))) 0 nu1 (jn (p_v s1)) := by
        unfold wp_X12_compare_44 wp_X12_compare_89 wp_X12_compare_90
        have e1 : jn (skp b n (p_a s1) : Int) + (1 : Int32) = jn ((skp b n (p_a s1) + 1 : Nat) : Int) := by (first | rfl | (simp (disch := omega) only [jn_add, jn_sub, jn_mul, jn_neg, li_0, li_1, li_2, li_3, li_4, li_5, li_6, li_7, li_8, li_9, li_10, li_11, li_12, li_13, li_14, li_15, li_16, li_17, li_18, li_20, li_24, li_29, li_30, li_31, li_32, li_37, li_39, li_40, li_42, li_43, li_45, li_46, li_47, li_48, li_53, li_57, li_59, li_60, li_61, li_62, li_63, li_80, li_81, li_91, li_93, li_97, li_100, li_122, li_200, li_255, li_256, li_257, li_258, li_259, li_260, li_300, li_314, li_400, li_580, li_999, li_5040, li_9999, li_65536, li_99999, li_7654321] <;> first | rfl | exact congrArg jn (by omega)) | exact congrArg jn (by omega))
        rw [e1]
        have no : ¬ (b (skp b n (p_a s1)) ≠ 61 ∧ skp b n (p_a s1) + 1 < n ∧ b (skp b n (p_a s1) + 1) = 61) → (((0 : Int32) = 0 → wp_X12_compare_105 N bt (jn n) tx Q (jn (b (skp b n (p_a s1)))) (jn (skp b n (p_a s1))) 0 sg1 ln1 (jn ((skp b n (p_a s1) + 1 : Nat) : Int)) 0 nu1 (jn (p_v s1))) ∧ (¬ ((0 : Int32) = 0) → wp_X12_compare_105 N bt (jn n) tx Q (jn (b (skp b n (p_a s1)))) (jn (skp b n (p_a s1))) 0 sg1 ln1 (jn ((skp b n (p_a s1) + 1 : Nat) : Int) + (1 : Int32)) 0 nu1 (jn (p_v s1)))) := by
          intro z
          have he : en b n (skp b n (p_a s1)) = skp b n (p_a s1) + 1 := by
            rcases ci with ⟨c1, -⟩ | ⟨-, c2, -⟩
            · exact absurd c1 z
            · exact c2
          refine ⟨fun _ => ?_, fun y => absurd rfl y⟩
          rw [← he]
          exact rest 0 0 (Or.inl rfl) ⟨fun y => by omega, fun y => absurd y z⟩
        rw [show (61 : Int32) = jn 61 from rfl, jn_eq (by omega) (by omega)]
        refine ⟨fun y => no (fun z => z.1 y), fun y => ?_⟩
        rw [jn_le (by omega) (by omega)]
        refine ⟨fun x => no (fun z => by omega), fun x => ?_⟩
        have hb2 := bB (skp b n (p_a s1) + 1)
        rw [jn_cln (by omega), hB _ (by omega), jn_eq (by omega) (by omega)]
        refine ⟨by simp (disch := omega) only [jn_le, jn_lt, jn_eq, jn_in, jn_add, jn_sub, jn_mul, jn_neg, li_0, li_1, li_2, li_3, li_4, li_5, li_6, li_7, li_8, li_9, li_10, li_11, li_12, li_13, li_14, li_15, li_16, li_17, li_18, li_20, li_24, li_29, li_30, li_31, li_32, li_37, li_39, li_40, li_42, li_43, li_45, li_46, li_47, li_48, li_53, li_57, li_59, li_60, li_61, li_62, li_63, li_80, li_81, li_91, li_93, li_97, li_100, li_122, li_200, li_255, li_256, li_257, li_258, li_259, li_260, li_300, li_314, li_400, li_580, li_999, li_5040, li_9999, li_65536, li_99999, li_7654321] <;> omega, fun w => ⟨fun v => absurd v (by decide), fun _ => ?_⟩, fun w => no (fun z => w z.2.2)⟩
        have hal : b (skp b n (p_a s1)) ≠ 61 ∧ skp b n (p_a s1) + 1 < n ∧ b (skp b n (p_a s1) + 1) = 61 := ⟨y, by omega, w⟩
        have he : en b n (skp b n (p_a s1)) = skp b n (p_a s1) + 2 := by
          rcases ci with ⟨-, c2, -⟩ | ⟨c1, -⟩
          · exact c2
          · exact absurd hal c1
        rw [show jn ((skp b n (p_a s1) + 1 : Nat) : Int) + (1 : Int32) = jn (en b n (skp b n (p_a s1)) : Int) by rw [he]; exact by (first | rfl | (simp (disch := omega) only [jn_add, jn_sub, jn_mul, jn_neg, li_0, li_1, li_2, li_3, li_4, li_5, li_6, li_7, li_8, li_9, li_10, li_11, li_12, li_13, li_14, li_15, li_16, li_17, li_18, li_20, li_24, li_29, li_30, li_31, li_32, li_37, li_39, li_40, li_42, li_43, li_45, li_46, li_47, li_48, li_53, li_57, li_59, li_60, li_61, li_62, li_63, li_80, li_81, li_91, li_93, li_97, li_100, li_122, li_200, li_255, li_256, li_257, li_258, li_259, li_260, li_300, li_314, li_400, li_580, li_999, li_5040, li_9999, li_65536, li_99999, li_7654321] <;> first | rfl | exact congrArg jn (by omega)) | exact congrArg jn (by omega))]
        exact rest 1 0 (Or.inr rfl) ⟨fun _ => hal, fun _ => rfl⟩
      rw [show (60 : Int32) = jn 60 from rfl, show (61 : Int32) = jn 61 from rfl, show (62 : Int32) = jn 62 from rfl, jn_eq (by omega) (by omega), jn_eq (by omega) (by omega), jn_eq (by omega) (by omega)]
      refine ⟨fun _ => all, fun y1 => ⟨fun _ => all, fun y2 => ⟨fun _ => all, fun y3 => ?_⟩⟩⟩
      omega
end MCO
