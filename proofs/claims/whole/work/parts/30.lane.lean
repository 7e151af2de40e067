/-! the text of a lane -/
def nR (b : Nat → Int) (n a lo hi : Nat) : Nat ⊕ (Nat × Nat) :=
  if sgn b n (skp b n a) = 257 then (if (lo : Int) ≤ numb b n (skp b n a) ∧ numb b n (skp b n a) ≤ hi then .inr ((numb b n (skp b n a)).toNat, en b n (skp b n a)) else .inl (1 + 8 * skp b n a + 1)) else .inl (1 + 8 * skp b n a)
/-- a child's three numbers -/
def c3 (b : Nat → Int) (n a : Nat) (l : lS) : Nat ⊕ (Nat × lS) := match nR b n a 1 20 with
  | .inl e => .inl e
  | .inr x => match nR b n x.2 1 20 with
    | .inl e => .inl e
    | .inr y => match nR b n y.2 0 30 with
      | .inl e => .inl e
      | .inr z => .inr (z.2, (1, l_s l, l_k l + 1, un (l_b l) (l_k l) x.1, un (l_l l) (l_k l) y.1, un (l_r l) (l_k l) z.1))
def cS (b : Nat → Int) (n c a : Nat) (l : lS) : Nat ⊕ (Nat × lS) :=
  if sgn b n (skp b n a) ≠ 314 ∧ sgn b n (skp b n a) ≠ 300 then .inl (1 + 8 * skp b n a)
  else if 40 ≤ c ∨ ¬ (sgn b n (skp b n a) = 314 ↔ c = 0) ∨ 7 ≤ l_k l then .inl (1 + 8 * skp b n a + 4)
  else if sgn b n (skp b n a) = 314 then (match nR b n (en b n (skp b n a)) 1 6 with
    | .inl e => .inl e
    | .inr x => .inr (x.2, (1, x.1, l_k l, l_b l, l_l l, l_r l)))
  else c3 b n (en b n (skp b n a)) l
def lnP (b : Nat → Int) (n : Nat) : Nat → Nat → Nat → lS → Nat ⊕ lS
  | 0, _, _, _ => .inl 1
  | f + 1, c, a, l => match cS b n c a l with
    | .inl e => .inl e
    | .inr x => if sgn b n (skp b n x.1) = 59 then lnP b n f (c + 1) (en b n (skp b n x.1)) x.2 else if sgn b n (skp b n x.1) = 256 then .inr x.2 else .inl (1 + 8 * skp b n x.1)
theorem nR_r {b : Nat → Int} {n a lo hi : Nat} (ha : a ≤ n) (hn : n ≤ 400) : match nR b n a lo hi with
    | .inl e => 0 < e ∧ e < 4000
    | .inr x => lo ≤ x.1 ∧ x.1 ≤ hi ∧ x.2 ≤ n := by
  have h1 := skp_le (b := b) ha
  have h2 := en_le (b := b) h1.2
  unfold nR
  split
  · rename_i x e he
    split at he
    · split at he
      · cases he
      · cases he; omega
    · cases he; omega
  · rename_i x e he
    split at he
    · split at he
      · cases he
        refine ⟨?_, ?_, h2.2⟩ <;> dsimp only <;> omega
      · cases he
    · cases he
section CLN
variable {N n : Nat} {b : Nat → Int} {bt : Nat → Int32}
theorem wl_fail {Q : Int32 → Prop} {x y f : Int32} {kd p : Nat} (hx : x = jn kd) (hy : y = jn p) (h : Q (jn ((1 + 8 * p + kd : Nat) : Int))) : wp_X9_fail N y Q x f := by
  subst hx hy
  unfold wp_X9_fail
  rw [show (1 : Int32) + (8 : Int32) * jn p + jn kd = jn ((1 + 8 * p + kd : Nat) : Int) from by (first | rfl | (simp (disch := omega) only [jn_add, jn_sub, jn_mul, jn_neg, li_0, li_1, li_2, li_3, li_4, li_5, li_6, li_7, li_8, li_9, li_10, li_11, li_12, li_13, li_14, li_15, li_16, li_17, li_18, li_20, li_24, li_29, li_30, li_31, li_32, li_37, li_39, li_40, li_42, li_43, li_45, li_46, li_47, li_48, li_53, li_57, li_59, li_60, li_61, li_62, li_63, li_80, li_81, li_91, li_93, li_97, li_100, li_122, li_200, li_255, li_256, li_257, li_258, li_259, li_260, li_300, li_314, li_400, li_580, li_999, li_5040, li_9999, li_65536, li_99999, li_7654321] <;> first | rfl | exact congrArg jn (by omega)) | exact congrArg jn (by omega))]
  exact h
theorem wl_num {a lo hi : Nat} {Q : Int32 → Int32 → Int32 → Int32 → Int32 → Int32 → Prop} {x y z s p u : Int32} (hN : 500 ≤ N) (hn : n ≤ 400) (hB : ∀ i, i < n → bt i = jn (b i)) (bB : ∀ i, -128 ≤ b i ∧ b i ≤ 127) (ha : a ≤ n) (hz : z = jn a) (hx : x = jn lo) (hy : y = jn hi) (hlo : lo < 1000) (hhi : hi < 1000)
    (h : match nR b n a lo hi with
      | .inl e => ∀ z s p u, Q x z s p u (jn e)
      | .inr v => ∀ s p u, Q (jn v.1) (jn v.2) s p u 0) : wp_X2_readNumber N bt (jn n) Q x y z s p u 0 := by
  have hsk := skp_le (b := b) ha
  have hr := numb_r (b := b) (n := n) (p := skp b n a)
  unfold wp_X2_readNumber wp_X2_readNumber_64
  refine ⟨fun _ => ?_, fun q => absurd rfl q⟩
  refine wl_readSign hN hn hB bB ha hz (fun u' hu => ?_)
  have hs := sgn_lt (b := b) (n := n) (p := skp b n a)
  unfold nR at h
  rw [li_257, jn_eq (by omega) (by omega)]
  refine ⟨fun q => ?_, fun q => ?_⟩
  · have q : sgn b n (skp b n a) = 257 := by omega
    rw [if_pos q] at h
    rw [hu q]
    subst hx hy
    rw [jn_lt (by omega) (by omega), jn_le (by omega) (by omega)]
    refine ⟨fun q2 => ?_, fun q2 => ⟨fun q3 => ?_, fun q3 => ?_⟩⟩
    · rw [if_neg (by omega)] at h
      exact wl_fail (kd := 1) rfl rfl (h _ _ _ _)
    · rw [if_pos (by omega)] at h
      dsimp only at h
      rw [show ((numb b n (skp b n a)).toNat : Int) = numb b n (skp b n a) by omega] at h
      exact h _ _ _
    · rw [if_neg (by omega)] at h
      exact wl_fail (kd := 1) rfl rfl (h _ _ _ _)
  · rw [if_neg (by omega)] at h
    exact wl_fail (kd := 0) rfl rfl (h _ _ _ _)
theorem wl_num1 {Q : Int32 → Int32 → Int32 → Int32 → Int32 → Int32 → Prop} {x y z s p u f : Int32} (hf : f ≠ 0) (h : Q x z s p u f) : wp_X2_readNumber N bt (jn n) Q x y z s p u f := by
  unfold wp_X2_readNumber
  exact ⟨fun q => absurd q hf, fun _ => h⟩
theorem wl_laneClause {a c : Nat} {l : lS} {Q : Int32 → Int32 → Int32 → Int32 → Int32 → Int32 → Int32 → (Nat → Int32) → (Nat → Int32) → (Nat → Int32) → Prop} {x z s p u sp mn : Int32} {lb ll lr : Nat → Int32} (hN : 500 ≤ N) (hn : n ≤ 400) (hB : ∀ i, i < n → bt i = jn (b i)) (bB : ∀ i, -128 ≤ b i ∧ b i ≤ 127) (ha : a ≤ n) (hz : z = jn a) (hx : x = jn c) (hc : c ≤ 40) (hsp : 0 < c → sp = jn (l_s l)) (hk : l_k l ≤ 7) (hmn : mn = jn (l_k l)) (h1 : ar (l_k l) lb (l_b l)) (h2 : ar (l_k l) ll (l_l l)) (h3 : ar (l_k l) lr (l_r l))
    (h : match cS b n c a l with
      | .inl e => ∀ z s p u sp mn lb ll lr, Q z s p u (jn e) sp mn lb ll lr
      | .inr v => ∀ s p u lb ll lr, ar (l_k v.2) lb (l_b v.2) → ar (l_k v.2) ll (l_l v.2) → ar (l_k v.2) lr (l_r v.2) → Q (jn v.1) s p u 0 (jn (l_s v.2)) (jn (l_k v.2)) lb ll lr) : wp_X2_readClause N bt (jn n) Q x z s p u 0 sp mn lb ll lr := by
  have hsk := skp_le (b := b) ha
  have hen := en_le (b := b) hsk.2
  have hs := sgn_lt (b := b) (n := n) (p := skp b n a)
  unfold wp_X2_readClause
  refine wl_readSign hN hn hB bB ha hz (fun u' hu => ?_)
  unfold cS at h
  generalize skp b n a = q at hsk hen hs h hu ⊢
  generalize hsg : sgn b n q = sg at hs h hu ⊢
  rw [li_314, jn_eq (by omega) (by omega)]
  unfold wp_X2_readClause_25 wp_X2_readClause_54 wp_X2_readClause_196
  have f4 : (40 ≤ c ∨ ¬ (sg = 314 ↔ c = 0) ∨ 7 ≤ l_k l) → (sg = 314 ∨ sg = 300) → wp_X2_readClause_85 N bt (jn n) (wp_X2_readClause_196 N bt (jn n) Q) Q (jn (en b n q)) (jn sg) (jn q) u' 0 sp mn lb ll lr := by
    intro y y2
    rw [if_neg (by omega), if_pos y] at h
    unfold wp_X2_readClause_85 wp_X2_readClause_196
    exact wl_fail (kd := 4) rfl rfl (h _ _ _ _ _ _ _ _ _)
  have mid : ∀ v2 s0 : Nat, (sg = 314 ∨ sg = 300) → v2 = (if sg = 314 then 1 else 0) → s0 = (if c = 0 then 1 else 0) → c < 40 → wp_X2_readClause_70 N bt (jn n) (wp_X2_readClause_85 N bt (jn n) (wp_X2_readClause_196 N bt (jn n) Q) Q) (wp_X2_readClause_196 N bt (jn n) Q) Q (jn v2) (jn s0) (jn v2) (jn (en b n q)) (jn sg) (jn q) u' 0 sp mn lb ll lr := by
    intro v2 s0 y e1 e2 hc40
    have hv2 : v2 ≤ 1 := by rw [e1]; split <;> omega
    have hs0 : s0 ≤ 1 := by rw [e2]; split <;> omega
    unfold wp_X2_readClause_70
    rw [jn_eq (by omega) (by omega)]
    refine ⟨fun z1 => ?_, fun z1 => ?_⟩
    · have z1 : (sg = 314 ↔ c = 0) := by
        by_cases e3 : sg = 314
        · rw [if_pos e3] at e1
          by_cases e4 : c = 0
          · exact ⟨fun _ => e4, fun _ => e3⟩
          · rw [if_neg e4] at e2; omega
        · rw [if_neg e3] at e1
          by_cases e4 : c = 0
          · rw [if_pos e4] at e2; omega
          · exact ⟨fun z => absurd z e3, fun z => absurd z e4⟩
      rw [hmn, li_7, jn_lt (by omega) (by omega)]
      refine ⟨fun z2 => ⟨fun z3 => ?_, fun z3 => ?_⟩, fun z2 => ?_⟩
      · have e3 : ¬ sg = 314 := by
          intro e3; rw [if_pos e3] at e1; subst e1; exact absurd z3 (by decide)
        have e4 : ¬ c = 0 := fun e4 => e3 (z1.mpr e4)
        rw [if_neg (by omega), if_neg (by omega), if_neg e3] at h
        have hi : vp_in (jn (l_k l)) 7 := by simp (disch := omega) only [jn_le, jn_lt, jn_eq, jn_in, jn_add, jn_sub, jn_mul, jn_neg, li_0, li_1, li_2, li_3, li_4, li_5, li_6, li_7, li_8, li_9, li_10, li_11, li_12, li_13, li_14, li_15, li_16, li_17, li_18, li_20, li_24, li_29, li_30, li_31, li_32, li_37, li_39, li_40, li_42, li_43, li_45, li_46, li_47, li_48, li_53, li_57, li_59, li_60, li_61, li_62, li_63, li_80, li_81, li_91, li_93, li_97, li_100, li_122, li_200, li_255, li_256, li_257, li_258, li_259, li_260, li_300, li_314, li_400, li_580, li_999, li_5040, li_9999, li_65536, li_99999, li_7654321] <;> omega
        have e5 := hsp (by omega)
        rw [jn_cln (by omega)]
        unfold c3 at h
        refine wl_num (lo := 1) (hi := 20) hN hn hB bB hen.2 rfl rfl rfl (by omega) (by omega) ?_
        have r1 := nR_r (b := b) (lo := 1) (hi := 20) hen.2 hn
        cases q1 : nR b n (en b n q) 1 20 with
        | inl e =>
          rw [q1] at h r1
          intro z s p u
          have : (jn e : Int32) ≠ 0 := by rw [li_0, Ne, jn_eq (by omega) (by omega)]; omega
          refine ⟨hi, fun a1 _ => wl_num1 this ⟨hi, fun a2 _ => wl_num1 this ⟨hi, fun a3 _ => ?_⟩⟩⟩
          unfold wp_X2_readClause_196
          exact h _ _ _ _ _ _ _ _ _
        | inr v =>
          rw [q1] at h r1
          intro s p u
          refine ⟨hi, fun a1 g1 => ?_⟩
          refine wl_num (lo := 1) (hi := 20) hN hn hB bB r1.2.2 rfl rfl rfl (by omega) (by omega) ?_
          have r2 := nR_r (b := b) (lo := 1) (hi := 20) r1.2.2 hn
          dsimp only at h
          cases q2 : nR b n v.2 1 20 with
          | inl e =>
            rw [q2] at h r2
            intro z s p u
            have : (jn e : Int32) ≠ 0 := by rw [li_0, Ne, jn_eq (by omega) (by omega)]; omega
            refine ⟨hi, fun a2 _ => wl_num1 this ⟨hi, fun a3 _ => ?_⟩⟩
            unfold wp_X2_readClause_196
            exact h _ _ _ _ _ _ _ _ _
          | inr w =>
            rw [q2] at h r2
            intro s p u
            refine ⟨hi, fun a2 g2 => ?_⟩
            refine wl_num (lo := 0) (hi := 30) hN hn hB bB r2.2.2 rfl rfl rfl (by omega) (by omega) ?_
            have r3 := nR_r (b := b) (lo := 0) (hi := 30) r2.2.2 hn
            dsimp only at h
            cases q3 : nR b n w.2 0 30 with
            | inl e =>
              rw [q3] at h r3
              intro z s p u
              refine ⟨hi, fun a3 _ => ?_⟩
              unfold wp_X2_readClause_196
              exact h _ _ _ _ _ _ _ _ _
            | inr t =>
              rw [q3] at h r3
              intro s p u
              refine ⟨hi, fun a3 g3 => ?_⟩
              unfold wp_X2_readClause_196
              rw [e5, show jn (l_k l : Int) + (1 : Int32) = jn ((l_k l + 1 : Nat) : Int) from by (first | rfl | (simp (disch := omega) only [jn_add, jn_sub, jn_mul, jn_neg, li_0, li_1, li_2, li_3, li_4, li_5, li_6, li_7, li_8, li_9, li_10, li_11, li_12, li_13, li_14, li_15, li_16, li_17, li_18, li_20, li_24, li_29, li_30, li_31, li_32, li_37, li_39, li_40, li_42, li_43, li_45, li_46, li_47, li_48, li_53, li_57, li_59, li_60, li_61, li_62, li_63, li_80, li_81, li_91, li_93, li_97, li_100, li_122, li_200, li_255, li_256, li_257, li_258, li_259, li_260, li_300, li_314, li_400, li_580, li_999, li_5040, li_9999, li_65536, li_99999, li_7654321] <;> first | rfl | exact congrArg jn (by omega)) | exact congrArg jn (by omega))]
              refine h _ _ _ a1 a2 a3 ?_ ?_ ?_
              · intro d hd
                have hd : d < l_k l + 1 := hd
                show a1 d = jn (un (l_b l) (l_k l) v.1 d : Nat)
                by_cases e : d = l_k l
                · rw [g1, e, upd_at, un_at]
                · rw [g1, upd_ne e, un_ne e]; exact h1 d (by omega)
              · intro d hd
                have hd : d < l_k l + 1 := hd
                show a2 d = jn (un (l_l l) (l_k l) w.1 d : Nat)
                by_cases e : d = l_k l
                · rw [g2, e, upd_at, un_at]
                · rw [g2, upd_ne e, un_ne e]; exact h2 d (by omega)
              · intro d hd
                have hd : d < l_k l + 1 := hd
                show a3 d = jn (un (l_r l) (l_k l) t.1 d : Nat)
                by_cases e : d = l_k l
                · rw [g3, e, upd_at, un_at]
                · rw [g3, upd_ne e, un_ne e]; exact h3 d (by omega)
      · have e3 : sg = 314 := by
          by_cases e3 : sg = 314
          · exact e3
          · rw [if_neg e3] at e1; subst e1; exact absurd rfl z3
        have e4 : c = 0 := z1.mp e3
        rw [if_neg (by omega), if_neg (by omega), if_pos e3] at h
        refine wl_num (lo := 1) (hi := 6) hN hn hB bB hen.2 rfl rfl rfl (by omega) (by omega) ?_
        cases q1 : nR b n (en b n q) 1 6 with
        | inl e =>
          rw [q1] at h
          intro z s p u
          unfold wp_X2_readClause_196
          exact h _ _ _ _ _ _ _ _ _
        | inr v =>
          rw [q1] at h
          intro s p u
          unfold wp_X2_readClause_196
          exact h _ _ _ lb ll lr h1 h2 h3
      · rw [← hmn]
        exact f4 (by omega) y
    · refine f4 (Or.inr (Or.inl (fun z2 => z1 ?_))) y
      by_cases e3 : sg = 314
      · rw [if_pos e3] at e1
        rw [if_pos (z2.mp e3)] at e2
        omega
      · rw [if_neg e3] at e1
        rw [if_neg (fun z => e3 (z2.mpr z))] at e2
        omega
  have tail : ∀ v2 : Nat, (sg = 314 ∨ sg = 300) → v2 = (if sg = 314 then 1 else 0) → (((40 : Int32) ≤ x → (wp_X2_readClause_85 N bt (jn n) (wp_X2_readClause_196 N bt (jn n) Q) Q) (jn (en b n q)) (jn sg) (jn q) u' 0 sp mn lb ll lr) ∧ (¬ ((40 : Int32) ≤ x) → ((x = 0 → (wp_X2_readClause_70 N bt (jn n) (wp_X2_readClause_85 N bt (jn n) (wp_X2_readClause_196 N bt (jn n) Q) Q) (wp_X2_readClause_196 N bt (jn n) Q) Q) (jn v2) (1 : Int32) (jn v2) (jn (en b n q)) (jn sg) (jn q) u' 0 sp mn lb ll lr) ∧ (¬ (x = 0) → (wp_X2_readClause_70 N bt (jn n) (wp_X2_readClause_85 N bt (jn n) (wp_X2_readClause_196 N bt (jn n) Q) Q) (wp_X2_readClause_196 N bt (jn n) Q) Q) (jn v2) (0 : Int32) (jn v2) (jn (en b n q)) (jn sg) (jn q) u' 0 sp mn lb ll lr)))) := by
    intro v2 y e1
    subst hx
    refine ⟨fun z1 => ?_, fun z1 => ⟨fun z2 => ?_, fun z2 => ?_⟩⟩
    · simp (disch := omega) only [jn_le, jn_lt, jn_eq, jn_in, jn_add, jn_sub, jn_mul, jn_neg, li_0, li_1, li_2, li_3, li_4, li_5, li_6, li_7, li_8, li_9, li_10, li_11, li_12, li_13, li_14, li_15, li_16, li_17, li_18, li_20, li_24, li_29, li_30, li_31, li_32, li_37, li_39, li_40, li_42, li_43, li_45, li_46, li_47, li_48, li_53, li_57, li_59, li_60, li_61, li_62, li_63, li_80, li_81, li_91, li_93, li_97, li_100, li_122, li_200, li_255, li_256, li_257, li_258, li_259, li_260, li_300, li_314, li_400, li_580, li_999, li_5040, li_9999, li_65536, li_99999, li_7654321] at z1
      exact f4 (by omega) y
    · rw [li_40, jn_le (by omega) (by omega)] at z1
      rw [li_0, jn_eq (by omega) (by omega)] at z2
      exact mid v2 1 y e1 (by rw [if_pos (by omega)]) (by omega)
    · rw [li_40, jn_le (by omega) (by omega)] at z1
      rw [li_0, jn_eq (by omega) (by omega)] at z2
      exact mid v2 0 y e1 (by rw [if_neg (by omega)]) (by omega)
  refine ⟨fun z1 => ⟨fun z2 => absurd z2 (by decide), fun _ => ?_⟩, fun z1 => ⟨fun _ => ?_, fun z2 => absurd rfl z2⟩⟩
  · exact tail 1 (by omega) (by rw [if_pos (by omega)])
  · rw [li_300, jn_eq (by omega) (by omega)]
    refine ⟨fun z2 => ?_, fun z2 => ?_⟩
    · exact tail 0 (by omega) (by rw [if_neg (by omega)])
    · rw [if_pos (by omega)] at h
      exact wl_fail (kd := 0) rfl rfl (h _ _ _ _ _ _ _ _ _)
end CLN
