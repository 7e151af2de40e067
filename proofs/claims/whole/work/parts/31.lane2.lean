/-! the class reads a lane -/
def l0 : lS := (1, 0, 0, fun _ => 0, fun _ => 0, fun _ => 0)
theorem cS_r {b : Nat → Int} {n c a : Nat} {l : lS} (ha : a ≤ n) (hn : n ≤ 400) (hk : l_k l ≤ 7) : match cS b n c a l with
    | .inl e => 0 < e ∧ e < 4000
    | .inr x => x.1 ≤ n ∧ l_k x.2 ≤ 7 := by
  have h1 := skp_le (b := b) ha
  have h2 := en_le (b := b) h1.2
  have r0 := nR_r (b := b) (lo := 1) (hi := 6) h2.2 hn
  have r1 := nR_r (b := b) (lo := 1) (hi := 20) h2.2 hn
  unfold cS
  by_cases e1 : sgn b n (skp b n a) ≠ 314 ∧ sgn b n (skp b n a) ≠ 300
  · rw [if_pos e1]; dsimp only; omega
  · rw [if_neg e1]
    by_cases e2 : 40 ≤ c ∨ ¬ (sgn b n (skp b n a) = 314 ↔ c = 0) ∨ 7 ≤ l_k l
    · rw [if_pos e2]; dsimp only; omega
    · rw [if_neg e2]
      by_cases e3 : sgn b n (skp b n a) = 314
      · rw [if_pos e3]
        cases q1 : nR b n (en b n (skp b n a)) 1 6 with
        | inl e => rw [q1] at r0; exact r0
        | inr v => rw [q1] at r0; exact ⟨r0.2.2, hk⟩
      · rw [if_neg e3]
        unfold c3
        cases q1 : nR b n (en b n (skp b n a)) 1 20 with
        | inl e => rw [q1] at r1; exact r1
        | inr v =>
          rw [q1] at r1
          dsimp only
          have r2 := nR_r (b := b) (lo := 1) (hi := 20) r1.2.2 hn
          cases q2 : nR b n v.2 1 20 with
          | inl e => rw [q2] at r2; exact r2
          | inr w =>
            rw [q2] at r2
            dsimp only
            have r3 := nR_r (b := b) (lo := 0) (hi := 30) r2.2.2 hn
            cases q3 : nR b n w.2 0 30 with
            | inl e => rw [q3] at r3; exact r3
            | inr t =>
              rw [q3] at r3
              refine ⟨r3.2.2, ?_⟩
              show l_k l + 1 ≤ 7
              omega
theorem wl_laneRead {N n : Nat} {b : Nat → Int} {bt : Nat → Int32} {Q : Int32 → Int32 → Int32 → Int32 → Int32 → Int32 → Int32 → Int32 → Int32 → (Nat → Int32) → (Nat → Int32) → (Nat → Int32) → Prop} {z s p u f t sp mn : Int32} {lb ll lr : Nat → Int32} (hN : 500 ≤ N) (hn : n ≤ 400) (hB : ∀ i, i < n → bt i = jn (b i)) (bB : ∀ i, -128 ≤ b i ∧ b i ≤ 127)
    (h : match lnP b n 41 0 0 l0 with
      | .inl e => ∀ z s p u sp mn lb ll lr, Q (jn e) z s p u (jn e) 1 sp mn lb ll lr
      | .inr v => ∀ z s p u lb ll lr, ar (l_k v) lb (l_b v) → ar (l_k v) ll (l_l v) → ar (l_k v) lr (l_r v) → Q 0 z s p u 0 1 (jn (l_s v)) (jn (l_k v)) lb ll lr) : wp_X2_read N bt (jn n) Q z s p u f t sp mn lb ll lr := by
  unfold wp_X2_read wp_X9_rewind
  have stop : ∀ m v4 z s p u f sp mn lb ll lr, Q f z s p u f 1 sp mn lb ll lr → wp_X2_read_38 N bt (jn n) Q (m + 1) 0 v4 z s p u f 1 sp mn lb ll lr := by
    intro m v4 z s p u f sp mn lb ll lr hq
    unfold wp_X2_read_38 wp_X2_read_84
    exact ⟨fun _ => hq, fun q => absurd rfl q⟩
  have key : ∀ (m c a : Nat) (l : lS) (v4 z s p u sp mn : Int32) (lb ll lr : Nat → Int32), v4 = jn c → z = jn a → a ≤ n → c ≤ 40 → (0 < c → sp = jn (l_s l)) → l_k l ≤ 7 → mn = jn (l_k l) → ar (l_k l) lb (l_b l) → ar (l_k l) ll (l_l l) → ar (l_k l) lr (l_r l) → lnP b n (41 - c) c a l = lnP b n 41 0 0 l0 → 42 < m + c → wp_X2_read_38 N bt (jn n) Q m 1 v4 z s p u 0 1 sp mn lb ll lr := by
    intro m
    induction m with
    | zero => intro c a l v4 z s p u sp mn lb ll lr _ _ _ h1 _ _ _ _ _ _ _ h2; omega
    | succ m ih =>
      intro c a l v4 z s p u sp mn lb ll lr hv hz ha hc hsp hk hmn h1 h2 h3 hl hm
      unfold wp_X2_read_38 wp_X2_read_84
      have hcs := cS_r (b := b) (c := c) ha hn hk
      obtain ⟨m, rfl⟩ : ∃ m', m = m' + 1 := ⟨m - 1, by omega⟩
      refine ⟨fun q => absurd q (by decide), fun _ => ⟨fun q => ?_, fun _ => ?_⟩⟩
      · subst hv
        simp (disch := omega) only [jn_le, jn_lt, jn_eq, jn_in, jn_add, jn_sub, jn_mul, jn_neg, li_0, li_1, li_2, li_3, li_4, li_5, li_6, li_7, li_8, li_9, li_10, li_11, li_12, li_13, li_14, li_15, li_16, li_17, li_18, li_20, li_24, li_29, li_30, li_31, li_32, li_37, li_39, li_40, li_42, li_43, li_45, li_46, li_47, li_48, li_53, li_57, li_59, li_60, li_61, li_62, li_63, li_80, li_81, li_91, li_93, li_97, li_100, li_122, li_200, li_255, li_256, li_257, li_258, li_259, li_260, li_300, li_314, li_400, li_580, li_999, li_5040, li_9999, li_65536, li_99999, li_7654321] at q
        omega
      · refine wl_laneClause hN hn hB bB ha hz hv hc hsp hk hmn h1 h2 h3 ?_
        rw [← hl, show 41 - c = (40 - c) + 1 by omega] at h
        unfold lnP at h
        unfold wp_X2_read_76 wp_X2_read_77
        cases q1 : cS b n c a l with
        | inl e =>
          rw [q1] at h hcs
          intro z s p u sp mn lb ll lr
          have ne : (jn e : Int32) ≠ 0 := by rw [li_0, Ne, jn_eq (by omega) (by omega)]; omega
          exact ⟨fun q => absurd q ne, fun _ => stop _ _ _ _ _ _ _ _ _ _ _ _ (h _ _ _ _ _ _ _ _ _)⟩
        | inr v =>
          rw [q1] at h hcs
          dsimp only at h hcs
          intro s p u lb ll lr g1 g2 g3
          refine ⟨fun _ => ?_, fun q => absurd rfl q⟩
          have hsk := skp_le (b := b) hcs.1
          have hen := en_le (b := b) hsk.2
          have hs := sgn_lt (b := b) (n := n) (p := skp b n v.1)
          unfold wp_X2_readWhetherMore
          refine wl_readSign hN hn hB bB hcs.1 rfl (fun u' _ => ?_)
          unfold wp_X2_readWhetherMore_40 wp_X2_readWhetherMore_57
          rw [li_59, li_256, jn_eq (by omega) (by omega), jn_eq (by omega) (by omega)]
          refine ⟨fun q2 => ⟨fun _ => ⟨Or.inr rfl, fun q => absurd q (by decide), fun _ => ?_⟩, fun q => absurd q2 q⟩, fun q2 => ⟨fun q3 => ⟨fun q => absurd q q2, fun _ => ⟨Or.inl rfl, fun _ => ?_, fun q => absurd rfl q⟩⟩, fun q3 => ?_⟩⟩
          · have q2 : sgn b n (skp b n v.1) = 59 := by omega
            by_cases e40 : c = 40
            · subst e40
              exfalso
              unfold cS at q1
              split at q1
              · cases q1
              · rw [if_pos (Or.inl (Nat.le_refl _))] at q1
                cases q1
            · refine ih (c + 1) _ v.2 _ _ _ _ _ _ _ _ _ _ (by rw [hv]; exact by (first | rfl | (simp (disch := omega) only [jn_add, jn_sub, jn_mul, jn_neg, li_0, li_1, li_2, li_3, li_4, li_5, li_6, li_7, li_8, li_9, li_10, li_11, li_12, li_13, li_14, li_15, li_16, li_17, li_18, li_20, li_24, li_29, li_30, li_31, li_32, li_37, li_39, li_40, li_42, li_43, li_45, li_46, li_47, li_48, li_53, li_57, li_59, li_60, li_61, li_62, li_63, li_80, li_81, li_91, li_93, li_97, li_100, li_122, li_200, li_255, li_256, li_257, li_258, li_259, li_260, li_300, li_314, li_400, li_580, li_999, li_5040, li_9999, li_65536, li_99999, li_7654321] <;> first | rfl | exact congrArg jn (by omega)) | exact congrArg jn (by omega))) rfl hen.2 (by omega) (fun _ => rfl) hcs.2 rfl g1 g2 g3 ?_ (by omega)
              rw [← hl]
              conv => rhs; rw [show 41 - c = (40 - c) + 1 by omega]; unfold lnP
              rw [q1]
              dsimp only
              rw [if_pos q2, show 41 - (c + 1) = 40 - c by omega]
          · rw [if_neg (by omega), if_pos (by omega)] at h
            exact stop _ _ _ _ _ _ _ _ _ _ _ _ (h _ _ _ _ _ _ _ g1 g2 g3)
          · rw [if_neg (by omega), if_neg (by omega)] at h
            exact wl_fail (kd := 0) rfl rfl ⟨fun q => absurd q q2, fun _ => ⟨Or.inl rfl, fun _ => stop _ _ _ _ _ _ _ _ _ _ _ _ (h _ _ _ _ _ _ _ _ _), fun q => absurd rfl q⟩⟩
  exact key N 0 0 l0 _ _ _ _ _ _ _ _ _ _ rfl rfl (by omega) (by omega) (fun q => absurd q (by omega)) (by decide) rfl (fun d hd => absurd hd (by show ¬ d < 0; omega)) (fun d hd => absurd hd (by show ¬ d < 0; omega)) (fun d hd => absurd hd (by show ¬ d < 0; omega)) rfl (by omega)
/-- what the text of a lane tells is a lane -/
theorem lnP_ok {b : Nat → Int} {n : Nat} (hn : n ≤ 400) : ∀ {f c a : Nat} {l v : lS}, a ≤ n → l_t l = 1 → l_k l ≤ 7 → (0 < c → 1 ≤ l_s l ∧ l_s l ≤ 6) → (c = 0 → l_k l = 0) → (∀ d, l_b l d ≤ 20) → (∀ d, l_l l d ≤ 20) → (∀ d, l_r l d ≤ 30) → lnP b n f c a l = .inr v → LOk v ∧ l_t v = 1
  | 0, c, a, l, v, _, _, _, _, _, _, _, _, h => by cases h
  | f + 1, c, a, l, v, ha, ht, hk, hs, h0, hb, hl, hr, h => by
    unfold lnP at h
    have hcs := cS_r (b := b) (c := c) ha hn hk
    have h1 := skp_le (b := b) ha
    have h2 := en_le (b := b) h1.2
    have r0 := nR_r (b := b) (lo := 1) (hi := 6) h2.2 hn
    have r1 := nR_r (b := b) (lo := 1) (hi := 20) h2.2 hn
    have un_le : ∀ (F : Nat → Nat) (i v m : Nat), (∀ d, F d ≤ m) → v ≤ m → ∀ d, un F i v d ≤ m := by
      intro F i v m hF hv d
      unfold un
      split
      · exact hv
      · exact hF d
    have inv : ∀ x, cS b n c a l = .inr x → l_t x.2 = 1 ∧ (1 ≤ l_s x.2 ∧ l_s x.2 ≤ 6) ∧ (∀ d, l_b x.2 d ≤ 20) ∧ (∀ d, l_l x.2 d ≤ 20) ∧ (∀ d, l_r x.2 d ≤ 30) := by
      intro x hx
      unfold cS at hx
      by_cases e1 : sgn b n (skp b n a) ≠ 314 ∧ sgn b n (skp b n a) ≠ 300
      · rw [if_pos e1] at hx; cases hx
      · rw [if_neg e1] at hx
        by_cases e2 : 40 ≤ c ∨ ¬ (sgn b n (skp b n a) = 314 ↔ c = 0) ∨ 7 ≤ l_k l
        · rw [if_pos e2] at hx; cases hx
        · rw [if_neg e2] at hx
          have e2' : (sgn b n (skp b n a) = 314 ↔ c = 0) := by
            by_cases e : (sgn b n (skp b n a) = 314 ↔ c = 0)
            · exact e
            · exact absurd (Or.inr (Or.inl e)) e2
          by_cases e3 : sgn b n (skp b n a) = 314
          · rw [if_pos e3] at hx
            cases q1 : nR b n (en b n (skp b n a)) 1 6 with
            | inl e => rw [q1] at hx; cases hx
            | inr w => rw [q1] at hx r0; cases hx; exact ⟨rfl, ⟨r0.1, r0.2.1⟩, hb, hl, hr⟩
          · rw [if_neg e3] at hx
            unfold c3 at hx
            cases q1 : nR b n (en b n (skp b n a)) 1 20 with
            | inl e => rw [q1] at hx; cases hx
            | inr w =>
              rw [q1] at hx r1
              dsimp only at hx
              have r2 := nR_r (b := b) (lo := 1) (hi := 20) r1.2.2 hn
              cases q2 : nR b n w.2 1 20 with
              | inl e => rw [q2] at hx; cases hx
              | inr y =>
                rw [q2] at hx r2
                dsimp only at hx
                have r3 := nR_r (b := b) (lo := 0) (hi := 30) r2.2.2 hn
                cases q3 : nR b n y.2 0 30 with
                | inl e => rw [q3] at hx; cases hx
                | inr t =>
                  rw [q3] at hx r3
                  cases hx
                  exact ⟨rfl, hs (by
                    by_cases e : c = 0
                    · exact absurd (e2'.mpr e) e3
                    · omega), un_le _ _ _ _ hb r1.2.1, un_le _ _ _ _ hl r2.2.1, un_le _ _ _ _ hr r3.2.1⟩
    cases q1 : cS b n c a l with
    | inl e => rw [q1] at h; cases h
    | inr x =>
      rw [q1] at h hcs
      dsimp only at h hcs
      obtain ⟨i1, i2, i3, i4, i5⟩ := inv x q1
      have h3 := skp_le (b := b) hcs.1
      have h4 := en_le (b := b) h3.2
      split at h
      · exact lnP_ok hn h4.2 i1 hcs.2 (fun _ => i2) (fun q => by omega) i3 i4 i5 h
      · split at h
        · cases h
          exact ⟨⟨by omega, i2.2, hcs.2, fun _ => i2.1, i3, i4, i5, fun q => by omega⟩, i1⟩
        · cases h
