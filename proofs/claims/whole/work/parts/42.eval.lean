/-! shifts; what a rule is worth -/
theorem sh_k {k : Nat} (hk : k < 32) : ((jn (k : Int) &&& 31).toBitVec.smod 32).toNat = k := by
  have : ∀ k : Fin 32, ((jn (k.val : Int) &&& 31).toBitVec.smod 32).toNat = k.val := by decide +kernel
  exact this ⟨k, hk⟩
theorem jn_shr {a k : Nat} (ha : a < 2147483648) (hk : k < 32) : jn (a : Int) >>> (jn (k : Int) &&& 31) = jn ((a / 2 ^ k : Nat) : Int) := by
  have hle : a / 2 ^ k ≤ a := Nat.div_le_self _ _
  obtain ⟨q, hq⟩ : ∃ q, a / 2 ^ k = q := ⟨_, rfl⟩
  rw [hq] at hle ⊢
  rw [← Int32.toInt_inj, jn_toInt (a := (q : Int)) (by omega)]
  show ((jn (a : Int)).toBitVec.sshiftRight' ((jn (k : Int) &&& 31).toBitVec.smod 32)).toInt = _
  rw [BitVec.sshiftRight_eq', sh_k hk, BitVec.toInt_sshiftRight]
  show ((jn (a : Int)).toInt) >>> k = _
  rw [jn_toInt (by omega), Int.shiftRight_eq_div_pow, ← hq]
  exact (Int.natCast_ediv a (2 ^ k)).symm
theorem jn_shl {a k : Nat} (hk : k < 32) : jn (a : Int) <<< (jn (k : Int) &&& 31) = jn ((a * 2 ^ k : Nat) : Int) := by
  rw [jn_nat a, jn_nat (a * 2 ^ k)]
  show (⟨⟨BitVec.ofNat 32 a <<< ((jn (k : Int) &&& 31).toBitVec.smod 32)⟩⟩ : Int32) = _
  congr 2
  refine BitVec.eq_of_toNat_eq ?_
  rw [BitVec.shiftLeft_eq', sh_k hk, BitVec.toNat_shiftLeft, BitVec.toNat_ofNat, BitVec.toNat_ofNat, Nat.shiftLeft_eq, Nat.mod_mul_mod]
theorem jn_m31 (t : Nat) : jn (t : Int) &&& (31 : Int32) = jn ((t % 32 : Nat) : Int) := by
  rw [show (31 : Int32) = jn ((31 : Nat) : Int) from rfl, jn_and, show (31 : Nat) = 2 ^ 5 - 1 from rfl, Nat.and_two_pow_sub_one_eq_mod]
theorem jn_m15 (t : Nat) : jn (t : Int) &&& (15 : Int32) = jn ((t % 16 : Nat) : Int) := by
  rw [show (15 : Int32) = jn ((15 : Nat) : Int) from rfl, jn_and, show (15 : Nat) = 2 ^ 4 - 1 from rfl, Nat.and_two_pow_sub_one_eq_mod]
def opv (o : Nat) (x y : Int64) : Int64 :=
  if o = 2 then x * y else if o = 3 then (if lg_cmp y 0 = 0 then 0 else x / y) else if o = 4 then (if lg_cmp y 0 = 0 then 0 else x - x / y * y) else if o = 5 then x + y else if o = 6 then x - y
  else if o = 7 then (if 0 ≤ lg_cmp x y then 0 else 1) else if o = 8 then (if 0 < lg_cmp x y then 0 else 1) else if o = 9 then (if lg_cmp x y = 0 then 1 else 0) else if o = 10 then (if lg_cmp x y < 0 then 0 else 1) else if o = 11 then (if lg_cmp x y ≤ 0 then 0 else 1)
  else if o = 13 then x &&& y else x ||| y
def ev1 (w : Nat → Int64) (t : Nat) (st : List Int64) : List Int64 :=
  if t % 32 = 0 then jl (t / 32 : Nat) :: st else if t % 32 = 1 then w (t / 32) :: st
  else if t % 32 = 12 then (match st with
    | x :: r => (1 - x) :: r
    | [] => [])
  else (match st with
    | y :: x :: r => opv (t % 32) x y :: r
    | _ => [])
def evl (w : Nat → Int64) : List Nat → List Int64 → List Int64
  | [], st => st
  | t :: l, st => evl w l (ev1 w t st)
/-- values of these types -/
def vT : List Bool → List Int64 → Prop
  | [], [] => True
  | t :: ts, v :: vs => (t = true → v = 0 ∨ v = 1) ∧ vT ts vs
  | _, _ => False
theorem vT_len : ∀ {ts : List Bool} {vs : List Int64}, vT ts vs → ts.length = vs.length
  | [], [], _ => rfl
  | t :: ts, v :: vs, h => by rw [List.length_cons, List.length_cons, vT_len h.2]
  | [], _ :: _, h => h.elim
  | _ :: _, [], h => h.elim
theorem opv_b {o : Nat} {x y : Int64} (ho : 7 ≤ o ∧ o ≤ 11) : opv o x y = 0 ∨ opv o x y = 1 := by
  have t : ∀ (c : Prop) [Decidable c], (if c then (0 : Int64) else 1) = 0 ∨ (if c then (0 : Int64) else 1) = 1 := by
    intro c _; split
    · exact Or.inl rfl
    · exact Or.inr rfl
  have t' : ∀ (c : Prop) [Decidable c], (if c then (1 : Int64) else 0) = 0 ∨ (if c then (1 : Int64) else 0) = 1 := by
    intro c _; split
    · exact Or.inr rfl
    · exact Or.inl rfl
  have : o = 7 ∨ o = 8 ∨ o = 9 ∨ o = 10 ∨ o = 11 := by omega
  rcases this with e | e | e | e | e <;> subst e
  · exact t _
  · exact t _
  · exact t' _
  · exact t _
  · exact t _
theorem ev1_ty {w : Nat → Int64} {t : Nat} {ts ts' : List Bool} {st : List Int64} (h : tyt t ts = some ts') (hv : vT ts st) : vT ts' (ev1 w t st) := by
  unfold tyt at h
  unfold ev1
  by_cases e0 : t % 32 = 0
  · rw [if_pos e0] at h ⊢
    split at h
    · cases h; exact ⟨(fun z => by cases z), hv⟩
    · cases h
  · rw [if_neg e0] at h ⊢
    by_cases e1 : t % 32 = 1
    · rw [if_pos e1] at h ⊢
      split at h
      · cases h; exact ⟨(fun z => by cases z), hv⟩
      · cases h
    · rw [if_neg e1] at h ⊢
      by_cases e6 : t ≤ 6
      · rw [if_pos e6] at h
        rw [if_neg (by omega)]
        split at h
        · rename_i r
          cases h
          match st, hv with
          | y :: x :: s, hv => exact ⟨(fun z => by cases z), hv.2.2⟩
        · cases h
      · rw [if_neg e6] at h
        by_cases e11 : t ≤ 11
        · rw [if_pos e11] at h
          rw [if_neg (by omega)]
          split at h
          · cases h
            match st, hv with
            | y :: x :: s, hv => exact ⟨fun _ => opv_b (by omega), hv.2.2⟩
          · cases h
        · rw [if_neg e11] at h
          by_cases e12 : t = 12
          · rw [if_pos e12] at h
            rw [if_pos (show t % 32 = 12 by omega)]
            split at h
            · cases h
              match st, hv with
              | x :: s, hv =>
                refine ⟨fun _ => ?_, hv.2⟩
                rcases hv.1 rfl with e | e <;> subst e
                · exact Or.inr rfl
                · exact Or.inl rfl
            · cases h
          · rw [if_neg e12] at h
            by_cases e14 : t ≤ 14
            · rw [if_pos e14] at h
              rw [if_neg (show ¬ t % 32 = 12 by omega)]
              split at h
              · cases h
                match st, hv with
                | y :: x :: s, hv =>
                  refine ⟨fun _ => ?_, hv.2.2⟩
                  have : t % 32 = 13 ∨ t % 32 = 14 := by omega
                  rcases this with e | e <;> rw [e] <;> rcases hv.1 rfl with e1 | e1 <;> rcases hv.2.1 rfl with e2 | e2 <;> subst e1 <;> subst e2 <;> first | exact Or.inl rfl | exact Or.inr rfl
              · cases h
            · rw [if_neg e14] at h; cases h
theorem evl_ty {w : Nat → Int64} : ∀ {l : List Nat} {ts ts' : List Bool} {st : List Int64}, tyr l ts = some ts' → vT ts st → vT ts' (evl w l st)
  | [], ts, ts', st, h, hv => by cases h; exact hv
  | t :: l, ts, ts', st, h, hv => by
    rw [tyr_cons] at h
    cases q : tyt t ts with
    | none => rw [q] at h; cases h
    | some ts1 => rw [q] at h; exact evl_ty (l := l) h (ev1_ty q hv)
/-- only the ten words are looked at -/
theorem evl_w {w w' : Nat → Int64} (hw : ∀ i, i < 10 → w i = w' i) : ∀ {l : List Nat} {ts ts' : List Bool} {st : List Int64}, tyr l ts = some ts' → evl w l st = evl w' l st
  | [], ts, ts', st, h => rfl
  | t :: l, ts, ts', st, h => by
    rw [tyr_cons] at h
    cases q : tyt t ts with
    | none => rw [q] at h; cases h
    | some ts1 =>
      rw [q] at h
      have e : ev1 w t st = ev1 w' t st := by
        unfold ev1
        by_cases e1 : t % 32 = 1
        · rw [if_neg (by omega), if_pos e1, if_neg (by omega), if_pos e1]
          unfold tyt at q
          rw [if_neg (by omega), if_pos e1] at q
          split at q
          · rename_i z; rw [hw _ z.2]
          · cases q
        · by_cases e0 : t % 32 = 0
          · rw [if_pos e0, if_pos e0]
          · rw [if_neg e0, if_neg e1, if_neg e0, if_neg e1]
      show evl w l (ev1 w t st) = evl w' l (ev1 w' t st)
      rw [e]
      exact evl_w hw (l := l) h
def hd0 (l : List Int64) : Int64 := l.headD 0
/-- what clauses are worth -/
def ruv (w : Nat → Int64) : List cS1 → Int64
  | [] => 0
  | c :: d => match c.2 with
    | none => hd0 (evl w c.1 [])
    | some t => if hd0 (evl w t []) = 0 then ruv w d else hd0 (evl w c.1 [])
theorem ruv_w {w w' : Nat → Int64} (hw : ∀ i, i < 10 → w i = w' i) : ∀ {d : List cS1}, (∀ c, c ∈ d → ctO c) → ruv w d = ruv w' d
  | [], _ => rfl
  | c :: d, h => by
    have hc := h c (List.mem_cons_self ..)
    have ih := ruv_w hw (d := d) (fun c' h' => h c' (List.mem_cons_of_mem _ h'))
    unfold ruv
    rw [evl_w hw hc.1]
    cases q : c.2 with
    | none => rfl
    | some t => dsimp only; rw [evl_w hw (hc.2 t q), ih]
/-- one that is typed so leaves one value -/
theorem evl_one {w : Nat → Int64} {l : List Nat} {t : Bool} (h : tyr l [] = some [t]) : ∃ v, evl w l [] = [v] ∧ (t = true → v = 0 ∨ v = 1) := by
  have := evl_ty (w := w) h (st := []) trivial
  match hq : evl w l [], this with
  | [v], hv => exact ⟨v, rfl, hv.1⟩
  | [], hv => exact hv.elim
  | _ :: _ :: _, hv => exact hv.2.elim
