/-! a turn: whom the rule chooses, and what it makes of the game -/
/-- turn, order, backs, breath, leapt -/
abbrev gS : Type := Nat × (Nat → Nat) × (Nat → Nat) × (Nat → Nat) × (Nat → Nat)
/-- told, spring, many, backs, leaps, breath -/
abbrev lS : Type := Nat × Nat × Nat × (Nat → Nat) × (Nat → Nat) × (Nat → Nat)
def g_t (g : gS) : Nat := g.1
def g_o (g : gS) : Nat → Nat := g.2.1
def g_b (g : gS) : Nat → Nat := g.2.2.1
def g_r (g : gS) : Nat → Nat := g.2.2.2.1
def g_p (g : gS) : Nat → Nat := g.2.2.2.2
def l_t (l : lS) : Nat := l.1
def l_s (l : lS) : Nat := l.2.1
def l_k (l : lS) : Nat := l.2.2.1
def l_b (l : lS) : Nat → Nat := l.2.2.2.1
def l_l (l : lS) : Nat → Nat := l.2.2.2.2.1
def l_r (l : lS) : Nat → Nat := l.2.2.2.2.2
def LOk (l : lS) : Prop := l_t l ≤ 1 ∧ l_s l ≤ 6 ∧ l_k l ≤ 7 ∧ (0 < l_k l → 1 ≤ l_s l) ∧ (∀ c, l_b l c ≤ 20) ∧ (∀ c, l_l l c ≤ 20) ∧ (∀ c, l_r l c ≤ 30) ∧ (l_t l = 0 → l_k l = 0)
def GOk (k : Nat) (g : gS) : Prop := Pm k (g_o g) ∧ (∀ c, g_b g c ≤ 20) ∧ (∀ c, g_r g c ≤ 60) ∧ (∀ c, g_p g c ≤ 999)
abbrev rS : Type := Option ((Nat → Int64) → Int64)
/-- a rule looks at its ten words alone -/
def ROk (r : rS) : Prop := ∀ f, r = some f → ∀ w w' : Nat → Int64, (∀ i, i < 10 → w i = w' i) → f w = f w'
def plc (l : lS) (g : gS) (c : Nat) : Nat := iv (g_o g) c (l_k l)
def cn (l : lS) (g : gS) (c : Nat) : Bool := canb (g_o g) (g_b g) (l_l l) (g_r g) (plc l g c)
def ov (l : lS) (g : gS) (c : Nat) : Nat := ovr (l_s l) (g_o g) (g_b g) (l_l l) (plc l g c)
def wds (l : lS) (g : gS) (c : Nat) : Nat → Int64 := fun i => match i with
  | 0 => jl c
  | 1 => jl (plc l g c)
  | 2 => jl (g_b g c)
  | 3 => jl (l_l l c)
  | 4 => jl (g_r g c)
  | 5 => jl (ov l g c)
  | 6 => jl (g_p g c)
  | 7 => jl (l_k l)
  | 8 => jl (cnt (cn l g) (l_k l))
  | 9 => jl (g_t g)
  | _ => 0
def vlu (l : lS) (r : rS) (g : gS) (c : Nat) : Int64 := match r with
  | none => jl (plc l g c)
  | some f => f (wds l g c)
def chS (can : Nat → Bool) (val : Nat → Int64) : Nat → Option Nat × Int64
  | 0 => (none, 0)
  | c + 1 => if can c = true ∧ (chS can val c).2 < val c then (some c, val c) else chS can val c
def tW (l : lS) (r : rS) (g : gS) : Option Nat := (chS (cn l g) (vlu l r g) (l_k l)).1
def tB (l : lS) (g : gS) : Option Nat → gS
  | none => (g_t g + 1, g_o g, g_b g, rst (g_r g) (l_r l) (-1), g_p g)
  | some c => (g_t g + 1, mv (g_o g) (plc l g c) (ov l g c), g_b g, rst (un (g_r g) c (g_r g c - 1)) (l_r l) c, un (g_p g) c (min 999 (g_p g c + ov l g c)))
def tS (l : lS) (r : rS) (g : gS) : gS := tB l g (tW l r g)
def chP (can : Nat → Bool) (val : Nat → Int64) (n : Nat) (r : Option Nat × Int64) : Prop := match r.1 with
  | none => r.2 = 0 ∧ ∀ c, c < n → can c = true → (val c).toInt ≤ 0
  | some d => d < n ∧ can d = true ∧ val d = r.2 ∧ 0 < r.2.toInt ∧ ∀ c, c < n → can c = true → (val c).toInt ≤ r.2.toInt ∧ ((val c).toInt = r.2.toInt → d ≤ c)
theorem chS_ok {can : Nat → Bool} {val : Nat → Int64} : ∀ {n : Nat}, chP can val n (chS can val n)
  | 0 => ⟨rfl, fun c h => absurd h (by omega)⟩
  | n + 1 => by
    have ih := chS_ok (can := can) (val := val) (n := n)
    unfold chS
    generalize chS can val n = r at ih ⊢
    obtain ⟨b, m⟩ := r
    split
    · rename_i hq
      obtain ⟨h1, h2⟩ := hq
      rw [Int64.lt_iff_toInt_lt] at h2
      cases b with
      | none =>
        obtain ⟨e, ih⟩ := ih
        dsimp only at e h2
        subst e
        refine ⟨Nat.lt_succ_self n, h1, rfl, h2, fun c hc hcan => ?_⟩
        by_cases q : c = n
        · subst q; exact ⟨Int.le_refl _, fun _ => Nat.le_refl _⟩
        · have := ih c (by omega) hcan
          have h3 : (0 : Int64).toInt = 0 := rfl
          dsimp only
          exact ⟨by omega, fun q2 => by omega⟩
      | some d =>
        obtain ⟨i1, i2, i3, i4, ih⟩ := ih
        dsimp only at i3 i4 ih h2
        refine ⟨Nat.lt_succ_self n, h1, rfl, by dsimp only; omega, fun c hc hcan => ?_⟩
        dsimp only
        by_cases q : c = n
        · subst q; exact ⟨Int.le_refl _, fun _ => Nat.le_refl _⟩
        · have := ih c (by omega) hcan
          exact ⟨by omega, fun q2 => by omega⟩
    · rename_i hq
      have hm : can n = true → (val n).toInt ≤ m.toInt := by
        intro h1
        have h2 : ¬ m < val n := fun h2 => hq ⟨h1, h2⟩
        rw [Int64.lt_iff_toInt_lt] at h2
        omega
      cases b with
      | none =>
        obtain ⟨e, ih⟩ := ih
        dsimp only at e
        subst e
        have h3 : (0 : Int64).toInt = 0 := rfl
        refine ⟨rfl, fun c hc hcan => ?_⟩
        by_cases q : c = n
        · subst q; have := hm hcan; omega
        · exact ih c (by omega) hcan
      | some d =>
        obtain ⟨i1, i2, i3, i4, ih⟩ := ih
        dsimp only at i3 i4 ih
        refine ⟨by omega, i2, i3, i4, fun c hc hcan => ?_⟩
        dsimp only
        by_cases q : c = n
        · subst q; have := hm hcan; exact ⟨this, fun _ => by omega⟩
        · exact ih c (by omega) hcan
theorem chP_one {can : Nat → Bool} {val : Nat → Int64} {n : Nat} {r r' : Option Nat × Int64} (h : chP can val n r) (h' : chP can val n r') : r.1 = r'.1 := by
  obtain ⟨b, m⟩ := r
  obtain ⟨b', m'⟩ := r'
  cases b with
  | none =>
    cases b' with
    | none => rfl
    | some d' =>
      obtain ⟨e, h⟩ := h
      obtain ⟨i1, i2, i3, i4, -⟩ := h'
      dsimp only at i3 i4
      have := h d' i1 i2
      rw [i3] at this; omega
  | some d =>
    obtain ⟨i1, i2, i3, i4, i5⟩ := h
    dsimp only at i3 i4 i5
    cases b' with
    | none =>
      obtain ⟨e, h'⟩ := h'
      have := h' d i1 i2
      rw [i3] at this; omega
    | some d' =>
      obtain ⟨j1, j2, j3, j4, j5⟩ := h'
      dsimp only at j3 j4 j5
      have a := i5 d' j1 j2
      have b := j5 d i1 i2
      rw [j3] at a
      rw [i3] at b
      have : m.toInt = m'.toInt := by omega
      have h1 := a.2 (by omega)
      have h2 := b.2 (by omega)
      show some d = some d'
      rw [show d = d' by omega]
theorem rst_neg {BR TB : Nat → Nat} {w : Int} (h : w < 0) : rst BR TB w = rst BR TB (-1) := by
  funext c
  unfold rst
  by_cases q : BR c < TB c
  · rw [if_pos ⟨by omega, q⟩, if_pos ⟨by omega, q⟩]
  · rw [if_neg (fun z => q z.2), if_neg (fun z => q z.2)]
theorem tS_ok {l : lS} {r : rS} {g : gS} (hl : LOk l) (hg : GOk (l_k l) g) : GOk (l_k l) (tS l r g) := by
  obtain ⟨h1, h2, h3, h4⟩ := hg
  obtain ⟨-, -, -, -, -, -, hr, -⟩ := hl
  unfold tS
  have hch := chS_ok (can := cn l g) (val := vlu l r g) (n := l_k l)
  have e : tW l r g = (chS (cn l g) (vlu l r g) (l_k l)).1 := rfl
  have hrst : ∀ (F : Nat → Nat) (w : Int), (∀ c, F c ≤ 60) → ∀ c, rst F (l_r l) w c ≤ 60 := by
    intro F w hF c
    unfold rst
    have := hF c
    have := hr c
    split <;> omega
  cases hw : tW l r g with
  | none => exact ⟨h1, h2, hrst _ _ h3, h4⟩
  | some c =>
    have hc : c < l_k l := by
      rw [hw] at e
      unfold chP at hch
      rw [← e] at hch
      exact hch.1
    have hp := iv_lt h1 hc
    refine ⟨mv_Pm h1 hp (Nat.le_trans ovr_le (Nat.min_le_right _ _)), h2, hrst _ _ (fun d => ?_), fun d => ?_⟩
    · unfold un
      have := h3 d
      have := h3 c
      split <;> omega
    · show un (g_p g) c _ d ≤ 999
      unfold un
      have := h4 d
      split <;> omega
