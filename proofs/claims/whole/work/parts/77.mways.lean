/-! the reference's search: ahead, and back -/
def Rl (E : Nat → Nat → Nat → Prop) (a l b : Nat) : Prop := E b l a
theorem Wy_rl {E : Nat → Nat → Nat → Prop} {d a b : Nat} : Wy E d a b → Wy (Rl E) d b a := by
  induction d generalizing a with
  | zero => intro h; exact h.symm
  | succ d ih =>
    rintro ⟨l, c, h1, h2⟩
    exact Wy_add (ih h2) (Wy_one (l := l) h1)
theorem Wy_lr {E : Nat → Nat → Nat → Prop} {d a b : Nat} : Wy (Rl E) d a b → Wy E d b a := by
  induction d generalizing a with
  | zero => intro h; exact h.symm
  | succ d ih =>
    rintro ⟨l, c, h1, h2⟩
    exact Wy_add (ih h2) (Wy_one (l := l) h1)
theorem Ds_rl {E : Nat → Nat → Nat → Prop} {d a b : Nat} : Ds (Rl E) b a d ↔ Ds E a b d :=
  ⟨fun h => ⟨Wy_lr h.1, fun e he => h.2 e (Wy_rl he)⟩, fun h => ⟨Wy_rl h.1, fun e he => h.2 e (Wy_lr he)⟩⟩
def okF (sp : Nat) (cl : Nat → Nat → Bool) (r : Nat → Nat) (p k : Nat) : Prop := k ≤ p ∧ k ≤ sp ∧ ∀ j, 1 ≤ j → j ≤ k → cl (r p) (r (p - j)) = true
def okB (m sp : Nat) (cl : Nat → Nat → Bool) (r : Nat → Nat) (p k : Nat) : Prop := p + k < m ∧ k ≤ sp ∧ ∀ j, 1 ≤ j → j ≤ k → cl (r p) (r (p + j)) = true
section MWY
variable {N m sp : Nat} {LP BK : Nat → Nat} {sd : Nat → Int32}
theorem WY_F (hN : 20 ≤ N) (hq : mQ m sp LP BK sd) : WY N m sp sd (-1) (Lg m sp (clf LP BK)) (okF sp (clf LP BK)) mv := by
  have hm := hq.2.2.2.2.1
  have hsp := hq.2.2.2.2.2.1
  have hy : ∀ p k : Nat, jn (p : Int) + jn (k : Int) * (-1) = jn ((p : Int) - (k : Int)) := by
    intro p k
    rw [show (-1 : Int32) = jn (-1) from rfl, jn_mul, jn_add]; exact congrArg jn (by omega)
  refine ⟨fun rw' r p k Q hr hR hp h1 h2 y n => ?_, fun rw' rt' r p k Q hr hR hp h1 ho h => ?_, fun r l b hr => ?_, fun r p k hr hp ho => mv_Pm hr hp ho.1, Lg_fun hm⟩
  · rw [hy]
    exact wm_isLeapF hN hq hr.1 hR hp h1 (by omega) rfl rfl rfl (fun a b c => y ⟨a, b, c⟩) n
  · rw [hy]
    have := ho.1
    exact wm_rankByF hN hm hq.1 hr hR hp ho.1 rfl (congrArg jn (by omega)) h
  · rw [Lg_iff hm hr]
    constructor
    · rintro ⟨⟨o1, o2, o3, o4, o5⟩, e⟩
      refine ⟨⟨o1, o2, o3, o4, o3, fun j a b => ?_⟩, e.symm⟩
      rw [iv_at hr o1]; exact o5 j a b
    · rintro ⟨⟨o1, o2, o3, o4, -, o5⟩, e⟩
      refine ⟨⟨o1, o2, o3, o4, fun j a b => ?_⟩, e.symm⟩
      have := o5 j a b
      rw [iv_at hr o1] at this; exact this
theorem Lg_back {cl : Nat → Nat → Bool} {r : Nat → Nat} {l b : Nat} (hm : m ≤ 7) (hr : Pm m r) : Lg m sp cl b l (rk m r) ↔ (l / 8 < m ∧ 1 ≤ l % 8 ∧ l % 8 ≤ sp ∧ okB m sp cl r (iv r (l / 8) m) (l % 8)) ∧ b = rk m (bk r (iv r (l / 8) m) (l % 8)) := by
  unfold Lg
  generalize l / 8 = c
  generalize l % 8 = k
  constructor
  · rintro ⟨s, hs, e, ⟨o1, o2, o3, o4, o5⟩, e2⟩
    have hps := iv_lt hs o1
    have hpc := iv_at hs o1
    have ht : ∀ q, q < m → mv s (iv s c m) k q = r q := rk_inj hm (mv_Pm hs hps o4) hr e2
    generalize iv s c m = ps at *
    have hrc : r (ps - k) = c := by rw [← ht _ (by omega), mv_to, hpc]
    have hp : iv r c m = ps - k := iv_is hr (by omega) hrc
    rw [hp]
    have hsh : ∀ q, ps - k < q → q ≤ ps → r q = s (q - 1) := by
      intro q a d
      rw [← ht q (by omega)]
      unfold mv
      rw [if_neg (by omega), if_pos ⟨a, d⟩]
    refine ⟨⟨o1, o2, o3, by omega, o3, fun j a d => ?_⟩, ?_⟩
    · rw [hrc, hsh _ (by omega) (by omega)]
      have := o5 (k - j + 1) (by omega) (by omega)
      rw [show ps - (k - j + 1) = ps - k + j - 1 by omega] at this
      exact this
    · rw [← e]
      refine rk_congr (fun q hq => ?_)
      unfold bk
      by_cases a : q = ps - k + k
      · rw [if_pos a, hrc, a, show ps - k + k = ps by omega, hpc]
      · rw [if_neg a]
        by_cases d : ps - k ≤ q ∧ q < ps - k + k
        · rw [if_pos d, hsh _ (by omega) (by omega)]; rfl
        · rw [if_neg d, ← ht q hq]
          unfold mv
          rw [if_neg (by omega), if_neg (by omega)]
  · rintro ⟨⟨o1, o2, o3, o4, -, o5⟩, e⟩
    have hpc := iv_at hr o1
    generalize iv r c m = p at *
    have hsP := bk_Pm hr o4
    have hiv : iv (bk r p k) c m = p + k := iv_is hsP o4 (by unfold bk; rw [if_pos rfl, hpc])
    refine ⟨bk r p k, hsP, e.symm, ⟨o1, o2, o3, by omega, fun j a d => ?_⟩, ?_⟩
    · rw [hiv]
      have := o5 (k - j + 1) (by omega) (by omega)
      rw [hpc] at this
      unfold bk
      rw [if_neg (by omega), if_pos (by omega), show p + k - j + 1 = p + (k - j + 1) by omega]
      exact this
    · unfold nxl; rw [hiv, mv_bk]
theorem WY_B (hN : 20 ≤ N) (hq : mQ m sp LP BK sd) : WY N m sp sd 1 (Rl (Lg m sp (clf LP BK))) (okB m sp (clf LP BK)) bk := by
  have hm := hq.2.2.2.2.1
  have hsp := hq.2.2.2.2.2.1
  have hy : ∀ p k : Nat, jn (p : Int) + jn (k : Int) * 1 = jn ((p : Int) + (k : Int)) := by
    intro p k
    rw [li_1, jn_mul, jn_add]; exact congrArg jn (by omega)
  refine ⟨fun rw' r p k Q hr hR hp h1 h2 y n => ?_, fun rw' rt' r p k Q hr hR hp h1 ho h => ?_, fun r l b hr => Lg_back hm hr, fun r p k hr hp ho => bk_Pm hr ho.1, fun a l b b' h h' => ?_⟩
  · rw [hy]
    exact wm_isLeapB hN hq hr.1 hR hp h1 (by omega) rfl rfl rfl (fun a b c => y ⟨a, b, c⟩) n
  · rw [hy]
    have := ho.1
    exact wm_rankByB hN hm hq.1 hr hR ho.1 h1 rfl (congrArg jn (by omega)) h
  · have g : Lg m sp (clf LP BK) b l a := h
    have g' : Lg m sp (clf LP BK) b' l a := h'
    obtain ⟨r, hr, e⟩ := Lg_ok g
    rw [← e, Lg_back hm hr] at g g'
    rw [g.2, g'.2]
end MWY
