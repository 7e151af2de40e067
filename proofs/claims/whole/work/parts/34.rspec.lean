/-! the text of a rule: a machine over its signs -/
def str (o : Nat) : Nat := ([0, 0, 6, 6, 6, 5, 5, 4, 4, 4, 4, 4, 3, 2, 1, 0, 0, 0, 0] : List Nat).getD o 0
/-- what waits is written, as long as it binds so strongly -/
def popG (m : Nat) : List Nat → List Nat → List Nat × List Nat
  | [], c => ([], c)
  | o :: p, c => if m ≤ str o then popG m p (c ++ [o]) else (o :: p, c)
def dep (p : List Nat) : Nat := p.countP (fun o => o = 12 || o = 15)
def opn (p : List Nat) : Nat := p.countP (fun o => o = 15)
/-- a clause: its sum, and its test -/
abbrev cS1 : Type := List Nat × Option (List Nat)
/-- place in the text, state, which sum, clauses, values, tested, clauses done, the sum of the clause that is tested, what is written, what waits, fault -/
abbrev pS : Type := Nat × Nat × Nat × Nat × Nat × Bool × List cS1 × List Nat × List Nat × List Nat × Nat
def p_a (s : pS) : Nat := s.1
def p_s (s : pS) : Nat := s.2.1
def p_k (s : pS) : Nat := s.2.2.1
def p_c (s : pS) : Nat := s.2.2.2.1
def p_v (s : pS) : Nat := s.2.2.2.2.1
def p_t (s : pS) : Bool := s.2.2.2.2.2.1
def p_d (s : pS) : List cS1 := s.2.2.2.2.2.2.1
def p_u (s : pS) : List Nat := s.2.2.2.2.2.2.2.1
def p_w (s : pS) : List Nat := s.2.2.2.2.2.2.2.2.1
def p_p (s : pS) : List Nat := s.2.2.2.2.2.2.2.2.2.1
def p_f (s : pS) : Nat := s.2.2.2.2.2.2.2.2.2.2
def mkP (a st k c v : Nat) (t : Bool) (d : List cS1) (u w p : List Nat) (f : Nat) : pS := (a, st, k, c, v, t, d, u, w, p, f)
def wrk (sg : Nat) : Nat := if sg = 42 then 2 else if sg = 47 then 3 else if sg = 37 then 4 else if sg = 43 then 5 else if sg = 45 then 6 else 18
def cmpo (sg : Nat) : Nat := if sg = 60 then 7 else if sg = 258 then 8 else if sg = 61 then 9 else if sg = 259 then 10 else if sg = 62 then 11 else 18
section RS
variable (b : Nat → Int) (n : Nat)
/-- a fault of a kind at the sign that comes -/
def flt (s : pS) (kd : Nat) : pS := mkP (en b n (skp b n (p_a s))) (p_s s) (p_k s) (p_c s) (p_v s) (p_t s) (p_d s) (p_u s) (p_w s) (p_p s) (1 + 8 * skp b n (p_a s) + kd)
def sg0 (s : pS) : Nat := sgn b n (skp b n (p_a s))
def at1 (s : pS) : Nat := en b n (skp b n (p_a s))
def vtok (s : pS) : Nat := if sg0 b n s = 257 then 32 * (numb b n (skp b n (p_a s))).toNat else 1 + 32 * (sg0 b n s - 300)
/-- a value, of a sum of that kind -/
def tkV (s : pS) (k : Nat) : pS :=
  if sg0 b n s ≠ 257 ∧ ¬ (300 ≤ sg0 b n s ∧ sg0 b n s < 310) then flt b n s 0
  else if sg0 b n s = 257 ∧ numb b n (skp b n (p_a s)) = -1 then flt b n s 1
  else if 60 ≤ p_v s then flt b n s 3
  else mkP (at1 b n s) 3 k (p_c s) (p_v s + 1) (p_t s) (p_d s) (p_u s) (p_w s ++ [vtok b n s]) (p_p s) 0
def tkE (s : pS) : pS :=
  if sg0 b n s ≠ 59 ∧ sg0 b n s ≠ 256 then flt b n s 0
  else mkP (at1 b n s) (if sg0 b n s = 59 then 0 else 5) (p_k s) (p_c s) (p_v s) (p_t s) (p_d s ++ [if p_t s = true then (p_u s, some (popG 1 (p_p s) (p_w s)).2) else ((popG 1 (p_p s) (p_w s)).2, none)]) [] [] (popG 1 (p_p s) (p_w s)).1 0
def tkF (s : pS) : pS :=
  if sg0 b n s = 312 then mkP (at1 b n s) 2 (p_k s) (p_c s) (p_v s) (p_t s) (p_d s) (p_u s) (popG 2 (p_p s) (p_w s)).2 (13 :: (popG 2 (p_p s) (p_w s)).1) 0
  else if sg0 b n s = 313 then mkP (at1 b n s) 2 (p_k s) (p_c s) (p_v s) (p_t s) (p_d s) (p_u s) (popG 1 (p_p s) (p_w s)).2 (14 :: (popG 1 (p_p s) (p_w s)).1) 0
  else if opn (p_p s) = 0 then tkE b n s
  else if sg0 b n s = 93 then mkP (at1 b n s) 4 (p_k s) (p_c s) (p_v s) (p_t s) (p_d s) (p_u s) (popG 1 (p_p s) (p_w s)).2 (popG 1 (p_p s) (p_w s)).1.tail 0
  else flt b n s 0
def tkB (s : pS) : pS :=
  if wrk (sg0 b n s) ≠ 18 then mkP (at1 b n s) 1 (p_k s) (p_c s) (p_v s) (p_t s) (p_d s) (p_u s) (popG (str (wrk (sg0 b n s))) (p_p s) (p_w s)).2 (wrk (sg0 b n s) :: (popG (str (wrk (sg0 b n s))) (p_p s) (p_w s)).1) 0
  else if p_k s = 1 then (
    if cmpo (sg0 b n s) = 18 then flt b n s 0
    else if 60 ≤ p_v s then flt b n s 3
    else mkP (at1 b n s) 1 2 (p_c s) (p_v s + 1) (p_t s) (p_d s) (p_u s) (popG 4 (p_p s) (p_w s)).2 (cmpo (sg0 b n s) :: (popG 4 (p_p s) (p_w s)).1) 0)
  else if p_k s = 2 then tkF b n s
  else if sg0 b n s = 310 then mkP (at1 b n s) 2 (p_k s) (p_c s) (p_v s) true (p_d s) (popG 1 (p_p s) (p_w s)).2 [] (popG 1 (p_p s) (p_w s)).1 0
  else tkE b n s
def tkX (s : pS) : pS :=
  if sg0 b n s = 91 ∨ sg0 b n s = 311 then (
    if 10 ≤ dep (p_p s) then flt b n s 2
    else mkP (at1 b n s) 2 (p_k s) (p_c s) (p_v s) (p_t s) (p_d s) (p_u s) (p_w s) ((if sg0 b n s = 91 then 15 else 12) :: p_p s) 0)
  else tkV b n s 1
def tkC (s : pS) : pS :=
  if sg0 b n s ≠ 303 then flt b n s 0
  else if 12 ≤ p_c s then flt b n s 4
  else mkP (at1 b n s) 1 0 (p_c s + 1) (p_v s) false (p_d s) [] [] (p_p s) 0
def stp (s : pS) : pS :=
  if p_f s ≠ 0 ∨ p_s s = 5 then s
  else if p_s s = 0 then tkC b n s
  else if p_s s = 1 then tkV b n s (p_k s)
  else if p_s s = 2 then tkX b n s
  else if p_s s = 3 then tkB b n s
  else tkF b n s
def itr : Nat → pS → pS
  | 0, s => s
  | m + 1, s => itr m (stp b n s)
end RS
def s00 : pS := mkP 0 0 0 0 0 false [] [] [] [] 0
/-- the types of what lies on the pile of numbers: false a number, true a truth; at most 39 of them -/
def tyt (t : Nat) (ts : List Bool) : Option (List Bool) :=
  if t % 32 = 0 then (if ts.length < 39 ∧ t / 32 < 100000 then some (false :: ts) else none)
  else if t % 32 = 1 then (if ts.length < 39 ∧ t / 32 < 10 then some (false :: ts) else none)
  else if t ≤ 6 then (match ts with
    | false :: false :: r => some (false :: r)
    | _ => none)
  else if t ≤ 11 then (match ts with
    | false :: false :: r => some (true :: r)
    | _ => none)
  else if t = 12 then (match ts with
    | true :: r => some (true :: r)
    | _ => none)
  else if t ≤ 14 then (match ts with
    | true :: true :: r => some (true :: r)
    | _ => none)
  else none
def tyr : List Nat → List Bool → Option (List Bool)
  | [], ts => some ts
  | t :: l, ts => match tyt t ts with
    | some ts' => tyr l ts'
    | none => none
theorem tyr_cons {t : Nat} {l : List Nat} {ts : List Bool} : tyr (t :: l) ts = match tyt t ts with
    | some ts' => tyr l ts'
    | none => none := rfl
theorem tyr_app {l l' : List Nat} : ∀ {ts ts' : List Bool}, tyr l ts = some ts' → tyr (l ++ l') ts = tyr l' ts' := by
  induction l with
  | nil => intro ts ts' h; cases h; rfl
  | cons t l ih =>
    intro ts ts' h
    rw [tyr_cons] at h
    rw [List.cons_append, tyr_cons]
    cases q : tyt t ts with
    | none => rw [q] at h; cases h
    | some ts1 => rw [q] at h; exact ih h
/-- of what waits: the types of what it works on, that lies there -/
def pnd : List Nat → List Bool
  | [] => []
  | o :: p => if o = 12 ∨ o = 15 then pnd p else if o ≤ 11 then false :: pnd p else true :: pnd p
theorem pnd_cons {o : Nat} {p : List Nat} : pnd (o :: p) = if o = 12 ∨ o = 15 then pnd p else if o ≤ 11 then false :: pnd p else true :: pnd p := rfl
/-- what is written next works on what lies there -/
def okt (ty : Bool) (o : Nat) : Prop := (ty = false ∧ 2 ≤ o ∧ o ≤ 11) ∨ (ty = true ∧ 12 ≤ o ∧ o ≤ 14)
def rty (o : Nat) : Bool := decide (7 ≤ o)
theorem tyt_op {ty : Bool} {o : Nat} {p : List Nat} (h : okt ty o) : tyt o (ty :: pnd (o :: p)) = some (rty o :: pnd p) := by
  rw [pnd_cons]
  have e : ((ty = false ∧ (o = 2 ∨ o = 3 ∨ o = 4 ∨ o = 5 ∨ o = 6 ∨ o = 7 ∨ o = 8 ∨ o = 9 ∨ o = 10 ∨ o = 11)) ∨ (ty = true ∧ (o = 12 ∨ o = 13 ∨ o = 14))) := by
    rcases h with h | h
    · exact Or.inl ⟨h.1, by omega⟩
    · exact Or.inr ⟨h.1, by omega⟩
  rcases e with ⟨e, e2⟩ | ⟨e, e2⟩
  · subst e
    rcases e2 with e2 | e2 | e2 | e2 | e2 | e2 | e2 | e2 | e2 | e2 <;> subst e2 <;> rfl
  · subst e
    rcases e2 with e2 | e2 | e2 <;> subst e2 <;> rfl
/-- what waits can be written, down to that strength -/
def cT (m : Nat) : Bool → List Nat → Prop
  | _, [] => True
  | ty, o :: p => m ≤ str o → okt ty o ∧ cT m (rty o) p
def rT (m : Nat) : Bool → List Nat → Bool
  | ty, [] => ty
  | ty, o :: p => if m ≤ str o then rT m (rty o) p else ty
theorem popG_ty {m : Nat} : ∀ {p c : List Nat} {ty : Bool}, tyr c [] = some (ty :: pnd p) → cT m ty p → tyr (popG m p c).2 [] = some (rT m ty p :: pnd (popG m p c).1)
  | [], c, ty, h, _ => h
  | o :: p, c, ty, h, hc => by
    unfold popG rT
    by_cases e : m ≤ str o
    · rw [if_pos e, if_pos e]
      obtain ⟨h1, h2⟩ := hc e
      refine popG_ty ?_ h2
      rw [tyr_app h, tyr_cons, tyt_op h1]; rfl
    · rw [if_neg e, if_neg e]; exact h
theorem popG_len {m : Nat} : ∀ {p c : List Nat}, (popG m p c).1.length + (popG m p c).2.length = p.length + c.length
  | [], c => rfl
  | o :: p, c => by
    unfold popG
    split
    · have := popG_len (m := m) (p := p) (c := c ++ [o])
      rw [List.length_append] at this
      simp only [List.length_cons, List.length_nil] at this ⊢
      omega
    · rfl
