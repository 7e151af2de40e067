/-! the goal of the walk: what holds at a place of a method's run -/
def ax_tys (κ : Nat → Nat) : List (ClassId × FieldType) := [(κ 0, .int), (κ 1, .long), (κ 2, .byte), (κ 3, .boolean), (κ 4, .object "LeapLane$Rule"), (κ 5, .object "LeapLane$State"), (κ 6, .object "LeapLane$Game")]
def ax_tx : String := "child place back  leap  breathover  leapt many  can   turn  if    not   and   or    lane  "
/-- what stands outside: the two static rows, the rows that are only read, the text -/
def ax_F (G : ax_G) (ρ : Nat → Nat) (A : Nat → Prop) (U : State) (H : Heap) : Prop :=
  va_Z "LeapLane" "FACTORIALS" "[I" (.ref (ρ 900)) A U H ∧ va_Z "LeapLane" "STRENGTHS" "[I" (.ref (ρ 901)) A U H ∧ (∀ k n f, G.1 k = some (n, f) → va_T .int (ρ k) n (fun i => .int (f i)) A U H) ∧
  vk_R "LeapLane$Tape" 47 ax_tx (ρ 902) U ∧ vk_S 1 [G.2.2.1.length] [G.2.2.1] (fun _ => ρ 902) (fun _ => ρ 904) A U H ∧ va_Z "java/lang/String" "COMPACT_STRINGS" "Z" (.int 1) A U H ∧ va_Zq "jdk/internal/util/Preconditions" "SIOOBE_FORMATTER" "Ljava/util/function/BiFunction;" A U H
theorem ax_F.kept {G : ax_G} {ρ : Nat → Nat} {A : Nat → Prop} {U : State} {H H1 : Heap} (h : ax_F G ρ A U H) (hq : ∀ a : Nat, a < H.size → ¬ A a → H1[a]? = H[a]?) : ax_F G ρ A U H1 := by
  obtain ⟨h1, h2, h3, h4, h5, h6, h7⟩ := h
  exact ⟨h1.kept hq, h2.kept hq, fun k n f hk => (h3 k n f hk).kept hq, h4, h5.kept hq, h6.kept hq, h7.kept hq⟩
theorem ax_F.narrow {G : ax_G} {ρ : Nat → Nat} {A B : Nat → Prop} {U : State} {H : Heap} (h : ax_F G ρ A U H) (hq : ∀ q, B q → A q) : ax_F G ρ B U H := by
  obtain ⟨h1, h2, h3, h4, h5, h6, h7⟩ := h
  exact ⟨h1.narrow hq, h2.narrow hq, fun k n f hk => (h3 k n f hk).narrow hq, h4, h5.narrow hq, h6.narrow hq, h7.narrow hq⟩
theorem ax_F.warm {G : ax_G} {ρ : Nat → Nat} {A : Nat → Prop} {u U : State} {H : Heap} (hW : u.WarmedH U.vm) (h : ax_F G ρ A u H) : ax_F G ρ A U H := by
  obtain ⟨h1, h2, h3, h4, h5, h6, h7⟩ := h
  exact ⟨h1.moved hW.alike, h2.moved hW.alike, fun k n f hk => (h3 k n f hk).moved hW.alike, h4.warm hW, h5.moved hW.alike, h6.moved hW.alike, h7.moved hW.alike⟩
theorem ax_F.same {G : ax_G} {ρ : Nat → Nat} {A : Nat → Prop} {u U : State} {H : Heap} (hv : U.vm = u.vm) (h : ax_F G ρ A u H) : ax_F G ρ A U H := by
  have hal : u.vm.Alike U.vm := by rw [hv]; exact Vm.Alike.refl _
  obtain ⟨h1, h2, h3, h4, h5, h6, h7⟩ := h
  exact ⟨h1.moved hal, h2.moved hal, fun k n f hk => (h3 k n f hk).moved hal, h4.same hv, h5.moved hal, h6.moved hal, h7.moved hal⟩
/-- another naming that is the same on what stands outside -/
theorem ax_F.name {G : ax_G} {ρ ρ' : Nat → Nat} {A : Nat → Prop} {U : State} {H : Heap} (h : ax_F G ρ A U H) (hG : ∀ k x, G.1 k = some x → 900 ≤ k ∧ k < 1000) (hr : ∀ k, 900 ≤ k → k < 1000 → ρ' k = ρ k) : ax_F G ρ' A U H := by
  obtain ⟨h1, h2, h3, h4, h5, h6, h7⟩ := h
  have e0 := hr 900 (by omega) (by omega)
  have e1 := hr 901 (by omega) (by omega)
  have e2 := hr 902 (by omega) (by omega)
  have e4 := hr 904 (by omega) (by omega)
  refine ⟨by rw [e0]; exact h1, by rw [e1]; exact h2, fun k n f hk => ?_, by rw [e2]; exact h4, by rw [e2, e4]; exact h5, h6, h7⟩
  rw [hr k (hG k _ hk).1 (hG k _ hk).2]
  exact h3 k n f hk
/-- a method's end -/
def ax_Q (D : va_G) (κ ρ : Nat → Nat) (A : Nat → Prop) (out : ax_E) : Array Value → State → Outcome → State → Prop := fun _ st o t =>
  o = .returned (out.1.map (ax_rv ρ)) ∧ ax_Rep D κ ρ out.2.1 t.heap ∧ ax_In ρ A out.2.1 ∧ va_F A st t ∧ st.heap.size + out.2.2.1.length ≤ t.heap.size
/-- what holds at a place -/
def ax_Iv (D : va_G) (κ ρ : Nat → Nat) (A : Nat → Prop) (M : ax_M) (out : ax_E) (s : State) (ls : ax_L) (w : ax_W) (lg : List Nat) (sl : Nat) (H : Heap) (locs : List Loc) (r : Array Slot) : Prop :=
  ax_Ls ρ ls M.2.2.1 r ∧ ax_Rep D κ ρ w H ∧ ax_In ρ A w ∧ va_S A s.heap H locs ∧ s.heap.size + lg.length ≤ H.size ∧ lg <+: out.2.2.1 ∧ sl ≤ out.2.2.2
def ax_Rm (M : ax_M) (out : ax_E) : Room := { frames := M.2.2.2.2.1, cells := out.2.2.1.length, slots := out.2.2.2, locals := M.2.2.2.2.2.1 }
def ax_SW (l : Launch) (D : va_G) (κ ρ : Nat → Nat) (A : Nat → Prop) (M : ax_M) (out : ax_E) (p : Program) (e : Env) (s : State) (m : MethodId) (args : Array Value) (below : List Frame) (meth : Method) (cd : Code) (pc : Nat) (ls : ax_L) (st : List Value) (w : ax_W) (lg : List Nat) (sl : Nat) : Prop :=
  ∀ (H : Heap) (locs : List Loc) (r : Array Slot), ax_Iv D κ ρ A M out s ls w lg sl H locs r → W p l e (ax_Rm M out) s m args below meth cd H locs lg.length sl (MQ below (ax_Q D κ ρ A out) args s out.2.2.1.length out.2.2.2 A) (F0 m pc r (st.map (ax_rv ρ)))
theorem W.heap {p : Program} {l : Launch} {e : Env} {R : Room} {s : State} {m : MethodId} {args : Array Value} {below : List Frame} {meth : Method} {c : Code} {H : Heap} {locs : List Loc} {cells slots : Nat} {Q : State → Prop} {g : JFrame} (k : H.size ≤ s.heap.size + cells → W p l e R s m args below meth c H locs cells slots Q g) : W p l e R s m args below meth c H locs cells slots Q g := by
  intro T hT X
  have h := X.same.2.2.1
  exact k (by rw [← hT]; exact h) T hT X
/-- the rows of a method's table are right -/
def ax_sok (pc : Nat) : List (Int32 × Nat) → Int → List Int → Bool
  | [], _, [] => true
  | (v, t) :: l, k, o :: os => decide (v.toInt = k) && decide ((pc : Int) + o = (t : Int)) && ax_sok pc l (k + 1) os
  | _, _, _ => false
def ax_lok (pc : Nat) : List (Int32 × Nat) → List (Int × Int) → Bool
  | [], [] => true
  | (v, t) :: l, (k, o) :: os => decide (v.toInt = k) && decide ((pc : Int) + o = (t : Int)) && ax_lok pc l os
  | _, _ => false
def ax_refs (ty : FieldType) : Bool := match ty with
  | .object _ => true
  | .array _ => true
  | _ => false
def ax_own (M : ax_M) : String := M.1.cls
def ax_wl (M : ax_M) : List Cond := M.2.2.2.2.2.2.1
def ax_cok (df : List Value) (q : vw_C) : Bool := decide (df.length = q.2.2) && (List.range q.2.2).all (fun k => match parseFieldDescriptor (q.2.1 k).2.2.1 with
  | some ty => decide (defaultValue ty = df.getD k .null)
  | none => false)
def ax_cal (M M' : ax_M) (b : Nat) (n : Nat) : Bool := decide (Cond.code M'.1 M'.2.1 M'.2.2.1 M'.2.2.2.1 ∈ ax_wl M) && decide (Cond.initialized M'.1.cls ∈ ax_wl M) && decide (M'.2.2.2.2.1 + 1 ≤ M.2.2.2.2.1) && decide (8 + (M'.2.2.1 + 11) + M'.2.2.2.2.2.1 ≤ M.2.2.2.2.2.1) && decide (M'.1.cls ≠ "java/lang/invoke/MethodHandle" ∧ M'.1.cls ≠ "java/lang/invoke/VarHandle" ∧ (parseMethodDescriptor M'.1.desc).map (fun d => d.parameters.length) = some n) && decide (b = n ∨ b = n + 1)
