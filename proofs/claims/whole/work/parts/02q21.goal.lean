/-! the goal of the walk: what holds at a place of a method's run -/
def bx_gw (w : Cond) : Bool := goodWord w || (match w with
  | .fieldLinkNest _ _ _ _ _ _ => true
  | .methodLinkNest _ _ _ _ => true
  | .arrayOver (.object _) => true
  | _ => false)
def bx_TB : List Cond := lw_tbl.filter bx_gw
theorem bx_pay {w : Cond} (h : bx_gw w = true) {args a' : Array Value} {s U : State} (hW : s.WarmedH U.vm) (hb : w.before args s = true) : w.before a' U = true := by
  unfold bx_gw at h
  rcases Bool.or_eq_true_iff.mp h with h | h
  · exact word_at hW (good_of_word h) hb
  · split at h
    · exact va_Nw.use rfl (va_Nw.warmF hW (va_Nw.of rfl hb))
    · exact va_Nw.use rfl (va_Nw.warmM hW (va_Nw.of rfl hb))
    · exact va_AO.use (va_AO.moved hW.alike (va_AO.of hb))
    · cases h
theorem bx_pays {w0 : Cond} (hc : w0 ∈ bx_TB) {args : Array Value} {s : State} (ht : ∀ w ∈ bx_TB, w.before args s = true) : ∀ w ∈ w0 :: bx_TB, ∀ (a' : Array Value) (U : State), s.WarmedH U.vm → w.before a' U = true := by
  intro w hw a' U hW
  have hw2 : w ∈ bx_TB := by
    rcases List.mem_cons.mp hw with h | h
    · rw [h]; exact hc
    · exact h
  exact bx_pay (List.mem_filter.mp hw2).2 hW (ht w hw2)
theorem bx_callB {R : Room} {s : State} {args : Array Value} {own : String} {index maxL mc ms : Nat} {y : MethodName} {bytes : ByteArray} {ret : Option FieldType} {rm : Room} (n : Nat) (ht : ∀ w ∈ bx_TB, w.before args s = true) (hc : Cond.code y bytes maxL ret ∈ bx_TB) (hrc : rm.cells = mc) (hrs : rm.slots = ms) (hini : (Cond.initialized y.cls).before args s = true) (hl : (Cond.methodLink own index y).before args s = true)
    (hd : y.cls ≠ "java/lang/invoke/MethodHandle" ∧ y.cls ≠ "java/lang/invoke/VarHandle" ∧ (parseMethodDescriptor y.desc).map (fun d => d.parameters.length) = some n) (hR : rm.frames + 1 ≤ R.frames ∧ 8 + (maxL + 11) + rm.locals ≤ R.locals) : CallB R s args own index y bytes maxL ret (Cond.code y bytes maxL ret :: bx_TB) rm mc ms n := by
  refine ⟨hrc, hrs, hR.1, hR.2, bx_pays hc ht, List.mem_cons_self, ht _ hc, hini, ⟨hd.1, hd.2.1⟩, fun sig h => ?_, hl⟩
  have h2 := hd.2.2
  rw [h] at h2
  exact (Option.some.inj h2).symm
theorem bx_cnB {R : Room} {s : State} {args : Array Value} {own host : String} {index maxL mc ms : Nat} {y : MethodName} {bytes : ByteArray} {ret : Option FieldType} {rm : Room} (n : Nat) (ht : ∀ w ∈ bx_TB, w.before args s = true) (hc : Cond.code y bytes maxL ret ∈ bx_TB) (hrc : rm.cells = mc) (hrs : rm.slots = ms) (hl : va_Nw (.methodLinkNest own index y host) s) (hini : (Cond.initialized y.cls).before args s = true)
    (hd : y.cls ≠ "java/lang/invoke/MethodHandle" ∧ y.cls ≠ "java/lang/invoke/VarHandle" ∧ (parseMethodDescriptor y.desc).map (fun d => d.parameters.length) = some n) (hR : rm.frames + 1 ≤ R.frames ∧ 8 + (maxL + 11) + rm.locals ≤ R.locals) : va_CN R s args own index y host bytes maxL ret (Cond.code y bytes maxL ret :: bx_TB) rm mc ms n := by
  refine ⟨⟨hrc, hrs, hR.1, hR.2, bx_pays hc ht, List.mem_cons_self⟩, ht _ hc, hini, ⟨hd.1, hd.2.1⟩, fun sig h => ?_, va_Nw.use rfl hl⟩
  have h2 := hd.2.2
  rw [h] at h2
  exact (Option.some.inj h2).symm
theorem bx_TB_in : ∀ w ∈ bx_TB, w ∈ lw_tbl := fun _ h => (List.mem_filter.mp h).1
/-- what holds all through a method's run -/
def bx_Cx (G : ax_G) (D : va_G) (κ ρ : Nat → Nat) (A : Nat → Prop) (M : ax_M) (out : ax_E) (p : Program) (s : State) (m : MethodId) (args : Array Value) (meth : Method) (cd : Code) : Prop :=
  p.tables.exec = Jvm.exec ∧ cd.code = M.2.1 ∧ cd.maxLocals = M.2.2.1 ∧ s.vm.findClass M.1.cls = some m.cls ∧ meth.sig.returnType = M.2.2.2.1 ∧ meth.locks = false ∧ meth.name = M.1.name ∧ (∀ w ∈ bx_TB, w.before args s = true) ∧
  va_K D vwCl (ax_tys κ) s ∧ ax_F G ρ A s s.heap ∧ (∀ q, s.heap.size ≤ q → A q) ∧ ∀ i a, out.2.2.1[i]? = some a → ρ a = s.heap.size + i
