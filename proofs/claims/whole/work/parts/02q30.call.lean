/-! calls, and the whole -/
def bx_Vd (G : ax_G) : Prop := (∀ M ∈ G.2.2.2, bx_mok G.2.1 G.2.2.2 M = true ∧ ∀ w ∈ ax_wl M, w ∈ bx_TB) ∧ ∀ k x, G.1 k = some x → 900 ≤ k ∧ k < 1000
def bx_Chr (l : Launch) (G : ax_G) : Prop := ∀ (D : va_G) (κ ρ : Nat → Nat) (A : Nat → Prop) (M : ax_M) (out : ax_E) (p : Program) (e : Env) (s : State) (m : MethodId) (args : Array Value) (below : List Frame) (meth : Method) (cd : Code) (pc : Nat) (ls : ax_L) (w : ax_W) (lg : List Nat) (sl : Nat), bx_Cx G D κ ρ A M out p s m args meth cd → ∀ {i : Nat} {x : Int32} {st : List Value}, decode M.2.1 pc = .ok (.invokevirtual i, 3) → Cond.methodLink M.1.cls i ⟨"java/lang/String", "charAt", "(I)C"⟩ ∈ bx_TB → 1 ≤ M.2.2.2.2.1 → ax_cs st ≤ 8 → vp_in x G.2.2.1.length → ax_SW l D κ ρ A M out p e s m args below meth cd (pc + 3) ls (.int (ax_wd G.2.2.1 x.toNatClampNeg) :: st) w lg sl → ax_SW l D κ ρ A M out p e s m args below meth cd pc ls (.int x :: .ref 902 :: st) w lg sl
def bx_Snd (l : Launch) (G : ax_G) (n : Nat) : Prop := ∀ M ∈ G.2.2.2, ∀ (c : ax_C) (out : ax_E), ax_run G n M c = some out → ∀ (D : va_G) (κ ρ : Nat → Nat) (A : Nat → Prop) (p : Program) (e : Env) (s : State) (m : MethodId) (args : Array Value) (below : List Frame) (meth : Method) (cd : Code), bx_Cx G D κ ρ A M out p s m args meth cd → ax_SC l D κ ρ A M out p e s m args below meth cd c
abbrev bx_ws1 (M : ax_M) : List Cond := Cond.code M.1 M.2.1 M.2.2.1 M.2.2.2.1 :: bx_TB
theorem bx_met {l : Launch} {G : ax_G} {n : Nat} (hV : bx_Vd G) (hn : bx_Snd l G n) {M : ax_M} (hM : M ∈ G.2.2.2) {vs : List Value} {w0 : ax_W} {out : ax_E} (hrun : ax_run G n M (0, ax_ent M.2.2.1 vs, [], w0, [], 0) = some out) (hlay : (ax_lay vs).length ≤ M.2.2.1) (D : va_G) (κ ρ : Nat → Nat) (sz : Nat) (hpro : ∀ i a, out.2.2.1[i]? = some a → ρ a = sz + i) :
    Met l M.1 (bx_ws1 M) (ax_Rm M out) (ax_Pc G D κ ρ vs w0 sz) (ax_Q D κ ρ (ax_A ρ w0 sz) out) out.2.2.1.length out.2.2.2 (ax_A ρ w0 sz) := by
  have hok := (hV.1 M hM).1
  simp only [bx_mok, Bool.and_eq_true] at hok
  refine va_MetF (cc := M.2.1) (maxL := M.2.2.1) (ret := M.2.2.2.1) hok.1 rfl ?_
  intro p e s m args below meth c s₁ B hml hv
  obtain ⟨rfl, rfl, hR, hK, hF⟩ := hv
  have hts : ∀ w ∈ bx_ws1 M, w.before (vs.map (ax_rv ρ)).toArray s = true := atoms_spec (ws := bx_ws1 M) B.pre
  have hC : bx_Cx G D κ ρ (ax_A ρ w0 s.heap.size) M out p s m (vs.map (ax_rv ρ)).toArray meth c := ⟨B.exec, B.bytes, hml, findClass_of_methodNamed B.named, B.returns, B.notSynchronized, (name_of_methodNamed B.named B.method).1, fun w hw => hts w (List.mem_cons_of_mem _ hw), hK, hF, fun q h => Or.inr h, hpro⟩
  have hk := ax_run_keep hrun
  rw [lg_entry_eq]
  exact hn M hM _ out hrun D κ ρ _ p e s m _ below meth c hC s.heap [] _ ⟨ax_ent_Ls hlay, hR, fun k x hx => Or.inl ⟨k, x, hx, rfl⟩, va_S.rf, Nat.le_refl _, hk.1, hk.2.1⟩
section AXC
variable {l : Launch} {G : ax_G} {D : va_G} {κ ρ : Nat → Nat} {A : Nat → Prop} {M : ax_M} {out : ax_E} {p : Program} {e : Env} {s : State} {m : MethodId} {args : Array Value} {below : List Frame} {meth : Method} {cd : Code} {pc : Nat} {ls : ax_L} {st : List Value} {w : ax_W} {lg : List Nat} {sl : Nat}
/-- what the callee asks of the state -/
theorem bx_pre {H : Heap} {locs : List Loc} {r : Array Slot} {θ : Nat → Nat} {vs : List Value} {w0 : ax_W} {av : List Value} (hV : bx_Vd G) (hC : bx_Cx G D κ ρ A M out p s m args meth cd) (hI : ax_Iv D κ ρ A M out s ls w lg sl H locs r) (hθ : ∀ k, 900 ≤ k → k < 1000 → θ k = k) (hR : ax_Rep D κ (fun x => ρ (θ x)) w0 H) (hAA : ∀ q, ax_A (fun x => ρ (θ x)) w0 H.size q → A q) (hav : vs.map (ax_rv (fun x => ρ (θ x))) = av) : ∀ U : State, U.heap = H → s.WarmedH U.vm → ax_Pc G D κ (fun x => ρ (θ x)) vs w0 H.size av.toArray U := by
  intro U hU hW
  subst hU
  refine ⟨by rw [hav], rfl, hR, va_K.moved hW.alike hC.2.2.2.2.2.2.2.2.1, ?_⟩
  have h1 : ax_F G ρ A s U.heap := hC.2.2.2.2.2.2.2.2.2.1.kept (fun a h1 h2 => hI.2.2.2.1.2.1 a h1 h2)
  exact ((h1.narrow hAA).name hV.2 (fun k a b => by rw [hθ k a b])).warm hW
theorem bx_calB {M' : ax_M} {out1 : ax_E} {b n i : Nat} (hV : bx_Vd G) (hC : bx_Cx G D κ ρ A M out p s m args meth cd) (hM' : M' ∈ G.2.2.2) (hwl : ∀ w ∈ ax_wl M, w ∈ bx_TB) (h : ax_cal M M' b n = true) (hl : Cond.methodLink M.1.cls i M'.1 ∈ bx_TB) : CallB (ax_Rm M out) s args M.1.cls i M'.1 M'.2.1 M'.2.2.1 M'.2.2.2.1 (bx_ws1 M') (ax_Rm M' out1) out1.2.2.1.length out1.2.2.2 n := by
  simp only [ax_cal, Bool.and_eq_true, decide_eq_true_eq] at h
  obtain ⟨⟨⟨⟨⟨h1, h2⟩, h3⟩, h4⟩, h5⟩, h6⟩ := h
  exact bx_callB n hC.2.2.2.2.2.2.2.1 (hwl _ h1) rfl rfl (hC.2.2.2.2.2.2.2.1 _ (hwl _ h2)) (hC.2.2.2.2.2.2.2.1 _ hl) h5 ⟨h3, h4⟩
end AXC
