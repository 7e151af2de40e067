/-! calls, and the whole -/
def ax_Vd (G : ax_G) : Prop := (∀ M ∈ G.2.2.2, ax_mok G.2.1 G.2.2.2 M = true ∧ ∀ w ∈ ax_wl M, w ∈ ax_TB) ∧ ∀ k x, G.1 k = some x → 900 ≤ k ∧ k < 1000
def ax_Chr (l : Launch) (G : ax_G) : Prop := ∀ (D : va_G) (κ ρ : Nat → Nat) (A : Nat → Prop) (M : ax_M) (out : ax_E) (p : Program) (e : Env) (s : State) (m : MethodId) (args : Array Value) (below : List Frame) (meth : Method) (cd : Code) (pc : Nat) (ls : ax_L) (w : ax_W) (lg : List Nat) (sl : Nat), ax_Cx G D κ ρ A M out p s m args meth cd → ∀ {i : Nat} {x : Int32} {st : List Value}, decode M.2.1 pc = .ok (.invokevirtual i, 3) → Cond.methodLink M.1.cls i ⟨"java/lang/String", "charAt", "(I)C"⟩ ∈ ax_TB → 1 ≤ M.2.2.2.2.1 → ax_cs st ≤ 8 → vp_in x G.2.2.1.length → ax_SW l D κ ρ A M out p e s m args below meth cd (pc + 3) ls (.int (ax_wd G.2.2.1 x.toNatClampNeg) :: st) w lg sl → ax_SW l D κ ρ A M out p e s m args below meth cd pc ls (.int x :: .ref 902 :: st) w lg sl
def ax_Snd (l : Launch) (G : ax_G) (n : Nat) : Prop := ∀ M ∈ G.2.2.2, ∀ (c : ax_C) (out : ax_E), ax_run G n M c = some out → ∀ (D : va_G) (κ ρ : Nat → Nat) (A : Nat → Prop) (p : Program) (e : Env) (s : State) (m : MethodId) (args : Array Value) (below : List Frame) (meth : Method) (cd : Code), ax_Cx G D κ ρ A M out p s m args meth cd → ax_SC l D κ ρ A M out p e s m args below meth cd c
abbrev ax_ws1 (M : ax_M) : List Cond := Cond.code M.1 M.2.1 M.2.2.1 M.2.2.2.1 :: ax_TB
abbrev ax_Pc (G : ax_G) (D : va_G) (κ ρ : Nat → Nat) (vs : List Value) (w0 : ax_W) (sz : Nat) : Array Value → State → Prop := va_Pc (vs.map (ax_rv ρ)) (fun U => U.heap.size = sz ∧ ax_Rep D κ ρ w0 U.heap ∧ va_K D vwCl (ax_tys κ) U ∧ ax_F G ρ (ax_A ρ w0 sz) U U.heap)
theorem ax_met {l : Launch} {G : ax_G} {n : Nat} (hV : ax_Vd G) (hn : ax_Snd l G n) {M : ax_M} (hM : M ∈ G.2.2.2) {vs : List Value} {w0 : ax_W} {out : ax_E} (hrun : ax_run G n M (0, ax_ent M.2.2.1 vs, [], w0, [], 0) = some out) (hlay : (ax_lay vs).length ≤ M.2.2.1) (D : va_G) (κ ρ : Nat → Nat) (sz : Nat) (hpro : ∀ i a, out.2.2.1[i]? = some a → ρ a = sz + i) :
    Met l M.1 (ax_ws1 M) (ax_Rm M out) (ax_Pc G D κ ρ vs w0 sz) (ax_Q D κ ρ (ax_A ρ w0 sz) out) out.2.2.1.length out.2.2.2 (ax_A ρ w0 sz) := by
  have hok := (hV.1 M hM).1
  simp only [ax_mok, Bool.and_eq_true] at hok
  refine Met.ofW (cc := M.2.1) (maxL := M.2.2.1) (ret := M.2.2.2.1) hok.1 rfl ?_
  intro p e s m args below meth c s₁ B hml hv
  obtain ⟨rfl, rfl, hR, hK, hF⟩ := hv
  have hts : ∀ w ∈ ax_ws1 M, w.before (vs.map (ax_rv ρ)).toArray s = true := atoms_spec (ws := ax_ws1 M) B.pre
  have hC : ax_Cx G D κ ρ (ax_A ρ w0 s.heap.size) M out p s m (vs.map (ax_rv ρ)).toArray meth c := ⟨B.exec, B.bytes, hml, findClass_of_methodNamed B.named, B.returns, B.notSynchronized, (name_of_methodNamed B.named B.method).1, fun w hw => hts w (List.mem_cons_of_mem _ hw), hK, hF, fun q h => Or.inr h, hpro⟩
  have hk := ax_run_keep hrun
  rw [lg_entry_eq]
  exact hn M hM _ out hrun D κ ρ _ p e s m _ below meth c hC s.heap [] _ ⟨ax_ent_Ls hlay, hR, fun k x hx => Or.inl ⟨k, x, hx, rfl⟩, va_S.rf, Nat.le_refl _, hk.1, hk.2.1⟩
theorem ax_blind {G : ax_G} {D : va_G} {κ ρ : Nat → Nat} {vs : List Value} {w0 : ax_W} {sz : Nat} : FrameBlind (ax_Pc G D κ ρ vs w0 sz) := by
  intro a U g mk h
  obtain ⟨h1, h2, h3, h4, h5⟩ := h
  exact ⟨h1, h2, h3, va_K.moved (u := U) (U := U.calling g mk a) (Vm.Alike.refl U.vm) h4, ax_F.same (u := U) (U := U.calling g mk a) rfl h5⟩
theorem ax_pop_eq : ∀ {n : Nat} {st acc As r : List Value}, ax_pop n st acc = some (As, r) → ∃ pre : List Value, pre.length = n ∧ st = pre ++ r ∧ As = pre.reverse ++ acc
  | 0, st, acc, As, r, h => by cases h; exact ⟨[], rfl, rfl, rfl⟩
  | n + 1, [], acc, As, r, h => by cases h
  | n + 1, v :: st, acc, As, r, h => by
    obtain ⟨pre, h1, h2, h3⟩ := ax_pop_eq (n := n) h
    exact ⟨v :: pre, by simp [h1], by rw [h2]; rfl, by rw [h3]; simp⟩
section AXC
variable {l : Launch} {G : ax_G} {D : va_G} {κ ρ : Nat → Nat} {A : Nat → Prop} {M : ax_M} {out : ax_E} {p : Program} {e : Env} {s : State} {m : MethodId} {args : Array Value} {below : List Frame} {meth : Method} {cd : Code} {pc : Nat} {ls : ax_L} {st : List Value} {w : ax_W} {lg : List Nat} {sl : Nat}
theorem ax_goon {θ : Nat → Nat} {A' : Nat → Prop} {out1 : ax_E} {H : Heap} {locs : List Loc} {r : Array Slot} {st0 rest : List Value} {a : Array Value} {w' : ax_W} {lg1 : List Nat} (hI : ax_Iv D κ ρ A M out s ls w lg sl H locs r) (hr : va_Run p l e (ax_Rm M out) s m args below meth cd H locs lg.length sl out1.2.2.1.length out1.2.2.2 (F0 m pc r st0) (rest.map (ax_rv ρ)) (ax_Q D κ (fun x => ρ (θ x)) A' out1 a) A') (hAA : ∀ q, A' q → A q)
    (hview : ∀ k e, ax_nth w' k = some e → (∃ i e1, ax_nth out1.2.1 i = some e1 ∧ k = θ i ∧ e = ax_rc (fun x => x) θ e1) ∨ (ax_nth w k = some e ∧ ¬ A' (ρ k))) (hlg : lg1.length = out1.2.2.1.length) (hpre : (lg ++ lg1) <+: out.2.2.1) (hsl : sl + out1.2.2.2 ≤ out.2.2.2) (k : ax_SW l D κ ρ A M out p e s m args below meth cd (pc + 3) ls ((out1.1.map (ax_rv θ)).toList ++ rest) w' (lg ++ lg1) (sl + out1.2.2.2)) : W p l e (ax_Rm M out) s m args below meth cd H locs lg.length sl (MQ below (ax_Q D κ ρ A out) args s out.2.2.1.length out.2.2.2 A) (F0 m pc r st0) := by
  intro T hT X
  obtain ⟨v, st₀, t, T', L, h0, X', hL, e1, e2, ⟨hv, hR1, hI1, ⟨hz, hk⟩, hsz⟩, stp⟩ := hr T hT X
  obtain ⟨i1, i2, i3, i4, i5, i6, i7⟩ := hI
  rw [h0] at hz hk hsz
  have hv' : v = out1.1.map (ax_rv (fun x => ρ (θ x))) := Outcome.returned.inj hv
  obtain ⟨b1, b2⟩ := ax_back i2 i3 hR1 hI1 hAA hk hview
  have hJ : ax_Iv D κ ρ A M out s ls w' (lg ++ lg1) (sl + out1.2.2.2) T'.heap (locs ++ L) r := by
    refine ⟨i1, by rw [e1]; exact b1, b2, ⟨Nat.le_trans i4.1 (by rw [e1]; exact hz), fun q g1 g2 => ?_, fun q hq => ?_⟩, by rw [e1, List.length_append, hlg]; omega, hpre, hsl⟩
    · rw [e1, hk q (Nat.lt_of_lt_of_le g1 i4.1) (fun z => g2 (hAA q z))]
      exact i4.2.1 q g1 g2
    · rcases List.mem_append.mp hq with h | h
      · exact i4.2.2 q h
      · exact hAA _ (hL q h)
  have hW := k T'.heap (locs ++ L) r hJ
  rw [List.length_append, hlg, List.map_append] at hW
  have hst : ((out1.1.map (ax_rv θ)).toList).map (ax_rv ρ) = v.toList := by
    rw [hv']
    cases out1.1 with
    | none => rfl
    | some x => simp [ax_rv_comp]
  rw [hst] at hW
  obtain ⟨t2, a1, b1⟩ := hW T' rfl X'
  exact ⟨t2, stp t2 a1, b1⟩
/-- what the callee asks of the state -/
theorem ax_pre {H : Heap} {locs : List Loc} {r : Array Slot} {θ : Nat → Nat} {vs : List Value} {w0 : ax_W} {av : List Value} (hV : ax_Vd G) (hC : ax_Cx G D κ ρ A M out p s m args meth cd) (hI : ax_Iv D κ ρ A M out s ls w lg sl H locs r) (hθ : ∀ k, 900 ≤ k → k < 1000 → θ k = k) (hR : ax_Rep D κ (fun x => ρ (θ x)) w0 H) (hAA : ∀ q, ax_A (fun x => ρ (θ x)) w0 H.size q → A q) (hav : vs.map (ax_rv (fun x => ρ (θ x))) = av) : ∀ U : State, U.heap = H → s.WarmedH U.vm → ax_Pc G D κ (fun x => ρ (θ x)) vs w0 H.size av.toArray U := by
  intro U hU hW
  subst hU
  refine ⟨by rw [hav], rfl, hR, va_K.moved hW.alike hC.2.2.2.2.2.2.2.2.1, ?_⟩
  have h1 : ax_F G ρ A s U.heap := hC.2.2.2.2.2.2.2.2.2.1.kept (fun a h1 h2 => hI.2.2.2.1.2.1 a h1 h2)
  exact ((h1.narrow hAA).name hV.2 (fun k a b => by rw [hθ k a b])).warm hW
theorem ax_calB {M' : ax_M} {out1 : ax_E} {b n i : Nat} (hV : ax_Vd G) (hC : ax_Cx G D κ ρ A M out p s m args meth cd) (hM' : M' ∈ G.2.2.2) (hwl : ∀ w ∈ ax_wl M, w ∈ ax_TB) (h : ax_cal M M' b n = true) (hl : Cond.methodLink M.1.cls i M'.1 ∈ ax_TB) : CallB (ax_Rm M out) s args M.1.cls i M'.1 M'.2.1 M'.2.2.1 M'.2.2.2.1 (ax_ws1 M') (ax_Rm M' out1) out1.2.2.1.length out1.2.2.2 n := by
  simp only [ax_cal, Bool.and_eq_true, decide_eq_true_eq] at h
  obtain ⟨⟨⟨⟨⟨h1, h2⟩, h3⟩, h4⟩, h5⟩, h6⟩ := h
  have hG : GoodIn ax_TB (ax_ws1 M') := fun w hw => by
    have hw2 : w ∈ ax_TB := by
      rcases List.mem_cons.mp hw with h | h
      · rw [h]; exact hwl _ h1
      · exact h
    exact ⟨hw2, good_of_word (List.mem_filter.mp hw2).2⟩
  exact callB_of n hC.2.2.2.2.2.2.2.1 hG rfl rfl rfl (hC.2.2.2.2.2.2.2.1 _ (hwl _ h2)) (hC.2.2.2.2.2.2.2.1 _ hl) h5 ⟨h3, h4⟩
end AXC
