section AXN
variable {l : Launch} {G : ax_G} {D : va_G} {κ ρ : Nat → Nat} {A : Nat → Prop} {M : ax_M} {out : ax_E} {p : Program} {e : Env} {s : State} {m : MethodId} {args : Array Value} {below : List Frame} {meth : Method} {cd : Code} {pc : Nat} {ls : ax_L} {st : List Value} {w : ax_W} {lg : List Nat} {sl : Nat}
theorem bx_made {H H1 : Heap} {locs : List Loc} {r : Array Slot} {b n : Nat} {ee : va_E} (hC : bx_Cx G D κ ρ A M out p s m args meth cd) (hI : ax_Iv D κ ρ A M out s ls w lg sl H locs r) (hsz : H.size ≤ s.heap.size + lg.length) (hn : ax_nth w b = none) (hl : (lg ++ [b]) <+: out.2.2.1) (hs : sl + n ≤ out.2.2.2) (z1 : H1.size = H.size + 1) (o1 : ∀ q, q < H.size → H1[q]? = H[q]?) (he : va_at D vwCl (ρ b, ax_rc κ ρ ee) H1) : ax_Iv D κ ρ A M out s ls (ax_set w b (some ee)) (lg ++ [b]) (sl + n) H1 locs r := by
  obtain ⟨i1, i2, i3, i4, i5, i6, i7⟩ := hI
  have hsz2 : H.size = s.heap.size + lg.length := Nat.le_antisymm hsz i5
  have hb : ρ b = H.size := by rw [hsz2]; exact hC.2.2.2.2.2.2.2.2.2.2.2 _ _ (ax_next hl).1
  refine ⟨i1, ax_rep_new i2 hn hb o1 he, ax_in_set i3 (by rw [hb]; exact hC.2.2.2.2.2.2.2.2.2.2.1 _ (by omega)), ⟨by have := i4.1; omega, fun q g1 g2 => ?_, i4.2.2⟩, by simp; omega, hl, hs⟩
  rw [o1 q (Nat.lt_of_lt_of_le g1 i4.1)]
  exact i4.2.1 q g1 g2
theorem bs_new (hC : bx_Cx G D κ ρ A M out p s m args meth cd) {i a b : Nat} {q : vw_C} {df : List Value} (hd : decode M.2.1 pc = .ok (.new i, 3)) (hq : vwCl[a]? = some q) (hdf : ax_cok df q = true) (hw1 : Cond.classLink M.1.cls i q.1 ∈ bx_TB) (hw2 : Cond.instantiable q.1 q.2.2 ∈ bx_TB) (hw3 : Cond.initialized q.1 ∈ bx_TB) (hn : ax_nth w b = none) (hl : (lg ++ [b]) <+: out.2.2.1) (hs : sl + df.length ≤ out.2.2.2) (k : ax_SW l D κ ρ A M out p e s m args below meth cd (pc + 3) ls (.ref b :: st) (ax_set w b (some (.inr (a, df)))) (lg ++ [b]) (sl + df.length)) : ax_SW l D κ ρ A M out p e s m args below meth cd pc ls st w lg sl := by
  intro H locs r hI
  refine W.heap (fun hsz => ?_)
  obtain ⟨ty, hty⟩ := ax_clt a q hq
  obtain ⟨hdl, hdv⟩ := ax_dfv hdf hty
  have hKn := hC.2.2.2.2.2.2.2.2.1.1 a q hq
  have hsz2 : H.size = s.heap.size + lg.length := Nat.le_antisymm hsz hI.2.2.2.2.1
  have hb : ρ b = H.size := by rw [hsz2]; exact hC.2.2.2.2.2.2.2.2.2.2.2 _ _ (ax_next hl).1
  refine W.newcK hC.1 hC.2.1 hC.2.2.2.1 (hC.2.2.2.2.2.2.2.1 _ hw1) (hC.2.2.2.2.2.2.2.1 _ hw2) (hC.2.2.2.2.2.2.2.1 _ hw3) rfl hd (ax_next hl).2 (by rw [← hdl]; exact hs) hKn.2.1 rfl (fun H1 kC hkC e1 z1 o1 => ?_)
  have h1 := k H1 locs r (bx_made hC hI hsz hn hl hs z1 o1 ⟨q, hq, by rw [hb]; exact (u_born ty hC.2.2.2.2.2.2.2.1 (bx_clw a q hq) hKn hkC e1 hty).to (hdv ρ)⟩)
  rw [List.length_append, List.length_singleton, List.map_cons, show ax_rv ρ (.ref b) = .ref H.size by rw [← hb]; rfl, hdl] at h1
  exact h1
theorem bs_newa (hC : bx_Cx G D κ ρ A M out p s m args meth cd) {a b : Nat} {t : ArrayType} {n : Int32} (hd : decode M.2.1 pc = .ok (.newarray t, 2)) (ha : a < 4) (ht : newarray.typeOf t = ax_ty a) (hw : Cond.arrayClass (ax_ty a) ∈ bx_TB) (hg : ¬ n < 0 ∧ n.toNatClampNeg ≤ 65536) (hn : ax_nth w b = none) (hl : (lg ++ [b]) <+: out.2.2.1) (hs : sl + n.toNatClampNeg ≤ out.2.2.2) (k : ax_SW l D κ ρ A M out p e s m args below meth cd (pc + 2) ls (.ref b :: st) (ax_set w b (some (.inl (a, n.toNatClampNeg, ax_zero a)))) (lg ++ [b]) (sl + n.toNatClampNeg)) : ax_SW l D κ ρ A M out p e s m args below meth cd pc ls (.int n :: st) w lg sl := by
  intro H locs r hI
  refine W.heap (fun hsz => ?_)
  have hsz2 : H.size = s.heap.size + lg.length := Nat.le_antisymm hsz hI.2.2.2.2.1
  have hb : ρ b = H.size := by rw [hsz2]; exact hC.2.2.2.2.2.2.2.2.2.2.2 _ _ (ax_next hl).1
  refine va_newaK hC.1 hC.2.1 (by rw [ht]; exact hC.2.2.2.2.2.2.2.1 _ hw) rfl hd rfl hg.1 rfl (by
    have : componentBytes (newarray.typeOf t) ≤ 8 := by cases t <;> decide
    have h2 := Nat.mul_le_mul hg.2 this
    omega) (ax_next hl).2 hs rfl (fun H1 cA e1 z1 o1 hAr hfc => ?_)
  rw [ht] at hfc e1
  have hcA : cA = κ a := by
    match a, ha with
    | 0, _ => exact Option.some.inj (hfc.symm.trans (hC.2.2.2.2.2.2.2.2.1.2 0 _ rfl).2)
    | 1, _ => exact Option.some.inj (hfc.symm.trans (hC.2.2.2.2.2.2.2.2.1.2 1 _ rfl).2)
    | 2, _ => exact Option.some.inj (hfc.symm.trans (hC.2.2.2.2.2.2.2.2.1.2 2 _ rfl).2)
    | 3, _ => exact Option.some.inj (hfc.symm.trans (hC.2.2.2.2.2.2.2.2.1.2 3 _ rfl).2)
  have hv : va_at D vwCl (ρ b, ax_rc κ ρ (.inl (a, n.toNatClampNeg, ax_zero a))) H1 := by
    show H1[ρ b]? = some (vp_cell (κ a) (n.toNatClampNeg, ax_rx ρ (ax_zero a)))
    rw [hb, e1, hcA]
    match a, ha with
    | 0, _ => rfl
    | 1, _ => rfl
    | 2, _ => rfl
    | 3, _ => rfl
  have h1 := k H1 locs r (bx_made hC hI hsz hn hl hs z1 o1 hv)
  rw [List.length_append, List.length_singleton, List.map_cons, show ax_rv ρ (.ref b) = .ref H.size by rw [← hb]; rfl] at h1
  exact h1
theorem bs_anew (hC : bx_Cx G D κ ρ A M out p s m args meth cd) {i a b : Nat} {C : String} {n : Int32} (hd : decode M.2.1 pc = .ok (.anewarray i, 3)) (ha : 4 ≤ a ∧ a ≤ 6) (ht : ax_ty a = .object C) (hw : Cond.classLink M.1.cls i C ∈ bx_TB) (hw2 : Cond.arrayOver (.object C) ∈ bx_TB) (hg : ¬ n < 0 ∧ n.toNatClampNeg ≤ 65536) (hn : ax_nth w b = none) (hl : (lg ++ [b]) <+: out.2.2.1) (hs : sl + n.toNatClampNeg ≤ out.2.2.2) (k : ax_SW l D κ ρ A M out p e s m args below meth cd (pc + 3) ls (.ref b :: st) (ax_set w b (some (.inl (a, n.toNatClampNeg, ax_zero a)))) (lg ++ [b]) (sl + n.toNatClampNeg)) : ax_SW l D κ ρ A M out p e s m args below meth cd pc ls (.int n :: st) w lg sl := by
  intro H locs r hI
  refine W.heap (fun hsz => ?_)
  have hsz2 : H.size = s.heap.size + lg.length := Nat.le_antisymm hsz hI.2.2.2.2.1
  have hb : ρ b = H.size := by rw [hsz2]; exact hC.2.2.2.2.2.2.2.2.2.2.2 _ _ (ax_next hl).1
  refine W.anew hC.1 hC.2.1 hC.2.2.2.1 (hC.2.2.2.2.2.2.2.1 _ hw) (hC.2.2.2.2.2.2.2.1 _ hw2) rfl hd rfl hg.1 (by omega) (ax_next hl).2 hs (fun cA kA comp f1 f2 f3 f4 => ?_)
  have hcA : cA = κ a := by
    obtain ⟨t, C', h1, h2⟩ := ax_tyat (κ := κ) ha.1
    have hCC : C = C' := by rw [h1] at ht; exact (FieldType.object.inj ht).symm
    subst hCC
    obtain ⟨-, kA', comp', -, -, -, h6⟩ := (hC.2.2.2.2.2.2.2.2.1.2 t _ (h2 ha.2))
    exact Option.some.inj (f1.symm.trans h6)
  have hz : ax_zero a = .inr (.inr (.inr (.inr (fun _ => none)))) := by
    match a, ha with
    | 4, _ => rfl
    | 5, _ => rfl
    | 6, _ => rfl
  have hv : va_at D vwCl (ρ b, ax_rc κ ρ (.inl (a, n.toNatClampNeg, ax_zero a))) (H.push { cls := cA, slots := Array.replicate n.toNatClampNeg .null, vm := .none }) := by
    rw [hz]
    show (H.push _)[ρ b]? = some (vp_cell (κ a) (n.toNatClampNeg, .inr (.inr (.inr (.inr (fun i => (none : Option Nat).map ρ))))))
    rw [hb, Array.getElem?_push_size, vp_cell_q, hcA, ← arrV_new]
    rfl
  have h1 := k _ locs r (bx_made hC hI hsz hn hl hs (Array.size_push _) (fun q hq => by rw [Array.getElem?_push, if_neg (Nat.ne_of_lt hq)]) hv)
  rw [List.length_append, List.length_singleton, List.map_cons, show ax_rv ρ (.ref b) = .ref H.size by rw [← hb]; rfl] at h1
  exact h1
theorem bs_copy (hC : bx_Cx G D κ ρ A M out p s m args meth cd) {i x y n0 n1 : Nat} {n dp sp : Int32} {f g : Nat → Int32} (hd : decode M.2.1 pc = .ok (.invokestatic i, 3)) (hw1 : Cond.methodLink M.1.cls i arraycopyName ∈ bx_TB) (hw2 : Cond.native arraycopyName ∈ bx_TB) (hw3 : Cond.static arraycopyName ∈ bx_TB) (hw4 : Cond.initialized "java/lang/System" ∈ bx_TB) (hr1 : 1 ≤ M.2.2.2.2.1) (hr2 : 8 + (nativeFrameWords "java/lang/System" "arraycopy" 5 + 11) ≤ M.2.2.2.2.2.1) (hcs : ax_cs st ≤ 8)
    (hx : ax_nth w x = some (.inl (0, n0, .inl f))) (hy : ax_nth w y = some (.inl (0, n1, .inl g))) (hg : ¬ sp < 0 ∧ ¬ dp < 0 ∧ ¬ n < 0 ∧ sp.toNatClampNeg + n.toNatClampNeg ≤ n0 ∧ dp.toNatClampNeg + n.toNatClampNeg ≤ n1) (k : ax_SW l D κ ρ A M out p e s m args below meth cd (pc + 3) ls st (ax_set w y (some (.inl (0, n1, .inl (va_cpy f g sp.toNatClampNeg dp.toNatClampNeg n.toNatClampNeg))))) lg sl) : ax_SW l D κ ρ A M out p e s m args below meth cd pc ls (.int n :: .int dp :: .ref y :: .int sp :: .ref x :: st) w lg sl := by
  intro H locs r hI
  obtain ⟨q0, hq0⟩ := ax_ws_at (κ := κ) (ρ := ρ) hx
  obtain ⟨q1, hq1⟩ := ax_ws_at (κ := κ) (ρ := ρ) hy
  refine va_copyi (ty := .int) hC.1 hC.2.1 (hC.2.2.1.trans hI.1.1.symm) hC.2.2.2.1 (hC.2.2.2.2.2.2.2.1 _ hw1) (hC.2.2.2.2.2.2.2.1 _ hw2) (hC.2.2.2.2.2.2.2.1 _ hw3) (hC.2.2.2.2.2.2.2.1 _ hw4) hC.2.2.2.2.2.2.2.2.1 (ax_ws_P hI.2.1) (ax_ws_D hI.2.1 hI.2.2.1) (ax_S0 hI) q0 q1 0 0 hq0 hq1 rfl rfl rfl hg.1 hg.2.1 hg.2.2.1 hg.2.2.2.1 hg.2.2.2.2 (fun _ _ => rfl) hr1 (by rw [ax_cs_eq]; exact Nat.le_trans (Nat.add_le_add_right hcs _) hr2) hd (fun H1 locs1 g1 g2 g3 => ?_)
  exact k H1 locs1 r (ax_rest hI (ax_rep_set (e' := .inl (0, n1, .inl (va_cpy f g sp.toNatClampNeg dp.toNatClampNeg n.toNatClampNeg))) hI.2.1 hy hq1 g1) (ax_in_set hI.2.2.1 (hI.2.2.1 y _ hy)) g3 g3.2.2)
theorem bs_objInit (hC : bx_Cx G D κ ρ A M out p s m args meth cd) {i x : Nat} (hd : decode M.2.1 pc = .ok (.invokespecial i, 3)) (hw1 : Cond.methodLink M.1.cls i Lib.objectInit ∈ bx_TB) (hw2 : Cond.instanceMethod Lib.objectInit ∈ bx_TB) (hw3 : Cond.code Lib.objectInit ⟨#[0xb1]⟩ 1 none ∈ bx_TB) (hr1 : 1 ≤ M.2.2.2.2.1) (hr2 : 20 ≤ M.2.2.2.2.2.1) (hcs : ax_cs st ≤ 8) (k : ax_SW l D κ ρ A M out p e s m args below meth cd (pc + 3) ls st w lg sl) : ax_SW l D κ ρ A M out p e s m args below meth cd pc ls (.ref x :: st) w lg sl := by
  intro H locs r hI
  exact W.objInit hC.1 hC.2.1 hC.2.2.2.1 (hC.2.2.2.2.2.2.2.1 _ hw1) (hC.2.2.2.2.2.2.2.1 _ hw2) (hC.2.2.2.2.2.2.2.1 _ hw3) rfl (hI.1.1.trans hC.2.2.1.symm) rfl hd hr1 (by rw [ax_cs_eq]; show 2 * 0 + ax_cs st + 12 ≤ M.2.2.2.2.2.1; omega) (k H locs r hI)
theorem bs_iret (hC : bx_Cx G D κ ρ A M out p s m args meth cd) {x : Int32} (hd : decode M.2.1 pc = .ok (.ireturn, 1)) (hr : M.2.2.2.1 = some .int) (ho : out = (some (.int x), w, lg, sl)) : ax_SW l D κ ρ A M out p e s m args below meth cd pc ls [.int x] w lg sl := by
  subst ho
  intro H locs r hI
  exact W.iret hC.1 hC.2.1 (hC.2.2.2.2.1.trans hr) (ax_fin hI rfl) hI.2.2.2.1.2.2 hd hC.2.2.2.2.2.1
theorem bs_zret (hC : bx_Cx G D κ ρ A M out p s m args meth cd) {x : Int32} (hx : x = 0 ∨ x = 1) (hd : decode M.2.1 pc = .ok (.ireturn, 1)) (hr : M.2.2.2.1 = some .boolean) (ho : out = (some (.int x), w, lg, sl)) : ax_SW l D κ ρ A M out p e s m args below meth cd pc ls [.int x] w lg sl := by
  subst ho
  intro H locs r hI
  exact W.zret hC.1 hC.2.1 (hC.2.2.2.2.1.trans hr) (by rcases hx with rfl | rfl <;> rfl) (ax_fin hI rfl) hI.2.2.2.1.2.2 hd hC.2.2.2.2.2.1
theorem bs_lret (hC : bx_Cx G D κ ρ A M out p s m args meth cd) {x : Int64} (hd : decode M.2.1 pc = .ok (.lreturn, 1)) (hr : M.2.2.2.1 = some .long) (ho : out = (some (.long x), w, lg, sl)) : ax_SW l D κ ρ A M out p e s m args below meth cd pc ls [.long x] w lg sl := by
  subst ho
  intro H locs r hI
  exact W.lret hC.1 hC.2.1 (hC.2.2.2.2.1.trans hr) (ax_fin hI rfl) hI.2.2.2.1.2.2 hd hC.2.2.2.2.2.1
theorem bs_vret (hC : bx_Cx G D κ ρ A M out p s m args meth cd) (hd : decode M.2.1 pc = .ok (.return_, 1)) (hr : M.2.2.2.1 = none) (ho : out = (none, w, lg, sl)) : ax_SW l D κ ρ A M out p e s m args below meth cd pc ls [] w lg sl := by
  subst ho
  intro H locs r hI
  exact W.vret hC.1 hC.2.1 (hC.2.2.2.2.1.trans hr) (ax_fin hI rfl) hI.2.2.2.1.2.2 hd hC.2.2.2.2.2.1
theorem bs_aret (hC : bx_Cx G D κ ρ A M out p s m args meth cd) {v : Value} {t : FieldType} (hv : v = .null ∨ ∃ a, v = .ref a) (hd : decode M.2.1 pc = .ok (.areturn, 1)) (hr : M.2.2.2.1 = some t) (ht : ax_refs t = true) (ho : out = (some v, w, lg, sl)) : ax_SW l D κ ρ A M out p e s m args below meth cd pc ls [v] w lg sl := by
  subst ho
  intro H locs r hI
  exact W.aret hC.1 hC.2.1 (hC.2.2.2.2.1.trans hr) (by
    cases t with
    | object n => exact Or.inl ⟨n, rfl⟩
    | array n => exact Or.inr ⟨n, rfl⟩
    | _ => cases ht) (v := ax_rv ρ v) (by
    rcases hv with rfl | ⟨a, rfl⟩
    · exact Or.inl rfl
    · exact Or.inr ⟨ρ a, rfl⟩) (ax_fin hI rfl) hI.2.2.2.1.2.2 hd hC.2.2.2.2.2.1
end AXN
