section AXM
variable {l : Launch} {G : ax_G} {D : va_G} {κ ρ : Nat → Nat} {A : Nat → Prop} {M : ax_M} {out : ax_E} {p : Program} {e : Env} {s : State} {m : MethodId} {args : Array Value} {below : List Frame} {meth : Method} {cd : Code} {pc : Nat} {ls : ax_L} {st : List Value} {w : ax_W} {lg : List Nat} {sl : Nat}
/-- the words of all fields stand in the tables -/
theorem bx_clw : ∀ (c : Nat) (q : vw_C), vwCl[c]? = some q → ∀ w ∈ u_ws q.1 q.2.1 q.2.2, w ∈ bx_TB := by
  have h : ∀ q ∈ vwCl, ∀ w ∈ u_ws q.1 q.2.1 q.2.2, w ∈ bx_TB := by decide +kernel
  exact fun c q hq => h q (List.mem_of_getElem? hq)
theorem bs_get (hC : bx_Cx G D κ ρ A M out p s m args meth cd) {i a b y : Nat} {q : vw_C} {fs : List Value} {v : Value} (hd : decode M.2.1 pc = .ok (.getfield i, 3)) (hq : vwCl[a]? = some q) (hb : b < q.2.2) (hw : Cond.fieldLink M.1.cls i (q.2.1 b).1 (q.2.1 b).2.1 (q.2.1 b).2.2.1 ∈ bx_TB) (hy : ax_nth w y = some (.inr (a, fs))) (hf : ax_fn fs b = some v) (k : ax_SW l D κ ρ A M out p e s m args below meth cd (pc + 3) ls (v :: st) w lg sl) : ax_SW l D κ ρ A M out p e s m args below meth cd pc ls (.ref y :: st) w lg sl := by
  intro H locs r hI
  exact va_get (C := q.1) (T := q.2.1) (N := q.2.2) hC.1 hC.2.1 hC.2.2.2.2.2.2.2.1 (bx_clw a q hq) hC.2.2.2.1 hC.2.2.2.2.2.2.2.2.1 (ax_P1 hI.2.1 hy) 0 rfl hq b hb (hC.2.2.2.2.2.2.2.1 _ hw) (fun _ h => h) (ax_fn_map hf) hd (k H locs r hI)
theorem bs_put (hC : bx_Cx G D κ ρ A M out p s m args meth cd) {i a b y : Nat} {q : vw_C} {fs : List Value} {v : Value} {ty : FieldType} (hd : decode M.2.1 pc = .ok (.putfield i, 3)) (hq : vwCl[a]? = some q) (hb : b < q.2.2) (hw : Cond.fieldLink M.1.cls i (q.2.1 b).1 (q.2.1 b).2.1 (q.2.1 b).2.2.1 ∈ bx_TB) (hty : parseFieldDescriptor (q.2.1 b).2.2.1 = some ty) (hn : ∀ ρ, narrow ty (ax_rv ρ v) = ax_rv ρ v) (hfit : ∀ ρ, fits ty (ax_rv ρ v) = true)
    (hfin : (q.2.1 b).2.2.2 = false ∨ ((q.2.1 b).2.2.2 = true ∧ M.1.name = "<init>" ∧ (q.2.1 b).1 = M.1.cls)) (hy : ax_nth w y = some (.inr (a, fs))) (hl : b < fs.length) (k : ax_SW l D κ ρ A M out p e s m args below meth cd (pc + 3) ls st (ax_set w y (some (.inr (a, ax_fset fs b v)))) lg sl) : ax_SW l D κ ρ A M out p e s m args below meth cd pc ls (v :: .ref y :: st) w lg sl := by
  intro H locs r hI
  obtain ⟨q0, hq0⟩ := ax_ws_at (κ := κ) (ρ := ρ) hy
  obtain ⟨ty0, hty0⟩ := ax_clt a q hq
  have hP := ax_ws_P hI.2.1
  have hD := ax_ws_D hI.2.1 hI.2.2.1
  have fin : ∀ (H1 : Heap) (locs1 : List Loc), va_P D vwCl ((ax_ws κ ρ 0 w).set q0 (ρ y, .inr (a, (fs.map (ax_rv ρ)).set b (ax_rv ρ v)))) H1 → va_D A ((ax_ws κ ρ 0 w).set q0 (ρ y, .inr (a, (fs.map (ax_rv ρ)).set b (ax_rv ρ v)))) → va_S A H H1 locs1 → W p l e (ax_Rm M out) s m args below meth cd H1 locs1 lg.length sl (MQ below (ax_Q D κ ρ A out) args s out.2.2.1.length out.2.2.2 A) (F0 m (pc + 3) r (st.map (ax_rv ρ))) := by
    intro H1 locs1 g1 g2 g3
    rw [← ax_fset_map] at g1
    exact k H1 locs1 r (ax_rest hI (ax_rep_set (e' := .inr (a, ax_fset fs b v)) hI.2.1 hy hq0 g1) (ax_in_set hI.2.2.1 (hI.2.2.1 y _ hy)) g3 g3.2.2)
  rcases hfin with hfin | ⟨hfin, hin, hcl⟩
  · exact va_put (C := q.1) (T := q.2.1) (N := q.2.2) hC.1 hC.2.1 hC.2.2.2.2.2.2.2.1 (bx_clw a q hq) ty0 hty0 (ax_cln a q hq) hC.2.2.2.1 hC.2.2.2.2.2.2.2.2.1 hP hD (ax_S0 hI) q0 hq0 hq b hb (hC.2.2.2.2.2.2.2.1 _ hw) (fun _ h => h) hfin hty (hn ρ) (hfit ρ) (by simpa using hl) hd fin
  · exact va_putF (C := q.1) (T := q.2.1) (N := q.2.2) hC.1 hC.2.1 hC.2.2.2.2.2.2.2.1 (bx_clw a q hq) ty0 hty0 (ax_cln a q hq) hC.2.2.2.1 hC.2.2.2.2.2.2.2.2.1 hP hD (ax_S0 hI) q0 hq0 hq b hb (hC.2.2.2.2.2.2.2.1 _ hw) (fun _ h => h) hfin (by rw [hC.2.2.2.2.2.2.1]; exact hin) hcl hty (hn ρ) (hfit ρ) (by simpa using hl) hd fin
theorem bs_iald (hC : bx_Cx G D κ ρ A M out p s m args meth cd) {y n : Nat} {i : Int32} {f : Nat → Int32} (hd : decode M.2.1 pc = .ok (.iaload, 1)) (hy : ax_nth w y = some (.inl (0, n, .inl f))) (hi : vp_in i n) (k : ax_SW l D κ ρ A M out p e s m args below meth cd (pc + 1) ls (.int (f i.toNatClampNeg) :: st) w lg sl) : ax_SW l D κ ρ A M out p e s m args below meth cd pc ls (.int i :: .ref y :: st) w lg sl := by
  intro H locs r hI
  exact va_iald hC.1 hC.2.1 hC.2.2.2.2.2.2.2.2.1 (ax_P1 hI.2.1 hy) 0 0 rfl rfl hi hd (k H locs r hI)
theorem bs_bald (hC : bx_Cx G D κ ρ A M out p s m args meth cd) {y n : Nat} {i : Int32} {f : Nat → Int32} (hd : decode M.2.1 pc = .ok (.baload, 1)) (hy : ax_nth w y = some (.inl (2, n, .inl f))) (hi : vp_in i n) (k : ax_SW l D κ ρ A M out p e s m args below meth cd (pc + 1) ls (.int (f i.toNatClampNeg) :: st) w lg sl) : ax_SW l D κ ρ A M out p e s m args below meth cd pc ls (.int i :: .ref y :: st) w lg sl := by
  intro H locs r hI
  exact va_bald hC.1 hC.2.1 hC.2.2.2.2.2.2.2.2.1 (ax_P1 hI.2.1 hy) 0 2 rfl rfl hi hd (k H locs r hI)
theorem bs_zald (hC : bx_Cx G D κ ρ A M out p s m args meth cd) {y n : Nat} {i : Int32} {f : Nat → Int32} (hd : decode M.2.1 pc = .ok (.baload, 1)) (hy : ax_nth w y = some (.inl (3, n, .inl f))) (hi : vp_in i n) (k : ax_SW l D κ ρ A M out p e s m args below meth cd (pc + 1) ls (.int (f i.toNatClampNeg) :: st) w lg sl) : ax_SW l D κ ρ A M out p e s m args below meth cd pc ls (.int i :: .ref y :: st) w lg sl := by
  intro H locs r hI
  exact va_zald hC.1 hC.2.1 hC.2.2.2.2.2.2.2.2.1 (ax_P1 hI.2.1 hy) 0 3 rfl rfl hi hd (k H locs r hI)
theorem bs_lald (hC : bx_Cx G D κ ρ A M out p s m args meth cd) {y n : Nat} {i : Int32} {f : Nat → Int64} (hd : decode M.2.1 pc = .ok (.laload, 1)) (hy : ax_nth w y = some (.inl (1, n, .inr (.inl f)))) (hi : vp_in i n) (k : ax_SW l D κ ρ A M out p e s m args below meth cd (pc + 1) ls (.long (f i.toNatClampNeg) :: st) w lg sl) : ax_SW l D κ ρ A M out p e s m args below meth cd pc ls (.int i :: .ref y :: st) w lg sl := by
  intro H locs r hI
  exact va_lald hC.1 hC.2.1 hC.2.2.2.2.2.2.2.2.1 (ax_P1 hI.2.1 hy) 0 1 rfl rfl hi hd (k H locs r hI)
theorem bs_tald (hC : bx_Cx G D κ ρ A M out p s m args meth cd) {y n : Nat} {i : Int32} {f : Nat → Int32} (hd : decode M.2.1 pc = .ok (.iaload, 1)) (hy : G.1 y = some (n, f)) (hi : vp_in i n) (k : ax_SW l D κ ρ A M out p e s m args below meth cd (pc + 1) ls (.int (f i.toNatClampNeg) :: st) w lg sl) : ax_SW l D κ ρ A M out p e s m args below meth cd pc ls (.int i :: .ref y :: st) w lg sl := by
  intro H locs r hI
  exact va_ti hC.1 hC.2.1 (hC.2.2.2.2.2.2.2.2.2.1.2.2.1 y n f hy) hI.2.2.2.1 hi rfl hd (k H locs r hI)
theorem bs_tlen (hC : bx_Cx G D κ ρ A M out p s m args meth cd) {y n : Nat} {f : Nat → Int32} (hd : decode M.2.1 pc = .ok (.arraylength, 1)) (hy : G.1 y = some (n, f)) (k : ax_SW l D κ ρ A M out p e s m args below meth cd (pc + 1) ls (.int (Int32.ofNat n) :: st) w lg sl) : ax_SW l D κ ρ A M out p e s m args below meth cd pc ls (.ref y :: st) w lg sl := by
  intro H locs r hI
  exact va_tlen hC.1 hC.2.1 (hC.2.2.2.2.2.2.2.2.2.1.2.2.1 y n f hy) hI.2.2.2.1 rfl hd (k H locs r hI)
theorem bs_alen (hC : bx_Cx G D κ ρ A M out p s m args meth cd) {y n : Nat} {x : ax_X} (hd : decode M.2.1 pc = .ok (.arraylength, 1)) (hy : ax_nth w y = some (.inl (0, n, x))) (k : ax_SW l D κ ρ A M out p e s m args below meth cd (pc + 1) ls (.int (Int32.ofNat n) :: st) w lg sl) : ax_SW l D κ ρ A M out p e s m args below meth cd pc ls (.ref y :: st) w lg sl := by
  intro H locs r hI
  exact va_alen hC.1 hC.2.1 hC.2.2.2.2.2.2.2.2.1 (ax_P1 hI.2.1 hy) 0 0 (ty := .int) (x := (n, ax_rx ρ x)) rfl rfl rfl hd (k H locs r hI)
theorem bs_alen1 (hC : bx_Cx G D κ ρ A M out p s m args meth cd) {y n : Nat} {x : ax_X} (hd : decode M.2.1 pc = .ok (.arraylength, 1)) (hy : ax_nth w y = some (.inl (1, n, x))) (k : ax_SW l D κ ρ A M out p e s m args below meth cd (pc + 1) ls (.int (Int32.ofNat n) :: st) w lg sl) : ax_SW l D κ ρ A M out p e s m args below meth cd pc ls (.ref y :: st) w lg sl := by
  intro H locs r hI
  exact va_alen hC.1 hC.2.1 hC.2.2.2.2.2.2.2.2.1 (ax_P1 hI.2.1 hy) 0 1 (ty := .long) (x := (n, ax_rx ρ x)) rfl rfl rfl hd (k H locs r hI)
theorem bs_aald (hC : bx_Cx G D κ ρ A M out p s m args meth cd) {y n kd : Nat} {i : Int32} {f : Nat → Option Nat} (hd : decode M.2.1 pc = .ok (.aaload, 1)) (h4 : 4 ≤ kd ∧ kd ≤ 6) (hy : ax_nth w y = some (.inl (kd, n, .inr (.inr (.inr (.inr f)))))) (hi : vp_in i n) (k : ax_SW l D κ ρ A M out p e s m args below meth cd (pc + 1) ls (va_rf (f i.toNatClampNeg) :: st) w lg sl) : ax_SW l D κ ρ A M out p e s m args below meth cd pc ls (.int i :: .ref y :: st) w lg sl := by
  intro H locs r hI
  obtain ⟨t, C, h1, h2⟩ := ax_tyat (κ := κ) h4.1
  have h5 := k H locs r hI
  have e1 : ax_rv ρ (va_rf (f i.toNatClampNeg)) = va_rf ((fun i => (f i).map ρ) i.toNatClampNeg) := by
    cases hf : f i.toNatClampNeg <;> simp [va_rf, ax_rv, hf]
  rw [List.map_cons, e1] at h5
  exact va_aldq hC.1 hC.2.1 hC.2.2.2.2.2.2.2.2.1 (ax_P1 hI.2.1 hy) 0 t rfl (h2 h4.2) hi hd h5
theorem bs_iast (hC : bx_Cx G D κ ρ A M out p s m args meth cd) {y n : Nat} {i : Int32} {x : Int32} {f : Nat → Int32} (hd : decode M.2.1 pc = .ok (.iastore, 1)) (hy : ax_nth w y = some (.inl (0, n, .inl f))) (hi : vp_in i n) (k : ax_SW l D κ ρ A M out p e s m args below meth cd (pc + 1) ls st (ax_set w y (some (.inl (0, n, .inl (upd f i.toNatClampNeg x))))) lg sl) : ax_SW l D κ ρ A M out p e s m args below meth cd pc ls (.int x :: .int i :: .ref y :: st) w lg sl := by
  intro H locs r hI
  obtain ⟨q0, hq0⟩ := ax_ws_at (κ := κ) (ρ := ρ) hy
  refine va_iast hC.1 hC.2.1 hC.2.2.2.2.2.2.2.2.1 (ax_ws_P hI.2.1) (ax_ws_D hI.2.1 hI.2.2.1) (ax_S0 hI) q0 0 hq0 rfl hi hd (fun H1 locs1 g1 g2 g3 => ?_)
  exact k H1 locs1 r (ax_rest hI (ax_rep_set (e' := .inl (0, n, .inl (upd f i.toNatClampNeg x))) hI.2.1 hy hq0 g1) (ax_in_set hI.2.2.1 (hI.2.2.1 y _ hy)) g3 g3.2.2)
theorem bs_bast (hC : bx_Cx G D κ ρ A M out p s m args meth cd) {y n : Nat} {i : Int32} {x : Int32} {f : Nat → Int32} (hd : decode M.2.1 pc = .ok (.bastore, 1)) (hy : ax_nth w y = some (.inl (2, n, .inl f))) (hi : vp_in i n) (k : ax_SW l D κ ρ A M out p e s m args below meth cd (pc + 1) ls st (ax_set w y (some (.inl (2, n, .inl (upd f i.toNatClampNeg (vp_nar .byte x)))))) lg sl) : ax_SW l D κ ρ A M out p e s m args below meth cd pc ls (.int x :: .int i :: .ref y :: st) w lg sl := by
  intro H locs r hI
  obtain ⟨q0, hq0⟩ := ax_ws_at (κ := κ) (ρ := ρ) hy
  refine va_bast hC.1 hC.2.1 hC.2.2.2.2.2.2.2.2.1 (ax_ws_P hI.2.1) (ax_ws_D hI.2.1 hI.2.2.1) (ax_S0 hI) q0 2 hq0 rfl hi hd (fun H1 locs1 g1 g2 g3 => ?_)
  exact k H1 locs1 r (ax_rest hI (ax_rep_set (e' := .inl (2, n, .inl (upd f i.toNatClampNeg (vp_nar .byte x)))) hI.2.1 hy hq0 g1) (ax_in_set hI.2.2.1 (hI.2.2.1 y _ hy)) g3 g3.2.2)
theorem bs_zast (hC : bx_Cx G D κ ρ A M out p s m args meth cd) {y n : Nat} {i : Int32} {x : Int32} {f : Nat → Int32} (hd : decode M.2.1 pc = .ok (.bastore, 1)) (hy : ax_nth w y = some (.inl (3, n, .inl f))) (hi : vp_in i n) (k : ax_SW l D κ ρ A M out p e s m args below meth cd (pc + 1) ls st (ax_set w y (some (.inl (3, n, .inl (upd f i.toNatClampNeg (vp_nar .boolean x)))))) lg sl) : ax_SW l D κ ρ A M out p e s m args below meth cd pc ls (.int x :: .int i :: .ref y :: st) w lg sl := by
  intro H locs r hI
  obtain ⟨q0, hq0⟩ := ax_ws_at (κ := κ) (ρ := ρ) hy
  refine va_zast hC.1 hC.2.1 hC.2.2.2.2.2.2.2.2.1 (ax_ws_P hI.2.1) (ax_ws_D hI.2.1 hI.2.2.1) (ax_S0 hI) q0 3 hq0 rfl hi hd (fun H1 locs1 g1 g2 g3 => ?_)
  exact k H1 locs1 r (ax_rest hI (ax_rep_set (e' := .inl (3, n, .inl (upd f i.toNatClampNeg (vp_nar .boolean x)))) hI.2.1 hy hq0 g1) (ax_in_set hI.2.2.1 (hI.2.2.1 y _ hy)) g3 g3.2.2)
theorem bs_last (hC : bx_Cx G D κ ρ A M out p s m args meth cd) {y n : Nat} {i : Int32} {x : Int64} {f : Nat → Int64} (hd : decode M.2.1 pc = .ok (.lastore, 1)) (hy : ax_nth w y = some (.inl (1, n, .inr (.inl f)))) (hi : vp_in i n) (k : ax_SW l D κ ρ A M out p e s m args below meth cd (pc + 1) ls st (ax_set w y (some (.inl (1, n, .inr (.inl (vp_updL f i.toNatClampNeg x)))))) lg sl) : ax_SW l D κ ρ A M out p e s m args below meth cd pc ls (.long x :: .int i :: .ref y :: st) w lg sl := by
  intro H locs r hI
  obtain ⟨q0, hq0⟩ := ax_ws_at (κ := κ) (ρ := ρ) hy
  refine va_last hC.1 hC.2.1 hC.2.2.2.2.2.2.2.2.1 (ax_ws_P hI.2.1) (ax_ws_D hI.2.1 hI.2.2.1) (ax_S0 hI) q0 1 hq0 rfl hi hd (fun H1 locs1 g1 g2 g3 => ?_)
  exact k H1 locs1 r (ax_rest hI (ax_rep_set (e' := .inl (1, n, .inr (.inl (vp_updL f i.toNatClampNeg x)))) hI.2.1 hy hq0 g1) (ax_in_set hI.2.2.1 (hI.2.2.1 y _ hy)) g3 g3.2.2)
theorem bs_aast (hC : bx_Cx G D κ ρ A M out p s m args meth cd) {y x n kd ci : Nat} {i : Int32} {f : Nat → Option Nat} {q : vw_C} {vs : List Value} (hd : decode M.2.1 pc = .ok (.aastore, 1)) (hq : vwCl[ci]? = some q) (h4 : 4 ≤ kd ∧ kd ≤ 6 ∧ ax_ty kd = .object q.1) (hy : ax_nth w y = some (.inl (kd, n, .inr (.inr (.inr (.inr f)))))) (hx : ax_nth w x = some (.inr (ci, vs))) (hi : vp_in i n) (k : ax_SW l D κ ρ A M out p e s m args below meth cd (pc + 1) ls st (ax_set w y (some (.inl (kd, n, .inr (.inr (.inr (.inr (va_up f i.toNatClampNeg (some x))))))))) lg sl) : ax_SW l D κ ρ A M out p e s m args below meth cd pc ls (.ref x :: .int i :: .ref y :: st) w lg sl := by
  intro H locs r hI
  obtain ⟨q0, hq0⟩ := ax_ws_at (κ := κ) (ρ := ρ) hy
  obtain ⟨q1, hq1⟩ := ax_ws_at (κ := κ) (ρ := ρ) hx
  obtain ⟨t, C, h1, h2⟩ := ax_tyat (κ := κ) h4.1
  have hCq : C = q.1 := by rw [h1] at h4; exact FieldType.object.inj h4.2.2
  subst hCq
  refine va_astq hC.1 hC.2.1 hC.2.2.2.2.2.2.2.2.1 (ax_ws_P hI.2.1) (ax_ws_D hI.2.1 hI.2.2.1) (ax_S0 hI) q0 t q1 ci hq0 (h2 h4.2.1) hq1 hq hi hd (fun H1 locs1 g1 g2 g3 => ?_)
  have e1 : va_up (fun i => (f i).map ρ) i.toNatClampNeg (some (ρ x)) = fun j => (va_up f i.toNatClampNeg (some x) j).map ρ := by
    funext j
    unfold va_up
    split <;> rfl
  rw [e1] at g1
  exact k H1 locs1 r (ax_rest hI (ax_rep_set (e' := .inl (kd, n, .inr (.inr (.inr (.inr (va_up f i.toNatClampNeg (some x))))))) hI.2.1 hy hq0 g1) (ax_in_set hI.2.2.1 (hI.2.2.1 y _ hy)) g3 g3.2.2)
end AXM
