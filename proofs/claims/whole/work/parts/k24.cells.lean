section AXM
variable {l : Launch} {G : ax_G} {D : va_G} {κ ρ : Nat → Nat} {A : Nat → Prop} {M : ax_M} {out : ax_E} {p : Program} {e : Env} {s : State} {m : MethodId} {args : Array Value} {below : List Frame} {meth : Method} {cd : Code} {pc : Nat} {ls : ax_L} {st : List Value} {w : ax_W} {lg : List Nat} {sl : Nat}
theorem ax_fn_map {ρ : Nat → Nat} : ∀ {fs : List Value} {k : Nat} {v : Value}, ax_fn fs k = some v → (fs.map (ax_rv ρ))[k]? = some (ax_rv ρ v)
  | [], _, _, h => by cases h
  | x :: fs, 0, v, h => by cases h; rfl
  | x :: fs, k + 1, v, h => by simpa using ax_fn_map (fs := fs) h
theorem ax_fset_map {ρ : Nat → Nat} : ∀ {fs : List Value} {k : Nat} {v : Value}, (ax_fset fs k v).map (ax_rv ρ) = (fs.map (ax_rv ρ)).set k (ax_rv ρ v)
  | [], _, _ => by simp [ax_fset]
  | x :: fs, 0, v => by simp [ax_fset]
  | x :: fs, k + 1, v => by simp [ax_fset, ax_fset_map (fs := fs)]
/-- the words of all fields stand in the tables -/
theorem ax_clw : ∀ (c : Nat) (q : vw_C), vwCl[c]? = some q → ∀ w ∈ u_ws q.1 q.2.1 q.2.2, w ∈ ax_TB := by
  have h : ∀ q ∈ vwCl, ∀ w ∈ u_ws q.1 q.2.1 q.2.2, w ∈ ax_TB := by decide +kernel
  exact fun c q hq => h q (List.mem_of_getElem? hq)
theorem ax_clt : ∀ (c : Nat) (q : vw_C), vwCl[c]? = some q → ∃ ty : Nat → FieldType, ∀ k, k < q.2.2 → parseFieldDescriptor (q.2.1 k).2.2.1 = some (ty k) := by
  have h : ∀ q ∈ vwCl, ∀ k, k < q.2.2 → (parseFieldDescriptor (q.2.1 k).2.2.1).isSome = true := by decide +kernel
  intro c q hq
  refine ⟨fun k => (parseFieldDescriptor (q.2.1 k).2.2.1).getD .int, fun k hk => ?_⟩
  have h1 := h q (List.mem_of_getElem? hq) k hk
  cases hp : parseFieldDescriptor (q.2.1 k).2.2.1 with
  | none => rw [hp] at h1; cases h1
  | some t => show some t = some (Option.getD _ _); rw [hp]; rfl
theorem ax_cln : ∀ (c : Nat) (q : vw_C), vwCl[c]? = some q → ∀ a, a < q.2.2 → ∀ b, b < q.2.2 → a ≠ b → (q.2.1 a).2.1 ≠ (q.2.1 b).2.1 := by
  have h : ∀ q ∈ vwCl, ∀ a, a < q.2.2 → ∀ b, b < q.2.2 → a ≠ b → (q.2.1 a).2.1 ≠ (q.2.1 b).2.1 := by decide +kernel
  exact fun c q hq => h q (List.mem_of_getElem? hq)
theorem ax_P1 {H : Heap} {y : Nat} {ee : va_E} (h : ax_Rep D κ ρ w H) (hy : ax_nth w y = some ee) : va_P D vwCl [(ρ y, ax_rc κ ρ ee)] H := by
  intro k q hq
  have hz : k < 1 := (List.getElem?_eq_some_iff.mp hq).1
  rw [show k = 0 by omega] at hq
  cases hq
  exact h.1 y ee hy
theorem as_get (hC : ax_Cx G D κ ρ A M out p s m args meth cd) {i a b y : Nat} {q : vw_C} {fs : List Value} {v : Value} (hd : decode M.2.1 pc = .ok (.getfield i, 3)) (hq : vwCl[a]? = some q) (hb : b < q.2.2) (hw : Cond.fieldLink M.1.cls i (q.2.1 b).1 (q.2.1 b).2.1 (q.2.1 b).2.2.1 ∈ ax_TB) (hy : ax_nth w y = some (.inr (a, fs))) (hf : ax_fn fs b = some v) (k : ax_SW l D κ ρ A M out p e s m args below meth cd (pc + 3) ls (v :: st) w lg sl) : ax_SW l D κ ρ A M out p e s m args below meth cd pc ls (.ref y :: st) w lg sl := by
  intro H locs r hI
  exact va_get (C := q.1) (T := q.2.1) (N := q.2.2) hC.1 hC.2.1 hC.2.2.2.2.2.2.2.1 (ax_clw a q hq) hC.2.2.2.1 hC.2.2.2.2.2.2.2.2.1 (ax_P1 hI.2.1 hy) 0 rfl hq b hb (hC.2.2.2.2.2.2.2.1 _ hw) (fun _ h => h) (ax_fn_map hf) hd (k H locs r hI)
theorem ax_rest {H H1 : Heap} {locs locs1 : List Loc} {r : Array Slot} {w1 : ax_W} (hI : ax_Iv D κ ρ A M out s ls w lg sl H locs r) (h1 : ax_Rep D κ ρ w1 H1) (h2 : ax_In ρ A w1) (h3 : va_S A H H1 locs1) (h0 : ∀ q ∈ locs1, A q.base) : ax_Iv D κ ρ A M out s ls w1 lg sl H1 locs1 r := by
  obtain ⟨i1, i2, i3, i4, i5, i6⟩ := hI
  refine ⟨i1, h1, h2, ⟨Nat.le_trans i4.1 h3.1, fun q g1 g2 => ?_, h0⟩, Nat.le_trans i5 h3.1, i6⟩
  rw [h3.2.1 q (Nat.lt_of_lt_of_le g1 i4.1) g2]
  exact i4.2.1 q g1 g2
theorem ax_S0 {H : Heap} {locs : List Loc} {r : Array Slot} (hI : ax_Iv D κ ρ A M out s ls w lg sl H locs r) : va_S A H H locs := ⟨Nat.le_refl _, fun _ _ _ => rfl, hI.2.2.2.1.2.2⟩
theorem as_put (hC : ax_Cx G D κ ρ A M out p s m args meth cd) {i a b y : Nat} {q : vw_C} {fs : List Value} {v : Value} {ty : FieldType} (hd : decode M.2.1 pc = .ok (.putfield i, 3)) (hq : vwCl[a]? = some q) (hb : b < q.2.2) (hw : Cond.fieldLink M.1.cls i (q.2.1 b).1 (q.2.1 b).2.1 (q.2.1 b).2.2.1 ∈ ax_TB) (hty : parseFieldDescriptor (q.2.1 b).2.2.1 = some ty) (hn : ∀ ρ, narrow ty (ax_rv ρ v) = ax_rv ρ v) (hfit : ∀ ρ, fits ty (ax_rv ρ v) = true)
    (hfin : (q.2.1 b).2.2.2 = false ∨ ((q.2.1 b).2.2.2 = true ∧ M.1.name = "<init>" ∧ (q.2.1 b).1 = M.1.cls)) (hy : ax_nth w y = some (.inr (a, fs))) (hl : b < fs.length) (k : ax_SW l D κ ρ A M out p e s m args below meth cd (pc + 3) ls st (ax_set w y (some (.inr (a, ax_fset fs b v)))) lg sl) : ax_SW l D κ ρ A M out p e s m args below meth cd pc ls (v :: .ref y :: st) w lg sl := by
  intro H locs r hI
  obtain ⟨q0, hq0⟩ := ax_ws_at (κ := κ) (ρ := ρ) hy
  obtain ⟨ty0, hty0⟩ := ax_clt a q hq
  have hP := ax_ws_P hI.2.1
  have hD := ax_ws_D hI.2.1 hI.2.2.1
  have fin : ∀ (H1 : Heap) (locs1 : List Loc), va_P D vwCl ((ax_ws κ ρ 0 w).set q0 (ρ y, .inr (a, (fs.map (ax_rv ρ)).set b (ax_rv ρ v)))) H1 → va_D A ((ax_ws κ ρ 0 w).set q0 (ρ y, .inr (a, (fs.map (ax_rv ρ)).set b (ax_rv ρ v)))) → va_S A H H1 locs1 → W p l e (ax_Rm M out) s m args below meth cd H1 locs1 lg.length sl (MQ below (ax_Q D κ ρ A out) args s out.2.2.1.length out.2.2.2 A) (F0 m (pc + 3) r (st.map (ax_rv ρ))) := by
    intro H1 locs1 g1 g2 g3
    rw [← ax_fset_map] at g1
    exact k H1 locs1 r (ax_rest hI (ax_rep_set (e' := .inr (a, ax_fset fs b v)) hI.2.1 hy hq0 g1) (ax_in_set hI.2.2.1 (hI.2.2.1 y _ hy)) g3 g3.2.2)
  rcases hfin with hfin | ⟨hfin, hin, hcl⟩
  · exact va_put (C := q.1) (T := q.2.1) (N := q.2.2) hC.1 hC.2.1 hC.2.2.2.2.2.2.2.1 (ax_clw a q hq) ty0 hty0 (ax_cln a q hq) hC.2.2.2.1 hC.2.2.2.2.2.2.2.2.1 hP hD (ax_S0 hI) q0 hq0 hq b hb (hC.2.2.2.2.2.2.2.1 _ hw) (fun _ h => h) hfin hty (hn ρ) (hfit ρ) (by simpa using hl) hd fin
  · exact va_putF (C := q.1) (T := q.2.1) (N := q.2.2) hC.1 hC.2.1 hC.2.2.2.2.2.2.2.1 (ax_clw a q hq) ty0 hty0 (ax_cln a q hq) hC.2.2.2.1 hC.2.2.2.2.2.2.2.2.1 hP hD (ax_S0 hI) q0 hq0 hq b hb (hC.2.2.2.2.2.2.2.1 _ hw) (fun _ h => h) hfin (by rw [hC.2.2.2.2.2.2.1]; exact hin) hcl hty (hn ρ) (hfit ρ) (by simpa using hl) hd fin
theorem as_iald (hC : ax_Cx G D κ ρ A M out p s m args meth cd) {y n : Nat} {i : Int32} {f : Nat → Int32} (hd : decode M.2.1 pc = .ok (.iaload, 1)) (hy : ax_nth w y = some (.inl (0, n, .inl f))) (hi : vp_in i n) (k : ax_SW l D κ ρ A M out p e s m args below meth cd (pc + 1) ls (.int (f i.toNatClampNeg) :: st) w lg sl) : ax_SW l D κ ρ A M out p e s m args below meth cd pc ls (.int i :: .ref y :: st) w lg sl := by
  intro H locs r hI
  exact va_iald hC.1 hC.2.1 hC.2.2.2.2.2.2.2.2.1 (ax_P1 hI.2.1 hy) 0 0 rfl rfl hi hd (k H locs r hI)
theorem as_bald (hC : ax_Cx G D κ ρ A M out p s m args meth cd) {y n : Nat} {i : Int32} {f : Nat → Int32} (hd : decode M.2.1 pc = .ok (.baload, 1)) (hy : ax_nth w y = some (.inl (2, n, .inl f))) (hi : vp_in i n) (k : ax_SW l D κ ρ A M out p e s m args below meth cd (pc + 1) ls (.int (f i.toNatClampNeg) :: st) w lg sl) : ax_SW l D κ ρ A M out p e s m args below meth cd pc ls (.int i :: .ref y :: st) w lg sl := by
  intro H locs r hI
  exact va_bald hC.1 hC.2.1 hC.2.2.2.2.2.2.2.2.1 (ax_P1 hI.2.1 hy) 0 2 rfl rfl hi hd (k H locs r hI)
theorem as_zald (hC : ax_Cx G D κ ρ A M out p s m args meth cd) {y n : Nat} {i : Int32} {f : Nat → Int32} (hd : decode M.2.1 pc = .ok (.baload, 1)) (hy : ax_nth w y = some (.inl (3, n, .inl f))) (hi : vp_in i n) (k : ax_SW l D κ ρ A M out p e s m args below meth cd (pc + 1) ls (.int (f i.toNatClampNeg) :: st) w lg sl) : ax_SW l D κ ρ A M out p e s m args below meth cd pc ls (.int i :: .ref y :: st) w lg sl := by
  intro H locs r hI
  exact va_zald hC.1 hC.2.1 hC.2.2.2.2.2.2.2.2.1 (ax_P1 hI.2.1 hy) 0 3 rfl rfl hi hd (k H locs r hI)
theorem as_lald (hC : ax_Cx G D κ ρ A M out p s m args meth cd) {y n : Nat} {i : Int32} {f : Nat → Int64} (hd : decode M.2.1 pc = .ok (.laload, 1)) (hy : ax_nth w y = some (.inl (1, n, .inr (.inl f)))) (hi : vp_in i n) (k : ax_SW l D κ ρ A M out p e s m args below meth cd (pc + 1) ls (.long (f i.toNatClampNeg) :: st) w lg sl) : ax_SW l D κ ρ A M out p e s m args below meth cd pc ls (.int i :: .ref y :: st) w lg sl := by
  intro H locs r hI
  exact va_lald hC.1 hC.2.1 hC.2.2.2.2.2.2.2.2.1 (ax_P1 hI.2.1 hy) 0 1 rfl rfl hi hd (k H locs r hI)
theorem as_tald (hC : ax_Cx G D κ ρ A M out p s m args meth cd) {y n : Nat} {i : Int32} {f : Nat → Int32} (hd : decode M.2.1 pc = .ok (.iaload, 1)) (hy : G.1 y = some (n, f)) (hi : vp_in i n) (k : ax_SW l D κ ρ A M out p e s m args below meth cd (pc + 1) ls (.int (f i.toNatClampNeg) :: st) w lg sl) : ax_SW l D κ ρ A M out p e s m args below meth cd pc ls (.int i :: .ref y :: st) w lg sl := by
  intro H locs r hI
  exact va_ti hC.1 hC.2.1 (hC.2.2.2.2.2.2.2.2.2.1.2.2.1 y n f hy) hI.2.2.2.1 hi rfl hd (k H locs r hI)
theorem as_tlen (hC : ax_Cx G D κ ρ A M out p s m args meth cd) {y n : Nat} {f : Nat → Int32} (hd : decode M.2.1 pc = .ok (.arraylength, 1)) (hy : G.1 y = some (n, f)) (k : ax_SW l D κ ρ A M out p e s m args below meth cd (pc + 1) ls (.int (Int32.ofNat n) :: st) w lg sl) : ax_SW l D κ ρ A M out p e s m args below meth cd pc ls (.ref y :: st) w lg sl := by
  intro H locs r hI
  exact va_tlen hC.1 hC.2.1 (hC.2.2.2.2.2.2.2.2.2.1.2.2.1 y n f hy) hI.2.2.2.1 rfl hd (k H locs r hI)
theorem as_alen (hC : ax_Cx G D κ ρ A M out p s m args meth cd) {y n : Nat} {x : ax_X} (hd : decode M.2.1 pc = .ok (.arraylength, 1)) (hy : ax_nth w y = some (.inl (0, n, x))) (k : ax_SW l D κ ρ A M out p e s m args below meth cd (pc + 1) ls (.int (Int32.ofNat n) :: st) w lg sl) : ax_SW l D κ ρ A M out p e s m args below meth cd pc ls (.ref y :: st) w lg sl := by
  intro H locs r hI
  exact va_alen hC.1 hC.2.1 hC.2.2.2.2.2.2.2.2.1 (ax_P1 hI.2.1 hy) 0 0 (ty := .int) (x := (n, ax_rx ρ x)) rfl rfl rfl hd (k H locs r hI)
theorem as_alen1 (hC : ax_Cx G D κ ρ A M out p s m args meth cd) {y n : Nat} {x : ax_X} (hd : decode M.2.1 pc = .ok (.arraylength, 1)) (hy : ax_nth w y = some (.inl (1, n, x))) (k : ax_SW l D κ ρ A M out p e s m args below meth cd (pc + 1) ls (.int (Int32.ofNat n) :: st) w lg sl) : ax_SW l D κ ρ A M out p e s m args below meth cd pc ls (.ref y :: st) w lg sl := by
  intro H locs r hI
  exact va_alen hC.1 hC.2.1 hC.2.2.2.2.2.2.2.2.1 (ax_P1 hI.2.1 hy) 0 1 (ty := .long) (x := (n, ax_rx ρ x)) rfl rfl rfl hd (k H locs r hI)
theorem ax_tyat {κ : Nat → Nat} {k : Nat} (h4 : 4 ≤ k) : ∃ (t : Nat) (C : String), ax_ty k = .object C ∧ (k ≤ 6 → (ax_tys κ)[t]? = some (κ k, .object C)) := by
  by_cases h : k = 4
  · subst h; exact ⟨4, _, rfl, fun _ => rfl⟩
  · by_cases h : k = 5
    · subst h; exact ⟨5, _, rfl, fun _ => rfl⟩
    · refine ⟨6, "LeapLane$Game", ?_, fun h6 => ?_⟩
      · match k, h4 with
        | k + 6, _ => rfl
        | 4, _ => omega
        | 5, _ => omega
      · have : k = 6 := by omega
        subst this; rfl
theorem as_aald (hC : ax_Cx G D κ ρ A M out p s m args meth cd) {y n kd : Nat} {i : Int32} {f : Nat → Option Nat} (hd : decode M.2.1 pc = .ok (.aaload, 1)) (h4 : 4 ≤ kd ∧ kd ≤ 6) (hy : ax_nth w y = some (.inl (kd, n, .inr (.inr (.inr (.inr f)))))) (hi : vp_in i n) (k : ax_SW l D κ ρ A M out p e s m args below meth cd (pc + 1) ls (va_rf (f i.toNatClampNeg) :: st) w lg sl) : ax_SW l D κ ρ A M out p e s m args below meth cd pc ls (.int i :: .ref y :: st) w lg sl := by
  intro H locs r hI
  obtain ⟨t, C, h1, h2⟩ := ax_tyat (κ := κ) h4.1
  have h5 := k H locs r hI
  have e1 : ax_rv ρ (va_rf (f i.toNatClampNeg)) = va_rf ((fun i => (f i).map ρ) i.toNatClampNeg) := by
    cases hf : f i.toNatClampNeg <;> simp [va_rf, ax_rv, hf]
  rw [List.map_cons, e1] at h5
  exact va_aldq hC.1 hC.2.1 hC.2.2.2.2.2.2.2.2.1 (ax_P1 hI.2.1 hy) 0 t rfl (h2 h4.2) hi hd h5
theorem as_iast (hC : ax_Cx G D κ ρ A M out p s m args meth cd) {y n : Nat} {i : Int32} {x : Int32} {f : Nat → Int32} (hd : decode M.2.1 pc = .ok (.iastore, 1)) (hy : ax_nth w y = some (.inl (0, n, .inl f))) (hi : vp_in i n) (k : ax_SW l D κ ρ A M out p e s m args below meth cd (pc + 1) ls st (ax_set w y (some (.inl (0, n, .inl (upd f i.toNatClampNeg x))))) lg sl) : ax_SW l D κ ρ A M out p e s m args below meth cd pc ls (.int x :: .int i :: .ref y :: st) w lg sl := by
  intro H locs r hI
  obtain ⟨q0, hq0⟩ := ax_ws_at (κ := κ) (ρ := ρ) hy
  refine va_iast hC.1 hC.2.1 hC.2.2.2.2.2.2.2.2.1 (ax_ws_P hI.2.1) (ax_ws_D hI.2.1 hI.2.2.1) (ax_S0 hI) q0 0 hq0 rfl hi hd (fun H1 locs1 g1 g2 g3 => ?_)
  exact k H1 locs1 r (ax_rest hI (ax_rep_set (e' := .inl (0, n, .inl (upd f i.toNatClampNeg x))) hI.2.1 hy hq0 g1) (ax_in_set hI.2.2.1 (hI.2.2.1 y _ hy)) g3 g3.2.2)
theorem as_bast (hC : ax_Cx G D κ ρ A M out p s m args meth cd) {y n : Nat} {i : Int32} {x : Int32} {f : Nat → Int32} (hd : decode M.2.1 pc = .ok (.bastore, 1)) (hy : ax_nth w y = some (.inl (2, n, .inl f))) (hi : vp_in i n) (k : ax_SW l D κ ρ A M out p e s m args below meth cd (pc + 1) ls st (ax_set w y (some (.inl (2, n, .inl (upd f i.toNatClampNeg (vp_nar .byte x)))))) lg sl) : ax_SW l D κ ρ A M out p e s m args below meth cd pc ls (.int x :: .int i :: .ref y :: st) w lg sl := by
  intro H locs r hI
  obtain ⟨q0, hq0⟩ := ax_ws_at (κ := κ) (ρ := ρ) hy
  refine va_bast hC.1 hC.2.1 hC.2.2.2.2.2.2.2.2.1 (ax_ws_P hI.2.1) (ax_ws_D hI.2.1 hI.2.2.1) (ax_S0 hI) q0 2 hq0 rfl hi hd (fun H1 locs1 g1 g2 g3 => ?_)
  exact k H1 locs1 r (ax_rest hI (ax_rep_set (e' := .inl (2, n, .inl (upd f i.toNatClampNeg (vp_nar .byte x)))) hI.2.1 hy hq0 g1) (ax_in_set hI.2.2.1 (hI.2.2.1 y _ hy)) g3 g3.2.2)
theorem as_zast (hC : ax_Cx G D κ ρ A M out p s m args meth cd) {y n : Nat} {i : Int32} {x : Int32} {f : Nat → Int32} (hd : decode M.2.1 pc = .ok (.bastore, 1)) (hy : ax_nth w y = some (.inl (3, n, .inl f))) (hi : vp_in i n) (k : ax_SW l D κ ρ A M out p e s m args below meth cd (pc + 1) ls st (ax_set w y (some (.inl (3, n, .inl (upd f i.toNatClampNeg (vp_nar .boolean x)))))) lg sl) : ax_SW l D κ ρ A M out p e s m args below meth cd pc ls (.int x :: .int i :: .ref y :: st) w lg sl := by
  intro H locs r hI
  obtain ⟨q0, hq0⟩ := ax_ws_at (κ := κ) (ρ := ρ) hy
  refine va_zast hC.1 hC.2.1 hC.2.2.2.2.2.2.2.2.1 (ax_ws_P hI.2.1) (ax_ws_D hI.2.1 hI.2.2.1) (ax_S0 hI) q0 3 hq0 rfl hi hd (fun H1 locs1 g1 g2 g3 => ?_)
  exact k H1 locs1 r (ax_rest hI (ax_rep_set (e' := .inl (3, n, .inl (upd f i.toNatClampNeg (vp_nar .boolean x)))) hI.2.1 hy hq0 g1) (ax_in_set hI.2.2.1 (hI.2.2.1 y _ hy)) g3 g3.2.2)
theorem as_last (hC : ax_Cx G D κ ρ A M out p s m args meth cd) {y n : Nat} {i : Int32} {x : Int64} {f : Nat → Int64} (hd : decode M.2.1 pc = .ok (.lastore, 1)) (hy : ax_nth w y = some (.inl (1, n, .inr (.inl f)))) (hi : vp_in i n) (k : ax_SW l D κ ρ A M out p e s m args below meth cd (pc + 1) ls st (ax_set w y (some (.inl (1, n, .inr (.inl (vp_updL f i.toNatClampNeg x)))))) lg sl) : ax_SW l D κ ρ A M out p e s m args below meth cd pc ls (.long x :: .int i :: .ref y :: st) w lg sl := by
  intro H locs r hI
  obtain ⟨q0, hq0⟩ := ax_ws_at (κ := κ) (ρ := ρ) hy
  refine va_last hC.1 hC.2.1 hC.2.2.2.2.2.2.2.2.1 (ax_ws_P hI.2.1) (ax_ws_D hI.2.1 hI.2.2.1) (ax_S0 hI) q0 1 hq0 rfl hi hd (fun H1 locs1 g1 g2 g3 => ?_)
  exact k H1 locs1 r (ax_rest hI (ax_rep_set (e' := .inl (1, n, .inr (.inl (vp_updL f i.toNatClampNeg x)))) hI.2.1 hy hq0 g1) (ax_in_set hI.2.2.1 (hI.2.2.1 y _ hy)) g3 g3.2.2)
theorem as_aast (hC : ax_Cx G D κ ρ A M out p s m args meth cd) {y x n kd ci : Nat} {i : Int32} {f : Nat → Option Nat} {q : vw_C} {vs : List Value} (hd : decode M.2.1 pc = .ok (.aastore, 1)) (hq : vwCl[ci]? = some q) (h4 : 4 ≤ kd ∧ kd ≤ 6 ∧ ax_ty kd = .object q.1) (hy : ax_nth w y = some (.inl (kd, n, .inr (.inr (.inr (.inr f)))))) (hx : ax_nth w x = some (.inr (ci, vs))) (hi : vp_in i n) (k : ax_SW l D κ ρ A M out p e s m args below meth cd (pc + 1) ls st (ax_set w y (some (.inl (kd, n, .inr (.inr (.inr (.inr (va_up f i.toNatClampNeg (some x))))))))) lg sl) : ax_SW l D κ ρ A M out p e s m args below meth cd pc ls (.ref x :: .int i :: .ref y :: st) w lg sl := by
  intro H locs r hI
  obtain ⟨q0, hq0⟩ := ax_ws_at (κ := κ) (ρ := ρ) hy
  obtain ⟨q1, hq1⟩ := ax_ws_at (κ := κ) (ρ := ρ) hx
  obtain ⟨t, C, h1, h2⟩ := ax_tyat (κ := κ) h4.1
  have hCq : C = q.1 := by rw [h1] at h4; exact FieldType.object.inj h4.2.2
  subst hCq
  refine va_astq hC.1 hC.2.1 hC.2.2.2.2.2.2.2.2.1 (ax_ws_P hI.2.1) (ax_ws_D hI.2.1 hI.2.2.1) (ax_S0 hI) q0 t q1 ci hq0 (h2 h4.2.1) hq1 hq hi hd (fun H1 locs1 g1 g2 g3 => ?_)
  have e1 : va_up (fun i => (f i).map ρ) i.toNatClampNeg (some (ρ x)) = fun j => (va_up f i.toNatClampNeg (some x) j).map ρ := by
    funext j
    unfold va_up
    split <;> rfl
  rw [e1] at g1
  exact k H1 locs1 r (ax_rest hI (ax_rep_set (e' := .inl (kd, n, .inr (.inr (.inr (.inr (va_up f i.toNatClampNeg (some x))))))) hI.2.1 hy hq0 g1) (ax_in_set hI.2.2.1 (hI.2.2.1 y _ hy)) g3 g3.2.2)
end AXM
