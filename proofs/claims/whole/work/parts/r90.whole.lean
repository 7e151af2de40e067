/-! THE CLAIM OUT OF ONE WALK OF THE LAW'S BODY. Your part is whole_start (and what it stands on); all else here is the same for every law, but numbers. -/
theorem lw_rc : 10000 ≤ room_1.cells := by decide +kernel
theorem lw_rs : 3000000 ≤ room_1.slots := by decide +kernel
theorem lw_rf : 13 ≤ room_1.frames := by decide +kernel
theorem lw_rl : 333 ≤ room_1.locals := by decide +kernel
def R_law : String := "LeapLaneLaw"
def lw_P (b : Addr) (xs : List Int32) (args : Array Value) (s : State) : Prop := args = #[.ref b] ∧ s.IntsAt b xs ∧ xs.length ≤ 3072 ∧ (Jvm.Cond.and given_1 narrow_1).before args s = true
def lw_Q (_ : Array Value) (s : State) (o : Outcome) (t : State) : Prop := o = .returned (some (.int 1)) ∧ Framed s o t [] room_1.cells room_1.slots
def lw_Z (below : List Frame) (a : Array Value) (s : State) : State → Prop := fun t => ∃ o, t.status = .running ∧ Ended t below o ∧ lw_Q a s o t
/-- the law's own end, with 1 on the stack, nothing written that was there before, its room as the claim has it -/
theorem lw_ret {p : Program} {l : Launch} {e : Env} {s : State} {m : MethodId} {below : List Frame} {meth : Method} {c : Code} {b : Nat} (hx : p.tables.exec = Jvm.exec) (hb : c.code = code) (hr : meth.sig.returnType = ret) (hlocks : meth.locks = false) {pc : Nat} {H : Heap} {ls : Array Slot} (hdg : decode code pc = .ok (.ireturn, 1)) : W p l e room_1 s m #[Value.ref b] below meth c H [] room_1.cells room_1.slots (lw_Z below #[Value.ref b] s) (F0 m pc ls [.int 1]) := by
  intro T hT X
  obtain ⟨fs, hret, hrun, hended, hW, hframe⟩ := X.leave (v := some (.int 1)) (hlocks := hlocks) (fun h => by rw [hr] at h; cases h)
  have hmeth' : T.vm.method? m = some meth := X.method'
  refine ⟨T.setFrames fs, ?_, .returned (some (.int 1)), hrun, hended, rfl, ⟨_, rfl⟩, hW, hframe⟩
  jvm_step X.here [X.here.top, hx, hb, hdg, hmeth', hr, ret, narrow_b1]
  (try refine ⟨rfl, ?_⟩); (try refine ⟨rfl, ?_⟩)
  first | (intro acts; rw [hret _ acts rfl rfl rfl]) | rw [hret _ _ rfl rfl rfl]
  exact Steps.refl _
/-- what holds at the law's entry: the machine, the code, the tables' words (any of lw_tbl by 'hts w (by decide +kernel)'), the script of L ints xs at the cell b, what the Statement gives of the start (any of its parts by flat_of_before) -/
def lw_At (p : Program) (s : State) (m : MethodId) (meth : Method) (c : Code) (b L : Nat) (xs : Nat → Int32) : Prop :=
  p.tables.exec = Jvm.exec ∧ c.code = code ∧ meth.sig.returnType = ret ∧ c.maxLocals = 4 ∧ s.vm.findClass R_law = some m.cls ∧ (∀ w ∈ lw_tbl, w.before #[Value.ref b] s = true) ∧ va_X b L xs s s.heap ∧ b < s.heap.size ∧ meth.locks = false ∧ meth.name = "law" ∧ (Jvm.Cond.and given_1 narrow_1).before #[Value.ref b] s = true
-- the classes and the arrays' classes, as the tables have them
theorem sx_mem {w : Cond} (i : Nat) (h : lw_tbl[i]? = some w) : w ∈ lw_tbl := List.mem_of_getElem? h
theorem sx_u0 : ∀ w ∈ u_ws RX0 TX0 5, w ∈ lw_tbl := by decide +kernel
theorem sx_i0 : Cond.instantiable RX0 5 ∈ lw_tbl := sx_mem 301 (by decide +kernel)
theorem sx_u1 : ∀ w ∈ u_ws RX1 TX1 6, w ∈ lw_tbl := by decide +kernel
theorem sx_i1 : Cond.instantiable RX1 6 ∈ lw_tbl := sx_mem 255 (by decide +kernel)
theorem sx_u2 : ∀ w ∈ u_ws RX2 TX2 2, w ∈ lw_tbl := by decide +kernel
theorem sx_i2 : Cond.instantiable RX2 2 ∈ lw_tbl := sx_mem 190 (by decide +kernel)
theorem sx_u3 : ∀ w ∈ u_ws RX3 TX3 3, w ∈ lw_tbl := by decide +kernel
theorem sx_i3 : Cond.instantiable RX3 3 ∈ lw_tbl := sx_mem 335 (by decide +kernel)
theorem sx_u4 : ∀ w ∈ u_ws RX4 TX4 3, w ∈ lw_tbl := by decide +kernel
theorem sx_i4 : Cond.instantiable RX4 3 ∈ lw_tbl := sx_mem 374 (by decide +kernel)
theorem sx_u5 : ∀ w ∈ u_ws RX5 TX5 11, w ∈ lw_tbl := by decide +kernel
theorem sx_i5 : Cond.instantiable RX5 11 ∈ lw_tbl := sx_mem 831 (by decide +kernel)
theorem sx_u6 : ∀ w ∈ u_ws RX6 TX6 1, w ∈ lw_tbl := by decide +kernel
theorem sx_i6 : Cond.instantiable RX6 1 ∈ lw_tbl := sx_mem 646 (by decide +kernel)
theorem sx_u7 : ∀ w ∈ u_ws RX7 TX7 12, w ∈ lw_tbl := by decide +kernel
theorem sx_i7 : Cond.instantiable RX7 12 ∈ lw_tbl := sx_mem 203 (by decide +kernel)
theorem sx_u8 : ∀ w ∈ u_ws RX8 TX8 5, w ∈ lw_tbl := by decide +kernel
theorem sx_i8 : Cond.instantiable RX8 5 ∈ lw_tbl := sx_mem 249 (by decide +kernel)
theorem sx_u9 : ∀ w ∈ u_ws RX9 TX9 7, w ∈ lw_tbl := by decide +kernel
theorem sx_i9 : Cond.instantiable RX9 7 ∈ lw_tbl := sx_mem 154 (by decide +kernel)
theorem sx_u10 : ∀ w ∈ u_ws RX10 TX10 2, w ∈ lw_tbl := by decide +kernel
theorem sx_i10 : Cond.instantiable RX10 2 ∈ lw_tbl := sx_mem 393 (by decide +kernel)
theorem sx_u11 : ∀ w ∈ u_ws RX11 TX11 15, w ∈ lw_tbl := by decide +kernel
theorem sx_i11 : Cond.instantiable RX11 15 ∈ lw_tbl := sx_mem 146 (by decide +kernel)
theorem sx_u12 : ∀ w ∈ u_ws RX12 TX12 42, w ∈ lw_tbl := by decide +kernel
theorem sx_i12 : Cond.instantiable RX12 42 ∈ lw_tbl := sx_mem 1119 (by decide +kernel)
theorem sx_arr {args : Array Value} {s : State} {ty : FieldType} (h : (Cond.arrayClass ty).before args s = true) : ∃ cA, ArrOfT s cA ty ∧ s.vm.findClass ("[" ++ ty.toString) = some cA := by
  obtain ⟨c, k, comp, h1, h2, h3⟩ := Cond.arrayClass_spec h
  exact ⟨c, fun n z => ⟨fun k h => (by cases h), k, h2, comp, h3⟩, h1⟩
theorem sx_obj {args : Array Value} {s : State} {C : String} (h : (Cond.arrayOver (.object C)).before args s = true) : ∃ cA, ArrOfT s cA (.object C) ∧ va_RA s cA (.object C) := by
  obtain ⟨comp, c, k, h1, h2, h3, h4, h5⟩ := Cond.arrayOver_spec h
  exact ⟨c, fun n z => ⟨fun k h => (by cases h), k, h3, comp, h4⟩, k, comp, h3, h4, h1, h5⟩
def sx_k (a b c d e f g : Nat) : Nat → Nat := fun k => match k with
  | 0 => a
  | 1 => b
  | 2 => c
  | 3 => d
  | 4 => e
  | 5 => f
  | _ => g
theorem sx_K {args : Array Value} {s : State} (hts : ∀ w ∈ lw_tbl, w.before args s = true) : ∃ (D : va_G) (κ : Nat → Nat), va_K D vwCl (ax_tys κ) s := by
  obtain ⟨c0, i0, h0⟩ := u_known (C := RX0) (T := TX0) (N := 5) (n := 5) hts sx_u0 (hts _ sx_i0)
  obtain ⟨c1, i1, h1⟩ := u_known (C := RX1) (T := TX1) (N := 6) (n := 6) hts sx_u1 (hts _ sx_i1)
  obtain ⟨c2, i2, h2⟩ := u_known (C := RX2) (T := TX2) (N := 2) (n := 2) hts sx_u2 (hts _ sx_i2)
  obtain ⟨c3, i3, h3⟩ := u_known (C := RX3) (T := TX3) (N := 3) (n := 3) hts sx_u3 (hts _ sx_i3)
  obtain ⟨c4, i4, h4⟩ := u_known (C := RX4) (T := TX4) (N := 3) (n := 3) hts sx_u4 (hts _ sx_i4)
  obtain ⟨c5, i5, h5⟩ := u_known (C := RX5) (T := TX5) (N := 11) (n := 11) hts sx_u5 (hts _ sx_i5)
  obtain ⟨c6, i6, h6⟩ := u_known (C := RX6) (T := TX6) (N := 1) (n := 1) hts sx_u6 (hts _ sx_i6)
  obtain ⟨c7, i7, h7⟩ := u_known (C := RX7) (T := TX7) (N := 12) (n := 12) hts sx_u7 (hts _ sx_i7)
  obtain ⟨c8, i8, h8⟩ := u_known (C := RX8) (T := TX8) (N := 5) (n := 5) hts sx_u8 (hts _ sx_i8)
  obtain ⟨c9, i9, h9⟩ := u_known (C := RX9) (T := TX9) (N := 7) (n := 7) hts sx_u9 (hts _ sx_i9)
  obtain ⟨c10, i10, h10⟩ := u_known (C := RX10) (T := TX10) (N := 2) (n := 2) hts sx_u10 (hts _ sx_i10)
  obtain ⟨c11, i11, h11⟩ := u_known (C := RX11) (T := TX11) (N := 15) (n := 15) hts sx_u11 (hts _ sx_i11)
  obtain ⟨c12, i12, h12⟩ := u_known (C := RX12) (T := TX12) (N := 42) (n := 42) hts sx_u12 (hts _ sx_i12)
  obtain ⟨k0, a0, b0⟩ := sx_arr (ty := .int) (hts (Cond.arrayClass .int) (sx_mem 245 (by decide +kernel)))
  obtain ⟨k1, a1, b1⟩ := sx_arr (ty := .long) (hts (Cond.arrayClass .long) (sx_mem 405 (by decide +kernel)))
  obtain ⟨k2, a2, b2⟩ := sx_arr (ty := .byte) (hts (Cond.arrayClass .byte) (sx_mem 188 (by decide +kernel)))
  obtain ⟨k3, a3, b3⟩ := sx_arr (ty := .boolean) (hts (Cond.arrayClass .boolean) (sx_mem 1251 (by decide +kernel)))
  obtain ⟨k4, a4, b4⟩ := sx_obj (C := "LeapLane$Rule") (hts (Cond.arrayOver (.object "LeapLane$Rule")) (sx_mem 247 (by decide +kernel)))
  obtain ⟨k5, a5, b5⟩ := sx_obj (C := "LeapLane$State") (hts (Cond.arrayOver (.object "LeapLane$State")) (sx_mem 372 (by decide +kernel)))
  obtain ⟨k6, a6, b6⟩ := sx_obj (C := "LeapLane$Game") (hts (Cond.arrayOver (.object "LeapLane$Game")) (sx_mem 380 (by decide +kernel)))
  refine ⟨(fun k => match k with | 0 => c0 | 1 => c1 | 2 => c2 | 3 => c3 | 4 => c4 | 5 => c5 | 6 => c6 | 7 => c7 | 8 => c8 | 9 => c9 | 10 => c10 | 11 => c11 | _ => c12, fun k => match k with | 0 => i0 | 1 => i1 | 2 => i2 | 3 => i3 | 4 => i4 | 5 => i5 | 6 => i6 | 7 => i7 | 8 => i8 | 9 => i9 | 10 => i10 | 11 => i11 | _ => i12), sx_k k0 k1 k2 k3 k4 k5 k6, ?_, ?_⟩
  · intro c q hq
    match c, hq with
    | 0, hq => cases hq; exact h0
    | 1, hq => cases hq; exact h1
    | 2, hq => cases hq; exact h2
    | 3, hq => cases hq; exact h3
    | 4, hq => cases hq; exact h4
    | 5, hq => cases hq; exact h5
    | 6, hq => cases hq; exact h6
    | 7, hq => cases hq; exact h7
    | 8, hq => cases hq; exact h8
    | 9, hq => cases hq; exact h9
    | 10, hq => cases hq; exact h10
    | 11, hq => cases hq; exact h11
    | 12, hq => cases hq; exact h12
    | k + 13, hq => simp [vwCl] at hq
  · intro k q hq
    match k, hq with
    | 0, hq => cases hq; exact ⟨a0, b0⟩
    | 1, hq => cases hq; exact ⟨a1, b1⟩
    | 2, hq => cases hq; exact ⟨a2, b2⟩
    | 3, hq => cases hq; exact ⟨a3, b3⟩
    | 4, hq => cases hq; exact ⟨a4, b4⟩
    | 5, hq => cases hq; exact ⟨a5, b5⟩
    | 6, hq => cases hq; exact ⟨a6, b6⟩
    | k + 7, hq => simp [ax_tys] at hq
-- what stands outside
theorem sx_str : ∀ j, j < 19 → (flatC (Jvm.Cond.and given_1 narrow_1))[12 + j]? = some (Cond.eq (.elem (.static "LeapLane" "STRENGTHS" "[I") (.int (Int32.ofNat j))) (.int (ax_str j))) := by decide +kernel
theorem sx_fac : ∀ j, j < 8 → (flatC (Jvm.Cond.and given_1 narrow_1))[34 + j]? = some (Cond.eq (.elem (.static "LeapLane" "FACTORIALS" "[I") (.int (Int32.ofNat j))) (.int (ax_fac j))) := by decide +kernel
theorem sx_txt : ∀ j, j < 90 → (flatC (Jvm.Cond.and given_1 narrow_1))[85 + j]? = some (Cond.eq (.elem (Term.field (Term.string "LeapLane$Tape" 47) "java/lang/String" "value" "[B") (.int (Int32.ofNat j))) (.int (ax_txb.getD j 0))) := by decide +kernel
theorem sx_fl {w : Cond} (i : Nat) (h : (flatC (Jvm.Cond.and given_1 narrow_1))[i]? = some w) : w ∈ flatC (Jvm.Cond.and given_1 narrow_1) := List.mem_of_getElem? h
def sx_ix : List Nat → Nat → Nat
  | [], _ => 0
  | x :: l, a => if a = x then 0 else sx_ix l a + 1
theorem sx_ix_at : ∀ {l : List Nat} {i a : Nat}, l.Nodup → l[i]? = some a → sx_ix l a = i
  | [], i, a, _, h => by simp at h
  | x :: l, 0, a, _, h => by
    have h : x = a := by simpa using h
    subst h
    exact if_pos rfl
  | x :: l, i + 1, a, hn, h => by
    have h : l[i]? = some a := by simpa using h
    have hx : a ≠ x := fun e => by
      subst e
      exact (List.nodup_cons.mp hn).1 (List.mem_of_getElem? h)
    show (if a = x then 0 else sx_ix l a + 1) = i + 1
    rw [if_neg hx, sx_ix_at (List.nodup_cons.mp hn).2 h]
/-- the naming: five names of what stands outside, the others as they are made -/
def sx_r (t0 t1 t2 t3 t4 sz : Nat) (lg : List Nat) : Nat → Nat := fun k => if k < 900 then sz + sx_ix lg k else match k with
  | 900 => t0
  | 901 => t1
  | 902 => t2
  | 903 => t3
  | _ => t4
theorem sx_room {s : State} {pl : Platform} {R R' : Room} (h : s.hasRoom pl R = true) (h1 : R'.frames ≤ R.frames) (h2 : R'.cells ≤ R.cells) (h3 : R'.slots ≤ R.slots) (h4 : R'.locals ≤ R.locals) : s.hasRoom pl R' = true := by
  simp only [State.hasRoom, Bool.and_eq_true, decide_eq_true_eq] at h ⊢
  obtain ⟨⟨⟨⟨g1, g2, g3, g4, g5, g6⟩, g7⟩, g8⟩, g9⟩ := h
  exact ⟨⟨⟨⟨by omega, by omega, by omega, by omega, by omega, g6⟩, by omega⟩, by omega⟩, g9⟩
set_option maxRecDepth 100000 in
set_option maxHeartbeats 4000000 in
/-- from the entry, for every script of at most 3072 ints, the law comes to its end with true -/
theorem whole_start {p : Program} {e : Env} {s : State} {m : MethodId} {below : List Frame} {meth : Method} {c : Code} (l : Launch) {b L : Nat} {xs : Nat → Int32} (hL : L ≤ 3072) (C0 : lw_At p s m meth c b L xs) : W p l e room_1 s m #[Value.ref b] below meth c s.heap [] 0 0 (lw_Z below #[Value.ref b] s) (entryFrame m ([Value.ref b] : List Value).toArray 4) := by
  obtain ⟨hx, hb, hr, hml, hown, hts, hX, hbl, hlocks, hname, hgv⟩ := C0
  have hs := flat_of_before _ hgv
  have hnA : ∀ a : Nat, a < s.heap.size → ¬ (fun q : Nat => s.heap.size ≤ q) a := fun a h => Nat.not_le.mpr h
  obtain ⟨D, κ, hK⟩ := sx_K hts
  obtain ⟨t0, ht0, hT0⟩ := va_Tof (f := fun j => .int (ax_fac j)) (A := fun q : Nat => s.heap.size ≤ q) (N := 8) (by decide) (hs (Cond.arrayOf (.static "LeapLane" "FACTORIALS" "[I") .int) (sx_fl 32 (by decide +kernel))) (va_eqt (hs (Cond.eq (.length (.static "LeapLane" "FACTORIALS" "[I")) (.int (Int32.ofNat 8))) (sx_fl 33 (by decide +kernel)))) (fun j hj => va_eqt (hs _ (sx_fl _ (sx_fac j hj)))) hnA
  obtain ⟨t1, ht1, hT1⟩ := va_Tof (f := fun j => .int (ax_str j)) (A := fun q : Nat => s.heap.size ≤ q) (N := 19) (by decide) (hs (Cond.arrayOf (.static "LeapLane" "STRENGTHS" "[I") .int) (sx_fl 10 (by decide +kernel))) (va_eqt (hs (Cond.eq (.length (.static "LeapLane" "STRENGTHS" "[I")) (.int (Int32.ofNat 19))) (sx_fl 11 (by decide +kernel)))) (fun j hj => va_eqt (hs _ (sx_fl _ (sx_str j hj)))) hnA
  have hZ0 := va_Zof (hts (Cond.laysStatic "LeapLane" "FACTORIALS" "[I") (sx_mem 895 (by decide +kernel))) (hts (Cond.initialized "LeapLane") (sx_mem 124 (by decide +kernel))) ht0 hnA
  have hZ1 := va_Zof (hts (Cond.laysStatic "LeapLane" "STRENGTHS" "[I") (sx_mem 617 (by decide +kernel))) (hts (Cond.initialized "LeapLane") (sx_mem 124 (by decide +kernel))) ht1 hnA
  obtain ⟨adK, adV, hSt, hSe⟩ := vk_Sof (args := #[Value.ref b]) (s := s) (N := 1) (tm := fun _ => (Term.string "LeapLane$Tape" 47)) (len := [90]) (byt := [ax_txb]) (A := fun q : Nat => s.heap.size ≤ q) (fun i hi => by rw [show i = 0 by omega]; decide) (fun i hi => by show (Cond.exactly (Term.string "LeapLane$Tape" 47) "java/lang/String").before _ _ = true; exact hs _ (sx_fl 81 (by decide +kernel))) (fun i hi => by show (Cond.eq (.field (Term.string "LeapLane$Tape" 47) "java/lang/String" "coder" "B") (.int 0)).before _ _ = true; exact hs _ (sx_fl 82 (by decide +kernel))) (fun i hi => by show (Cond.arrayOf (Term.field (Term.string "LeapLane$Tape" 47) "java/lang/String" "value" "[B") .byte).before _ _ = true; exact hs _ (sx_fl 83 (by decide +kernel))) (fun i hi => by rw [show i = 0 by omega]; show (Cond.eq (.length (Term.field (Term.string "LeapLane$Tape" 47) "java/lang/String" "value" "[B")) (.int (Int32.ofNat 90))).before _ _ = true; exact hs _ (sx_fl 84 (by decide +kernel))) (fun i hi j hj => by
    have h0 : i = 0 := by omega
    subst h0
    show (Cond.eq (.elem (Term.field (Term.string "LeapLane$Tape" 47) "java/lang/String" "value" "[B") (.int (Int32.ofNat j))) (.int (ax_txb.getD j 0))).before _ _ = true
    exact hs _ (sx_fl _ (sx_txt j hj))) (fun i j hi hj hij => absurd (show i = j by omega) hij) hnA
  have hR := vk_R.of (A := #[Value.ref b]) (hts (Cond.stringRef "LeapLane$Tape" 47 ax_tx) (sx_mem 495 (by decide +kernel))) (hSe 0 (by decide))
  have hZc := va_Zof (hts (Cond.laysStatic "java/lang/String" "COMPACT_STRINGS" "Z") (sx_mem 505 (by decide +kernel))) (hts (Cond.initialized "java/lang/String") (sx_mem 135 (by decide +kernel))) (va_eqt (hs (Cond.eq (.static "java/lang/String" "COMPACT_STRINGS" "Z") (.int 1)) (sx_fl 4 (by decide +kernel)))) hnA
  have hZq := va_Zqof (A := fun q : Nat => s.heap.size ≤ q) (hts (Cond.laysStatic "jdk/internal/util/Preconditions" "SIOOBE_FORMATTER" "Ljava/util/function/BiFunction;") (sx_mem 513 (by decide +kernel))) (hts (Cond.initialized "jdk/internal/util/Preconditions") (sx_mem 137 (by decide +kernel))) (hs _ (sx_fl 5 (by decide +kernel))) hnA
  have hT3 : va_T .int b L (fun i => .int (xs i)) (fun q : Nat => s.heap.size ≤ q) s s.heap := by
    obtain ⟨scr, h1, h2, h3, h4, h5⟩ := hX
    exact ⟨scr, h1, h2, h3, Nat.le_of_eq h4.symm, by rw [h4], h5, Nat.not_le.mpr hbl⟩
  obtain ⟨n, out, hrun, hPL⟩ := law_runs (Z := (L, xs)) hL
  obtain ⟨p1, p2, p3, p4, p5⟩ := hPL
  have hF : ax_F (ax_GG (L, xs)) (sx_r t0 t1 (adK 0) b (adV 0) s.heap.size out.2.2.1) (fun q : Nat => s.heap.size ≤ q) s s.heap := by
    refine ⟨hZ0, hZ1, ?_, hR, ?_, hZc, hZq⟩
    · intro k n f hk
      have hk : ax_so (L, xs) k = some (n, f) := hk
      unfold ax_so at hk
      split at hk
      · cases hk; exact hT0
      · cases hk; exact hT1
      · cases hk; exact hT3
      · cases hk
    · refine ⟨fun i hi => ?_, fun i j hi hj _ => by omega⟩
      have h0 : i = 0 := by omega
      subst h0
      exact hSt.1 0 hi
  have hpro : ∀ i a, out.2.2.1[i]? = some a → sx_r t0 t1 (adK 0) b (adV 0) s.heap.size out.2.2.1 a = s.heap.size + i := by
    intro i a h
    have h9 := p5 a (List.mem_of_getElem? h)
    show (if a < 900 then _ else _) = _
    rw [if_pos h9, sx_ix_at p2 h]
  have hC : bx_Cx (ax_GG (L, xs)) D κ (sx_r t0 t1 (adK 0) b (adV 0) s.heap.size out.2.2.1) (fun q : Nat => s.heap.size ≤ q) m_L_law out p s m #[Value.ref b] meth c := ⟨hx, hb, hml, hown, hr, hlocks, hname, fun w hw => hts w (bx_TB_in w hw), hK, hF, fun q h => h, hpro⟩
  have hM : m_L_law ∈ (ax_GG (L, xs)).2.2.2 := List.mem_of_getElem? (i := 270) rfl
  have hk := ax_run_keep hrun
  have hw : ∀ k e, ax_nth (nn 239) k ≠ some e := fun k e h => by rw [nth_nn] at h; cases h
  have hW := bx_snd (l := l) (bx_vd (L, xs)) n m_L_law hM _ out hrun D κ (sx_r t0 t1 (adK 0) b (adV 0) s.heap.size out.2.2.1) (fun q : Nat => s.heap.size ≤ q) p e s m #[Value.ref b] below meth c hC s.heap [] _ ⟨ax_ent_Ls (vs := [.ref 903]) (n := 4) (by decide), ⟨fun k e h => absurd h (hw k e), fun i j e f h => absurd h (hw i e)⟩, fun k e h => absurd h (hw k e), va_S.rf, Nat.le_refl _, hk.1, hk.2.1⟩
  rw [lg_entry_eq]
  intro T hT X
  obtain ⟨t, a1, o, b1, b2, b3, Lc, ⟨f1, f2, f3⟩, b5⟩ := hW T hT { X with room := sx_room X.room lw_rf (Nat.le_trans p3 lw_rc) (Nat.le_trans p4 lw_rs) lw_rl }
  refine ⟨t, a1, o, b1, b2, ?_, f1, f2, f3.weaken (fun y hy hlt => absurd (b5 y hy) (Nat.not_le.mpr hlt)) (by have := lw_rc; omega) (by have := lw_rs; omega)⟩
  have h := b3.1
  rw [p1] at h
  exact h
set_option maxHeartbeats 4000000 in
theorem lw_walk (l : Launch) (b : Addr) (xs : List Int32) : MetFree l x (headSpec (Jvm.Cond.code x code maxLocals ret :: tables_1) room_1) (lw_P b xs) (fun _ _ _ _ _ => True) lw_Q := by
  refine MetFree.of_bodyS (code := code) (maxLocals := maxLocals) (ret := ret) (by decide) ?_ ?_
  · intro args s m h hn
    obtain ⟨meth, c, h1, h2, h3, h4, h5, h6, -, -⟩ := Cond.code_spec hn (atoms_spec (ws := Jvm.Cond.code x code maxLocals ret :: tables_1) h _ List.mem_cons_self)
    exact ⟨meth, c, h1, h2, h3, h4, h5, h6⟩
  · intro p e s m args below meth c s₁ B hml0 hP _
    obtain ⟨rfl, hx, hbd, hgv⟩ := hP
    obtain ⟨scr, harrAt, hlist, hof, hsmall⟩ := hx
    obtain ⟨hcb, hkn, -, -⟩ := State.arrayAt?_spec harrAt
    have hown : s.vm.findClass R_law = some m.cls := findClass_of_methodNamed B.named
    have hts0 : ∀ c ∈ (Jvm.Cond.code x code maxLocals ret :: tables_1), c.before #[Value.ref b] s = true := atoms_spec (ws := Jvm.Cond.code x code maxLocals ret :: tables_1) B.pre
    have hts : ∀ w ∈ lw_tbl, w.before #[Value.ref b] s = true := k2_hts_sels lw_privs (fun w hw => hts0 w (List.mem_cons_of_mem _ hw)) lw_privs_ok
    have hml : c.maxLocals = 4 := B.maxLocals_eq (hts0 _ List.mem_cons_self)
    have X₀ : Stand p l e room_1 s m #[Value.ref b] below meth c s₁ [] 0 0 := Stand.of_body B
    have hh0 : s₁.heap = s.heap := by rw [B.state]; rfl
    have hsz : scr.slots.size = xs.length := by rw [← Array.length_toList, hlist, List.length_map]
    have hval : ∀ j : Nat, j < xs.length → scr.slots[j]? = some (.int (xs.getD j 0)) := fun j hj => by
      rw [← Array.getElem?_toList, hlist]
      simp [hj]
    have hbl : b < s.heap.size := (Array.getElem?_eq_some_iff.mp hcb).1
    have hX : va_X b xs.length (fun j => xs.getD j 0) s s.heap := ⟨scr, hcb, hof, hkn, hsz, hval⟩
    have K : W p l e room_1 s m #[Value.ref b] below meth c s₁.heap [] 0 0 (lw_Z below #[Value.ref b] s) (entryFrame m ([Value.ref b] : List Value).toArray 4) := by
      rw [hh0]
      exact whole_start l hbd ⟨B.exec, B.bytes, B.returns, hml, hown, hts, hX, hbl, B.notSynchronized, (name_of_methodNamed B.named B.method).1, hgv⟩
    obtain ⟨t, a1, o, b1, b2, b3⟩ := K s₁ rfl X₀
    exact ⟨t, o, a1, b1, b2, b3⟩
theorem lw_pre_spec {args : Array Value} {s : State} (h : (Jvm.Cond.and given_1 narrow_1).before args s = true) (hr : rest_1_c.before args s = true) : ∃ (b : Addr) (xs : List Int32), lw_P b xs args s := by
  have hs := flat_of_before _ h
  have hq := flat_of_before _ hr
  have hc : (Cond.count 1).before args s = true := hs _ (by decide +kernel)
  have harr : (Cond.arrayOf (.arg 0) .int).before args s = true := hs _ (by decide +kernel)
  have hle : (Cond.le (.length (.arg 0)) (.int 3072)).before args s = true := hs _ (by decide +kernel)
  have hlen : (Cond.isInt (.length (.arg 0))).before args s = true := hq _ (by decide +kernel)
  have hall : (Cond.all (.arg 0) (.isInt (.elem (.arg 0) (.index 0)))).before args s = true := hq _ (by decide +kernel)
  obtain ⟨b, xs, hb, hx⟩ := State.ints_of_pre rfl harr hlen hall
  have hsm : xs.length < 2 ^ 31 := hx.choose_spec.2.2.2
  have hev : (Term.length (.arg 0)).eval args s none [] s = some (.int xs.length.toInt32) := hx.length_eval hb
  have hv := Cond.le_ints hev (show (Term.int 3072).eval args s none [] s = some (.int 3072) from rfl)
  have hd : xs.length.toInt32 ≤ 3072 := by
    simpa [Cond.before, Cond.holds, hv] using hle
  have hN : xs.length ≤ 3072 := (Int32.ofNat_le_ofNat hsm (by decide)).mp (show Int32.ofNat xs.length ≤ Int32.ofNat 3072 from hd)
  exact ⟨b, xs, Cond.one_arg hc (show args[0]? = some (.ref b) from hb), hx, hN, h⟩
theorem lw_comes (l : Launch) : Comes l x (Jvm.Cond.code x code maxLocals ret :: tables_1) room_1 (fun tb e args s => Calls_1 tb e args s ∧ rest_1 tb e args s ∧ Pre_1 tb e args s)
    (fun _ _ args s o t => lw_Q args s o t) := by
  intro p e ha hc hk s m args below hf hfit hheap happ hpre
  obtain ⟨b, xs, hP⟩ := lw_pre_spec hpre.2.2 hpre.2.1
  obtain ⟨k, o, h1, h2, h3, hQ⟩ := lw_walk l b xs p e ha hc hk s m args below hf ((Spec.applies_iff_loose hf).mp happ).1 hP trivial
  exact ⟨k, o, h1, h2, h3, hQ⟩
theorem lw_frame {s t : State} {o : Outcome} {args : Array Value} (h : Framed s o t [] room_1.cells room_1.slots) :
    Framed s o t (fieldLocs frame_1_writes args s ++ arrayLocs frame_1_arrays args s ++ staticLocs frame_1_statics s) room_1.cells room_1.slots := h
theorem lw_limb (L : Cond) (hL : ∀ (args : Array Value) (s t : State), L.after args s (.returned (some (.int 1))) t = true) :
    ArmFor flags0 classFile x code maxLocals ret World_1 tables_1 room_1 Calls_1 rest_1 Pre_1
      (fun tb e a s o t => postC L tb e a s o t ∧ Framed s o t (fieldLocs frame_1_writes a s ++ arrayLocs frame_1_arrays a s ++ staticLocs frame_1_statics s) room_1.cells room_1.slots) := by
  intro l _ _ _ p e ha hc hk s m args below hf hfit hheap happ hpre
  obtain ⟨k, o, h1, h2, h3, rfl, hF⟩ := lw_comes l p e ha hc hk s m args below hf hfit hheap happ hpre
  exact ⟨k, _, h1, h2, h3, hL args s _, lw_frame hF⟩
theorem i_vc : Claimed_1_1 ∧ Claimed_1_2 := ⟨lw_limb limb_1_1 (fun args s t => by simp [limb_1_1, Cond.after, Cond.holds, Cond.value]), lw_limb limb_1_2 (fun args s t => Cond.after_iff.mpr (by
  first | (rw [show limb_1_2 = Cond.eq .result (.int 1) from rfl, Cond.eq_ints (x := 1) (y := 1) rfl rfl]; simp; done) | (simp [limb_1_2, Cond.value, Term.eval]; done)))⟩
