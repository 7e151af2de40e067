section AXI
variable {l : Launch} {G : ax_G} {D : va_G} {κ ρ : Nat → Nat} {A : Nat → Prop} {M : ax_M} {out : ax_E} {p : Program} {e : Env} {s : State} {m : MethodId} {args : Array Value} {below : List Frame} {meth : Method} {cd : Code} {pc : Nat} {ls : ax_L} {st : List Value} {w : ax_W} {lg : List Nat} {sl : Nat}
theorem bs_iadd (hC : bx_Cx G D κ ρ A M out p s m args meth cd) {x y : Int32} (hd : decode M.2.1 pc = .ok (.iadd, 1))  (k : ax_SW l D κ ρ A M out p e s m args below meth cd (pc + 1) ls (.int (x + y) :: st) w lg sl) : ax_SW l D κ ρ A M out p e s m args below meth cd pc ls (.int y :: .int x :: st) w lg sl := by
  intro H locs r hI
  exact lv_iadd hC.1 hC.2.1 hd (k H locs r hI)
theorem bs_isub (hC : bx_Cx G D κ ρ A M out p s m args meth cd) {x y : Int32} (hd : decode M.2.1 pc = .ok (.isub, 1))  (k : ax_SW l D κ ρ A M out p e s m args below meth cd (pc + 1) ls (.int (x - y) :: st) w lg sl) : ax_SW l D κ ρ A M out p e s m args below meth cd pc ls (.int y :: .int x :: st) w lg sl := by
  intro H locs r hI
  exact lv_isub hC.1 hC.2.1 hd (k H locs r hI)
theorem bs_imul (hC : bx_Cx G D κ ρ A M out p s m args meth cd) {x y : Int32} (hd : decode M.2.1 pc = .ok (.imul, 1))  (k : ax_SW l D κ ρ A M out p e s m args below meth cd (pc + 1) ls (.int (x * y) :: st) w lg sl) : ax_SW l D κ ρ A M out p e s m args below meth cd pc ls (.int y :: .int x :: st) w lg sl := by
  intro H locs r hI
  exact lv_imul hC.1 hC.2.1 hd (k H locs r hI)
theorem bs_iand (hC : bx_Cx G D κ ρ A M out p s m args meth cd) {x y : Int32} (hd : decode M.2.1 pc = .ok (.iand, 1))  (k : ax_SW l D κ ρ A M out p e s m args below meth cd (pc + 1) ls (.int (x &&& y) :: st) w lg sl) : ax_SW l D κ ρ A M out p e s m args below meth cd pc ls (.int y :: .int x :: st) w lg sl := by
  intro H locs r hI
  exact lv_iand hC.1 hC.2.1 hd (k H locs r hI)
theorem bs_ior (hC : bx_Cx G D κ ρ A M out p s m args meth cd) {x y : Int32} (hd : decode M.2.1 pc = .ok (.ior, 1))  (k : ax_SW l D κ ρ A M out p e s m args below meth cd (pc + 1) ls (.int (x ||| y) :: st) w lg sl) : ax_SW l D κ ρ A M out p e s m args below meth cd pc ls (.int y :: .int x :: st) w lg sl := by
  intro H locs r hI
  exact lv_ior hC.1 hC.2.1 hd (k H locs r hI)
theorem bs_ixor (hC : bx_Cx G D κ ρ A M out p s m args meth cd) {x y : Int32} (hd : decode M.2.1 pc = .ok (.ixor, 1))  (k : ax_SW l D κ ρ A M out p e s m args below meth cd (pc + 1) ls (.int (x ^^^ y) :: st) w lg sl) : ax_SW l D κ ρ A M out p e s m args below meth cd pc ls (.int y :: .int x :: st) w lg sl := by
  intro H locs r hI
  exact lv_ixor hC.1 hC.2.1 hd (k H locs r hI)
theorem bs_ishl (hC : bx_Cx G D κ ρ A M out p s m args meth cd) {x y : Int32} (hd : decode M.2.1 pc = .ok (.ishl, 1))  (k : ax_SW l D κ ρ A M out p e s m args below meth cd (pc + 1) ls (.int (x <<< (y &&& 31)) :: st) w lg sl) : ax_SW l D κ ρ A M out p e s m args below meth cd pc ls (.int y :: .int x :: st) w lg sl := by
  intro H locs r hI
  exact lv_ishl hC.1 hC.2.1 hd (k H locs r hI)
theorem bs_ishr (hC : bx_Cx G D κ ρ A M out p s m args meth cd) {x y : Int32} (hd : decode M.2.1 pc = .ok (.ishr, 1))  (k : ax_SW l D κ ρ A M out p e s m args below meth cd (pc + 1) ls (.int (x >>> (y &&& 31)) :: st) w lg sl) : ax_SW l D κ ρ A M out p e s m args below meth cd pc ls (.int y :: .int x :: st) w lg sl := by
  intro H locs r hI
  exact lv_ishr hC.1 hC.2.1 hd (k H locs r hI)
theorem bs_iushr (hC : bx_Cx G D κ ρ A M out p s m args meth cd) {x y : Int32} (hd : decode M.2.1 pc = .ok (.iushr, 1))  (k : ax_SW l D κ ρ A M out p e s m args below meth cd (pc + 1) ls (.int ((x.toUInt32 >>> (y.toUInt32 &&& Int32.toUInt32 31)).toInt32) :: st) w lg sl) : ax_SW l D κ ρ A M out p e s m args below meth cd pc ls (.int y :: .int x :: st) w lg sl := by
  intro H locs r hI
  exact lv_iushr hC.1 hC.2.1 hd rfl (k H locs r hI)
theorem bs_idiv (hC : bx_Cx G D κ ρ A M out p s m args meth cd) {x y : Int32} (hd : decode M.2.1 pc = .ok (.idiv, 1)) (hg : ¬ y = 0) (k : ax_SW l D κ ρ A M out p e s m args below meth cd (pc + 1) ls (.int (x / y) :: st) w lg sl) : ax_SW l D κ ρ A M out p e s m args below meth cd pc ls (.int y :: .int x :: st) w lg sl := by
  intro H locs r hI
  exact lv_idiv hC.1 hC.2.1 hd hg (k H locs r hI)
theorem bs_irem (hC : bx_Cx G D κ ρ A M out p s m args meth cd) {x y : Int32} (hd : decode M.2.1 pc = .ok (.irem, 1)) (hg : ¬ y = 0) (k : ax_SW l D κ ρ A M out p e s m args below meth cd (pc + 1) ls (.int (x - x / y * y) :: st) w lg sl) : ax_SW l D κ ρ A M out p e s m args below meth cd pc ls (.int y :: .int x :: st) w lg sl := by
  intro H locs r hI
  exact lv_irem hC.1 hC.2.1 hd hg (k H locs r hI)
theorem bs_ladd (hC : bx_Cx G D κ ρ A M out p s m args meth cd) {x y : Int64} (hd : decode M.2.1 pc = .ok (.ladd, 1))  (k : ax_SW l D κ ρ A M out p e s m args below meth cd (pc + 1) ls (.long (x + y) :: st) w lg sl) : ax_SW l D κ ρ A M out p e s m args below meth cd pc ls (.long y :: .long x :: st) w lg sl := by
  intro H locs r hI
  exact lv_ladd hC.1 hC.2.1 hd (k H locs r hI)
theorem bs_lsub (hC : bx_Cx G D κ ρ A M out p s m args meth cd) {x y : Int64} (hd : decode M.2.1 pc = .ok (.lsub, 1))  (k : ax_SW l D κ ρ A M out p e s m args below meth cd (pc + 1) ls (.long (x - y) :: st) w lg sl) : ax_SW l D κ ρ A M out p e s m args below meth cd pc ls (.long y :: .long x :: st) w lg sl := by
  intro H locs r hI
  exact lv_lsub hC.1 hC.2.1 hd (k H locs r hI)
theorem bs_lmul (hC : bx_Cx G D κ ρ A M out p s m args meth cd) {x y : Int64} (hd : decode M.2.1 pc = .ok (.lmul, 1))  (k : ax_SW l D κ ρ A M out p e s m args below meth cd (pc + 1) ls (.long (x * y) :: st) w lg sl) : ax_SW l D κ ρ A M out p e s m args below meth cd pc ls (.long y :: .long x :: st) w lg sl := by
  intro H locs r hI
  exact lv_lmul hC.1 hC.2.1 hd (k H locs r hI)
theorem bs_land (hC : bx_Cx G D κ ρ A M out p s m args meth cd) {x y : Int64} (hd : decode M.2.1 pc = .ok (.land, 1))  (k : ax_SW l D κ ρ A M out p e s m args below meth cd (pc + 1) ls (.long (x &&& y) :: st) w lg sl) : ax_SW l D κ ρ A M out p e s m args below meth cd pc ls (.long y :: .long x :: st) w lg sl := by
  intro H locs r hI
  exact lv_land hC.1 hC.2.1 hd (k H locs r hI)
theorem bs_lor (hC : bx_Cx G D κ ρ A M out p s m args meth cd) {x y : Int64} (hd : decode M.2.1 pc = .ok (.lor, 1))  (k : ax_SW l D κ ρ A M out p e s m args below meth cd (pc + 1) ls (.long (x ||| y) :: st) w lg sl) : ax_SW l D κ ρ A M out p e s m args below meth cd pc ls (.long y :: .long x :: st) w lg sl := by
  intro H locs r hI
  exact lv_lor hC.1 hC.2.1 hd (k H locs r hI)
theorem bs_lxor (hC : bx_Cx G D κ ρ A M out p s m args meth cd) {x y : Int64} (hd : decode M.2.1 pc = .ok (.lxor, 1))  (k : ax_SW l D κ ρ A M out p e s m args below meth cd (pc + 1) ls (.long (x ^^^ y) :: st) w lg sl) : ax_SW l D κ ρ A M out p e s m args below meth cd pc ls (.long y :: .long x :: st) w lg sl := by
  intro H locs r hI
  exact lv_lxor hC.1 hC.2.1 hd (k H locs r hI)
theorem bs_ldiv (hC : bx_Cx G D κ ρ A M out p s m args meth cd) {x y : Int64} (hd : decode M.2.1 pc = .ok (.ldiv, 1)) (hg : ¬ y = 0) (k : ax_SW l D κ ρ A M out p e s m args below meth cd (pc + 1) ls (.long (x / y) :: st) w lg sl) : ax_SW l D κ ρ A M out p e s m args below meth cd pc ls (.long y :: .long x :: st) w lg sl := by
  intro H locs r hI
  exact lv_ldiv hC.1 hC.2.1 hd hg (k H locs r hI)
theorem bs_lrem (hC : bx_Cx G D κ ρ A M out p s m args meth cd) {x y : Int64} (hd : decode M.2.1 pc = .ok (.lrem, 1)) (hg : ¬ y = 0) (k : ax_SW l D κ ρ A M out p e s m args below meth cd (pc + 1) ls (.long (x - x / y * y) :: st) w lg sl) : ax_SW l D κ ρ A M out p e s m args below meth cd pc ls (.long y :: .long x :: st) w lg sl := by
  intro H locs r hI
  exact lv_lrem hC.1 hC.2.1 hd hg (k H locs r hI)
theorem bs_lshl (hC : bx_Cx G D κ ρ A M out p s m args meth cd) {x : Int64} {y : Int32} (hd : decode M.2.1 pc = .ok (.lshl, 1))  (k : ax_SW l D κ ρ A M out p e s m args below meth cd (pc + 1) ls (.long (x <<< (y.toInt64 &&& 63)) :: st) w lg sl) : ax_SW l D κ ρ A M out p e s m args below meth cd pc ls (.int y :: .long x :: st) w lg sl := by
  intro H locs r hI
  exact lv_lshl hC.1 hC.2.1 hd rfl (k H locs r hI)
theorem bs_lcmp (hC : bx_Cx G D κ ρ A M out p s m args meth cd) {x y : Int64} (hd : decode M.2.1 pc = .ok (.lcmp, 1))  (k : ax_SW l D κ ρ A M out p e s m args below meth cd (pc + 1) ls (.int (lg_cmp x y) :: st) w lg sl) : ax_SW l D κ ρ A M out p e s m args below meth cd pc ls (.long y :: .long x :: st) w lg sl := by
  intro H locs r hI
  exact W.lcmp hC.1 hC.2.1 hd (k H locs r hI)
theorem bs_i2l (hC : bx_Cx G D κ ρ A M out p s m args meth cd) {x : Int32} (hd : decode M.2.1 pc = .ok (.i2l, 1))  (k : ax_SW l D κ ρ A M out p e s m args below meth cd (pc + 1) ls (.long x.toInt64 :: st) w lg sl) : ax_SW l D κ ρ A M out p e s m args below meth cd pc ls (.int x :: st) w lg sl := by
  intro H locs r hI
  exact lv_i2l hC.1 hC.2.1 hd rfl (k H locs r hI)
theorem bs_l2i (hC : bx_Cx G D κ ρ A M out p s m args meth cd) {x : Int64} (hd : decode M.2.1 pc = .ok (.l2i, 1))  (k : ax_SW l D κ ρ A M out p e s m args below meth cd (pc + 1) ls (.int x.toInt32 :: st) w lg sl) : ax_SW l D κ ρ A M out p e s m args below meth cd pc ls (.long x :: st) w lg sl := by
  intro H locs r hI
  exact lv_l2i hC.1 hC.2.1 hd rfl (k H locs r hI)
theorem bs_i2b (hC : bx_Cx G D κ ρ A M out p s m args meth cd) {x : Int32} (hd : decode M.2.1 pc = .ok (.i2b, 1))  (k : ax_SW l D κ ρ A M out p e s m args below meth cd (pc + 1) ls (.int x.toInt8.toInt32 :: st) w lg sl) : ax_SW l D κ ρ A M out p e s m args below meth cd pc ls (.int x :: st) w lg sl := by
  intro H locs r hI
  exact lv_i2b hC.1 hC.2.1 hd rfl (k H locs r hI)
theorem bs_dup (hC : bx_Cx G D κ ρ A M out p s m args meth cd) {v : Value} (hd : decode M.2.1 pc = .ok (.dup, 1)) (hv : v.category = 1) (k : ax_SW l D κ ρ A M out p e s m args below meth cd (pc + 1) ls (v :: v :: st) w lg sl) : ax_SW l D κ ρ A M out p e s m args below meth cd pc ls (v :: st) w lg sl := by
  intro H locs r hI
  exact lv_dup hC.1 hC.2.1 hd (by rw [ax_rv_cat]; exact hv) (k H locs r hI)
theorem bs_pop (hC : bx_Cx G D κ ρ A M out p s m args meth cd) {v : Value} (hd : decode M.2.1 pc = .ok (.pop, 1)) (hv : v.category = 1) (k : ax_SW l D κ ρ A M out p e s m args below meth cd (pc + 1) ls st w lg sl) : ax_SW l D κ ρ A M out p e s m args below meth cd pc ls (v :: st) w lg sl := by
  intro H locs r hI
  exact lv_pop hC.1 hC.2.1 hd (by rw [ax_rv_cat]; exact hv) (k H locs r hI)
theorem bs_dup_x1 (hC : bx_Cx G D κ ρ A M out p s m args meth cd) {u v : Value} (hd : decode M.2.1 pc = .ok (.dup_x1, 1)) (hu : u.category = 1) (hv : v.category = 1) (k : ax_SW l D κ ρ A M out p e s m args below meth cd (pc + 1) ls (u :: v :: u :: st) w lg sl) : ax_SW l D κ ρ A M out p e s m args below meth cd pc ls (u :: v :: st) w lg sl := by
  intro H locs r hI
  exact lv_dup_x1 hC.1 hC.2.1 hd (by rw [ax_rv_cat]; exact hu) (by rw [ax_rv_cat]; exact hv) (k H locs r hI)
theorem bs_dup2 (hC : bx_Cx G D κ ρ A M out p s m args meth cd) {u v : Value} (hd : decode M.2.1 pc = .ok (.dup2, 1)) (hu : u.category = 1) (hv : v.category = 1) (k : ax_SW l D κ ρ A M out p e s m args below meth cd (pc + 1) ls (u :: v :: u :: v :: st) w lg sl) : ax_SW l D κ ρ A M out p e s m args below meth cd pc ls (u :: v :: st) w lg sl := by
  intro H locs r hI
  exact lv_dup2_11 hC.1 hC.2.1 hd (by rw [ax_rv_cat]; exact hu) (by rw [ax_rv_cat]; exact hv) (k H locs r hI)
theorem bs_iload_n (hC : bx_Cx G D κ ρ A M out p s m args meth cd) {f : Fin 4} {i : Nat} {x : Int32} (hd : decode M.2.1 pc = .ok (.iload_n f, 1)) (hi : (f : Nat) = i) (hx : ax_nth ls i = some (.int x)) (k : ax_SW l D κ ρ A M out p e s m args below meth cd (pc + 1) ls (.int x :: st) w lg sl) : ax_SW l D κ ρ A M out p e s m args below meth cd pc ls st w lg sl := by
  intro H locs r hI
  exact lv_iload_n hC.1 hC.2.1 hd hi (hI.1.at hx) (k H locs r hI)
theorem bs_iload (hC : bx_Cx G D κ ρ A M out p s m args meth cd) {i : Nat} {x : Int32} (hd : decode M.2.1 pc = .ok (.iload i, 2)) (hx : ax_nth ls i = some (.int x)) (k : ax_SW l D κ ρ A M out p e s m args below meth cd (pc + 2) ls (.int x :: st) w lg sl) : ax_SW l D κ ρ A M out p e s m args below meth cd pc ls st w lg sl := by
  intro H locs r hI
  exact lv_iload hC.1 hC.2.1 hd (hI.1.at hx) (k H locs r hI)
theorem bs_lload_n (hC : bx_Cx G D κ ρ A M out p s m args meth cd) {f : Fin 4} {i : Nat} {x : Int64} (hd : decode M.2.1 pc = .ok (.lload_n f, 1)) (hi : (f : Nat) = i) (hx : ax_nth ls i = some (.long x)) (k : ax_SW l D κ ρ A M out p e s m args below meth cd (pc + 1) ls (.long x :: st) w lg sl) : ax_SW l D κ ρ A M out p e s m args below meth cd pc ls st w lg sl := by
  intro H locs r hI
  exact lv_lload_n hC.1 hC.2.1 hd hi (hI.1.at hx) (k H locs r hI)
theorem bs_lload (hC : bx_Cx G D κ ρ A M out p s m args meth cd) {i : Nat} {x : Int64} (hd : decode M.2.1 pc = .ok (.lload i, 2)) (hx : ax_nth ls i = some (.long x)) (k : ax_SW l D κ ρ A M out p e s m args below meth cd (pc + 2) ls (.long x :: st) w lg sl) : ax_SW l D κ ρ A M out p e s m args below meth cd pc ls st w lg sl := by
  intro H locs r hI
  exact lv_lload hC.1 hC.2.1 hd (hI.1.at hx) (k H locs r hI)
theorem bs_aload_n (hC : bx_Cx G D κ ρ A M out p s m args meth cd) {f : Fin 4} {i x : Nat} (hd : decode M.2.1 pc = .ok (.aload_n f, 1)) (hi : (f : Nat) = i) (hx : ax_nth ls i = some (.ref x)) (k : ax_SW l D κ ρ A M out p e s m args below meth cd (pc + 1) ls (.ref x :: st) w lg sl) : ax_SW l D κ ρ A M out p e s m args below meth cd pc ls st w lg sl := by
  intro H locs r hI
  exact lv_aload_n hC.1 hC.2.1 hd hi (hI.1.at hx) (k H locs r hI)
theorem bs_aload (hC : bx_Cx G D κ ρ A M out p s m args meth cd) {i x : Nat} (hd : decode M.2.1 pc = .ok (.aload i, 2)) (hx : ax_nth ls i = some (.ref x)) (k : ax_SW l D κ ρ A M out p e s m args below meth cd (pc + 2) ls (.ref x :: st) w lg sl) : ax_SW l D κ ρ A M out p e s m args below meth cd pc ls st w lg sl := by
  intro H locs r hI
  exact lv_aload hC.1 hC.2.1 hd (hI.1.at hx) (k H locs r hI)
theorem bs_aload_nN (hC : bx_Cx G D κ ρ A M out p s m args meth cd) {f : Fin 4} {i : Nat} (hd : decode M.2.1 pc = .ok (.aload_n f, 1)) (hi : (f : Nat) = i) (hx : ax_nth ls i = some .null) (k : ax_SW l D κ ρ A M out p e s m args below meth cd (pc + 1) ls (.null :: st) w lg sl) : ax_SW l D κ ρ A M out p e s m args below meth cd pc ls st w lg sl := by
  intro H locs r hI
  exact lv_aload_nN hC.1 hC.2.1 hd hi (hI.1.at hx) (k H locs r hI)
theorem bs_aloadN (hC : bx_Cx G D κ ρ A M out p s m args meth cd) {i : Nat} (hd : decode M.2.1 pc = .ok (.aload i, 2)) (hx : ax_nth ls i = some .null) (k : ax_SW l D κ ρ A M out p e s m args below meth cd (pc + 2) ls (.null :: st) w lg sl) : ax_SW l D κ ρ A M out p e s m args below meth cd pc ls st w lg sl := by
  intro H locs r hI
  exact lv_aloadN hC.1 hC.2.1 hd (hI.1.at hx) (k H locs r hI)
theorem bs_istore_n (hC : bx_Cx G D κ ρ A M out p s m args meth cd) {f : Fin 4} {i : Nat} {x : Int32} (hd : decode M.2.1 pc = .ok (.istore_n f, 1)) (hi : (f : Nat) = i) (hn : i < M.2.2.1) (k : ax_SW l D κ ρ A M out p e s m args below meth cd (pc + 1) (ax_st1 ls i (.int x)) st w lg sl) : ax_SW l D κ ρ A M out p e s m args below meth cd pc ls (.int x :: st) w lg sl := by
  intro H locs r hI
  refine lv_istore_n hC.1 hC.2.1 hd hi hI.1 hn rfl (fun r2 h2 => ?_)
  exact k H locs r2 ⟨ax_Ls.st1 h2, hI.2⟩
theorem bs_istore (hC : bx_Cx G D κ ρ A M out p s m args meth cd) {i : Nat} {x : Int32} (hd : decode M.2.1 pc = .ok (.istore i, 2)) (hn : i < M.2.2.1) (k : ax_SW l D κ ρ A M out p e s m args below meth cd (pc + 2) (ax_st1 ls i (.int x)) st w lg sl) : ax_SW l D κ ρ A M out p e s m args below meth cd pc ls (.int x :: st) w lg sl := by
  intro H locs r hI
  refine lv_istore hC.1 hC.2.1 hd hI.1 hn rfl (fun r2 h2 => ?_)
  exact k H locs r2 ⟨ax_Ls.st1 h2, hI.2⟩
theorem bs_lstore_n (hC : bx_Cx G D κ ρ A M out p s m args meth cd) {f : Fin 4} {i : Nat} {x : Int64} (hd : decode M.2.1 pc = .ok (.lstore_n f, 1)) (hi : (f : Nat) = i) (hn : i + 1 < M.2.2.1) (k : ax_SW l D κ ρ A M out p e s m args below meth cd (pc + 1) (ax_st2 ls i (.long x)) st w lg sl) : ax_SW l D κ ρ A M out p e s m args below meth cd pc ls (.long x :: st) w lg sl := by
  intro H locs r hI
  refine lv_lstore_n hC.1 hC.2.1 hd hi hI.1 hn rfl (fun r2 h2 => ?_)
  exact k H locs r2 ⟨ax_Ls.st2 h2, hI.2⟩
theorem bs_lstore (hC : bx_Cx G D κ ρ A M out p s m args meth cd) {i : Nat} {x : Int64} (hd : decode M.2.1 pc = .ok (.lstore i, 2)) (hn : i + 1 < M.2.2.1) (k : ax_SW l D κ ρ A M out p e s m args below meth cd (pc + 2) (ax_st2 ls i (.long x)) st w lg sl) : ax_SW l D κ ρ A M out p e s m args below meth cd pc ls (.long x :: st) w lg sl := by
  intro H locs r hI
  refine lv_lstore hC.1 hC.2.1 hd hI.1 hn rfl (fun r2 h2 => ?_)
  exact k H locs r2 ⟨ax_Ls.st2 h2, hI.2⟩
theorem bs_astore_n (hC : bx_Cx G D κ ρ A M out p s m args meth cd) {f : Fin 4} {i : Nat} {x : Nat} (hd : decode M.2.1 pc = .ok (.astore_n f, 1)) (hi : (f : Nat) = i) (hn : i < M.2.2.1) (k : ax_SW l D κ ρ A M out p e s m args below meth cd (pc + 1) (ax_st1 ls i (.ref x)) st w lg sl) : ax_SW l D κ ρ A M out p e s m args below meth cd pc ls (.ref x :: st) w lg sl := by
  intro H locs r hI
  refine lv_astore_n hC.1 hC.2.1 hd hi hI.1 hn rfl (fun r2 h2 => ?_)
  exact k H locs r2 ⟨ax_Ls.st1 h2, hI.2⟩
theorem bs_astore (hC : bx_Cx G D κ ρ A M out p s m args meth cd) {i : Nat} {x : Nat} (hd : decode M.2.1 pc = .ok (.astore i, 2)) (hn : i < M.2.2.1) (k : ax_SW l D κ ρ A M out p e s m args below meth cd (pc + 2) (ax_st1 ls i (.ref x)) st w lg sl) : ax_SW l D κ ρ A M out p e s m args below meth cd pc ls (.ref x :: st) w lg sl := by
  intro H locs r hI
  refine lv_astore hC.1 hC.2.1 hd hI.1 hn rfl (fun r2 h2 => ?_)
  exact k H locs r2 ⟨ax_Ls.st1 h2, hI.2⟩
theorem bs_astore_nN (hC : bx_Cx G D κ ρ A M out p s m args meth cd) {f : Fin 4} {i : Nat} (hd : decode M.2.1 pc = .ok (.astore_n f, 1)) (hi : (f : Nat) = i) (hn : i < M.2.2.1) (k : ax_SW l D κ ρ A M out p e s m args below meth cd (pc + 1) (ax_st1 ls i .null) st w lg sl) : ax_SW l D κ ρ A M out p e s m args below meth cd pc ls (.null :: st) w lg sl := by
  intro H locs r hI
  refine lv_astore_nN hC.1 hC.2.1 hd hi hI.1 hn rfl (fun r2 h2 => ?_)
  exact k H locs r2 ⟨ax_Ls.st1 h2, hI.2⟩
theorem bs_astoreN (hC : bx_Cx G D κ ρ A M out p s m args meth cd) {i : Nat} (hd : decode M.2.1 pc = .ok (.astore i, 2)) (hn : i < M.2.2.1) (k : ax_SW l D κ ρ A M out p e s m args below meth cd (pc + 2) (ax_st1 ls i .null) st w lg sl) : ax_SW l D κ ρ A M out p e s m args below meth cd pc ls (.null :: st) w lg sl := by
  intro H locs r hI
  refine lv_astoreN hC.1 hC.2.1 hd hI.1 hn rfl (fun r2 h2 => ?_)
  exact k H locs r2 ⟨ax_Ls.st1 h2, hI.2⟩
theorem bs_iinc (hC : bx_Cx G D κ ρ A M out p s m args meth cd) {i : Nat} {n : Int} {x cv : Int32} (hd : decode M.2.1 pc = .ok (.iinc i n, 3)) (hn : i < M.2.2.1) (hv : Int32.ofInt n = cv) (hx : ax_nth ls i = some (.int x)) (k : ax_SW l D κ ρ A M out p e s m args below meth cd (pc + 3) (ax_st1 ls i (.int (x + cv))) st w lg sl) : ax_SW l D κ ρ A M out p e s m args below meth cd pc ls st w lg sl := by
  intro H locs r hI
  obtain ⟨q, hq⟩ := List.getElem?_of_mem (ax_lv_mem.mpr ⟨i, .int x, hx, rfl⟩ : (0 + i, ax_rv ρ (.int x)) ∈ ax_lv ρ 0 ls)
  rw [Nat.zero_add] at hq
  refine lv_iinc hC.1 hC.2.1 hd hI.1 hq (by rw [hv]) hn rfl (fun r2 h2 => ?_)
  exact k H locs r2 ⟨ax_Ls.st1 h2, hI.2⟩
theorem bs_iconst (hC : bx_Cx G D κ ρ A M out p s m args meth cd) {n : Int} {v : Int32} (hd : decode M.2.1 pc = .ok (.iconst n, 1)) (hv : Int32.ofInt n = v) (k : ax_SW l D κ ρ A M out p e s m args below meth cd (pc + 1) ls (.int v :: st) w lg sl) : ax_SW l D κ ρ A M out p e s m args below meth cd pc ls st w lg sl := by
  intro H locs r hI
  exact lv_iconst hC.1 hC.2.1 hd hv (k H locs r hI)
theorem bs_bipush (hC : bx_Cx G D κ ρ A M out p s m args meth cd) {n : Int} {v : Int32} (hd : decode M.2.1 pc = .ok (.bipush n, 2)) (hv : (Int8.ofInt n).toInt32 = v) (k : ax_SW l D κ ρ A M out p e s m args below meth cd (pc + 2) ls (.int v :: st) w lg sl) : ax_SW l D κ ρ A M out p e s m args below meth cd pc ls st w lg sl := by
  intro H locs r hI
  exact lv_bipush hC.1 hC.2.1 hd hv (k H locs r hI)
theorem bs_sipush (hC : bx_Cx G D κ ρ A M out p s m args meth cd) {n : Int} {v : Int32} (hd : decode M.2.1 pc = .ok (.sipush n, 3)) (hv : (Int16.ofInt n).toInt32 = v) (k : ax_SW l D κ ρ A M out p e s m args below meth cd (pc + 3) ls (.int v :: st) w lg sl) : ax_SW l D κ ρ A M out p e s m args below meth cd pc ls st w lg sl := by
  intro H locs r hI
  exact lv_sipush hC.1 hC.2.1 hd hv (k H locs r hI)
theorem bs_lconst (hC : bx_Cx G D κ ρ A M out p s m args meth cd) {n : Fin 2} {v : Int64} (hd : decode M.2.1 pc = .ok (.lconst n, 1)) (hv : Int64.ofNat (n : Nat) = v) (k : ax_SW l D κ ρ A M out p e s m args below meth cd (pc + 1) ls (.long v :: st) w lg sl) : ax_SW l D κ ρ A M out p e s m args below meth cd pc ls st w lg sl := by
  intro H locs r hI
  exact lv_lconst hC.1 hC.2.1 hd hv (k H locs r hI)
theorem bs_ldc2 (hC : bx_Cx G D κ ρ A M out p s m args meth cd) {i : Nat} {v : Int64} (hd : decode M.2.1 pc = .ok (.ldc2_w i, 3)) (hw : Cond.constantLong M.1.cls i v ∈ bx_TB) (k : ax_SW l D κ ρ A M out p e s m args below meth cd (pc + 3) ls (.long v :: st) w lg sl) : ax_SW l D κ ρ A M out p e s m args below meth cd pc ls st w lg sl := by
  intro H locs r hI
  exact lv_ldc2 hC.1 hC.2.1 hC.2.2.2.1 (hC.2.2.2.2.2.2.2.1 _ hw) hd (k H locs r hI)
theorem bs_ldc (hC : bx_Cx G D κ ρ A M out p s m args meth cd) {i : Nat} {v : Int32} (hd : decode M.2.1 pc = .ok (.ldc i, 2)) (hw : Cond.constant M.1.cls i v ∈ bx_TB) (k : ax_SW l D κ ρ A M out p e s m args below meth cd (pc + 2) ls (.int v :: st) w lg sl) : ax_SW l D κ ρ A M out p e s m args below meth cd pc ls st w lg sl := by
  intro H locs r hI
  exact lv_ldc hC.1 hC.2.1 hC.2.2.2.1 (hC.2.2.2.2.2.2.2.1 _ hw) hd (k H locs r hI)
theorem bs_ldc_w (hC : bx_Cx G D κ ρ A M out p s m args meth cd) {i : Nat} {v : Int32} (hd : decode M.2.1 pc = .ok (.ldc_w i, 3)) (hw : Cond.constant M.1.cls i v ∈ bx_TB) (k : ax_SW l D κ ρ A M out p e s m args below meth cd (pc + 3) ls (.int v :: st) w lg sl) : ax_SW l D κ ρ A M out p e s m args below meth cd pc ls st w lg sl := by
  intro H locs r hI
  exact lv_ldcw hC.1 hC.2.1 hC.2.2.2.1 (hC.2.2.2.2.2.2.2.1 _ hw) hd (k H locs r hI)
theorem bs_ldcS (hC : bx_Cx G D κ ρ A M out p s m args meth cd)  (hd : decode M.2.1 pc = .ok (.ldc 47, 2)) (ho : M.1.cls = "LeapLane$Tape") (k : ax_SW l D κ ρ A M out p e s m args below meth cd (pc + 2) ls (.ref 902 :: st) w lg sl) : ax_SW l D κ ρ A M out p e s m args below meth cd pc ls st w lg sl := by
  intro H locs r hI
  have hown := hC.2.2.2.1
  rw [ho] at hown
  exact va_ldcS hC.1 hC.2.1 hown hC.2.2.2.2.2.2.2.2.2.1.2.2.2.1 hd (k H locs r hI)
theorem bs_null (hC : bx_Cx G D κ ρ A M out p s m args meth cd)  (hd : decode M.2.1 pc = .ok (.aconst_null, 1))  (k : ax_SW l D κ ρ A M out p e s m args below meth cd (pc + 1) ls (.null :: st) w lg sl) : ax_SW l D κ ρ A M out p e s m args below meth cd pc ls st w lg sl := by
  intro H locs r hI
  exact lv_null hC.1 hC.2.1 hd (k H locs r hI)
theorem bs_gets900 (hC : bx_Cx G D κ ρ A M out p s m args meth cd) {i : Nat} (hd : decode M.2.1 pc = .ok (.getstatic i, 3)) (hw : Cond.fieldLinkNest M.1.cls i "LeapLane" "FACTORIALS" "[I" "LeapLane" ∈ bx_TB) (k : ax_SW l D κ ρ A M out p e s m args below meth cd (pc + 3) ls (.ref 900 :: st) w lg sl) : ax_SW l D κ ρ A M out p e s m args below meth cd pc ls st w lg sl := by
  intro H locs r hI
  exact va_getsN hC.1 hC.2.1 hC.2.2.2.2.2.2.2.2.2.1.1 hI.2.2.2.1 hC.2.2.2.1 (hC.2.2.2.2.2.2.2.1 _ hw) (fun _ h => h) hd (k H locs r hI)
theorem bs_gets901 (hC : bx_Cx G D κ ρ A M out p s m args meth cd) {i : Nat} (hd : decode M.2.1 pc = .ok (.getstatic i, 3)) (hw : Cond.fieldLinkNest M.1.cls i "LeapLane" "STRENGTHS" "[I" "LeapLane" ∈ bx_TB) (k : ax_SW l D κ ρ A M out p e s m args below meth cd (pc + 3) ls (.ref 901 :: st) w lg sl) : ax_SW l D κ ρ A M out p e s m args below meth cd pc ls st w lg sl := by
  intro H locs r hI
  exact va_getsN hC.1 hC.2.1 hC.2.2.2.2.2.2.2.2.2.1.2.1 hI.2.2.2.1 hC.2.2.2.1 (hC.2.2.2.2.2.2.2.1 _ hw) (fun _ h => h) hd (k H locs r hI)
theorem bs_if_eq (hC : bx_Cx G D κ ρ A M out p s m args meth cd) {o : Int} {a : Nat} {x : Int32} (hd : decode M.2.1 pc = .ok (.ifCond .eq o, 3)) (ha : (pc : Int) + o = (a : Int)) (kt : x = 0 → ax_SW l D κ ρ A M out p e s m args below meth cd a ls st w lg sl) (kf : ¬ (x = 0) → ax_SW l D κ ρ A M out p e s m args below meth cd (pc + 3) ls st w lg sl) : ax_SW l D κ ρ A M out p e s m args below meth cd pc ls (.int x :: st) w lg sl := by
  intro H locs r hI
  exact lv_if_eq hC.1 hC.2.1 hd ha (fun h => kt h H locs r hI) (fun h => kf h H locs r hI)
theorem bs_if_ne (hC : bx_Cx G D κ ρ A M out p s m args meth cd) {o : Int} {a : Nat} {x : Int32} (hd : decode M.2.1 pc = .ok (.ifCond .ne o, 3)) (ha : (pc : Int) + o = (a : Int)) (kf : ¬ x = 0 → ax_SW l D κ ρ A M out p e s m args below meth cd a ls st w lg sl) (kt : x = 0 → ax_SW l D κ ρ A M out p e s m args below meth cd (pc + 3) ls st w lg sl) : ax_SW l D κ ρ A M out p e s m args below meth cd pc ls (.int x :: st) w lg sl := by
  intro H locs r hI
  exact lv_if_ne hC.1 hC.2.1 hd ha (fun h => kf h H locs r hI) (fun h => kt h H locs r hI)
theorem bs_if_lt (hC : bx_Cx G D κ ρ A M out p s m args meth cd) {o : Int} {a : Nat} {x : Int32} (hd : decode M.2.1 pc = .ok (.ifCond .lt o, 3)) (ha : (pc : Int) + o = (a : Int)) (kt : x < 0 → ax_SW l D κ ρ A M out p e s m args below meth cd a ls st w lg sl) (kf : ¬ (x < 0) → ax_SW l D κ ρ A M out p e s m args below meth cd (pc + 3) ls st w lg sl) : ax_SW l D κ ρ A M out p e s m args below meth cd pc ls (.int x :: st) w lg sl := by
  intro H locs r hI
  exact lv_if_lt hC.1 hC.2.1 hd ha (fun h => kt h H locs r hI) (fun h => kf h H locs r hI)
theorem bs_if_ge (hC : bx_Cx G D κ ρ A M out p s m args meth cd) {o : Int} {a : Nat} {x : Int32} (hd : decode M.2.1 pc = .ok (.ifCond .ge o, 3)) (ha : (pc : Int) + o = (a : Int)) (kt : 0 ≤ x → ax_SW l D κ ρ A M out p e s m args below meth cd a ls st w lg sl) (kf : ¬ (0 ≤ x) → ax_SW l D κ ρ A M out p e s m args below meth cd (pc + 3) ls st w lg sl) : ax_SW l D κ ρ A M out p e s m args below meth cd pc ls (.int x :: st) w lg sl := by
  intro H locs r hI
  exact lv_if_ge hC.1 hC.2.1 hd ha (fun h => kt h H locs r hI) (fun h => kf h H locs r hI)
theorem bs_if_gt (hC : bx_Cx G D κ ρ A M out p s m args meth cd) {o : Int} {a : Nat} {x : Int32} (hd : decode M.2.1 pc = .ok (.ifCond .gt o, 3)) (ha : (pc : Int) + o = (a : Int)) (kt : 0 < x → ax_SW l D κ ρ A M out p e s m args below meth cd a ls st w lg sl) (kf : ¬ (0 < x) → ax_SW l D κ ρ A M out p e s m args below meth cd (pc + 3) ls st w lg sl) : ax_SW l D κ ρ A M out p e s m args below meth cd pc ls (.int x :: st) w lg sl := by
  intro H locs r hI
  exact lv_if_gt hC.1 hC.2.1 hd ha (fun h => kt h H locs r hI) (fun h => kf h H locs r hI)
theorem bs_if_le (hC : bx_Cx G D κ ρ A M out p s m args meth cd) {o : Int} {a : Nat} {x : Int32} (hd : decode M.2.1 pc = .ok (.ifCond .le o, 3)) (ha : (pc : Int) + o = (a : Int)) (kt : x ≤ 0 → ax_SW l D κ ρ A M out p e s m args below meth cd a ls st w lg sl) (kf : ¬ (x ≤ 0) → ax_SW l D κ ρ A M out p e s m args below meth cd (pc + 3) ls st w lg sl) : ax_SW l D κ ρ A M out p e s m args below meth cd pc ls (.int x :: st) w lg sl := by
  intro H locs r hI
  exact lv_if_le hC.1 hC.2.1 hd ha (fun h => kt h H locs r hI) (fun h => kf h H locs r hI)
theorem bs_icmp_eq (hC : bx_Cx G D κ ρ A M out p s m args meth cd) {o : Int} {a : Nat} {x y : Int32} (hd : decode M.2.1 pc = .ok (.if_icmp .eq o, 3)) (ha : (pc : Int) + o = (a : Int)) (kt : x = y → ax_SW l D κ ρ A M out p e s m args below meth cd a ls st w lg sl) (kf : ¬ (x = y) → ax_SW l D κ ρ A M out p e s m args below meth cd (pc + 3) ls st w lg sl) : ax_SW l D κ ρ A M out p e s m args below meth cd pc ls (.int y :: .int x :: st) w lg sl := by
  intro H locs r hI
  exact lv_icmp_eq hC.1 hC.2.1 hd ha (fun h => kt h H locs r hI) (fun h => kf h H locs r hI)
theorem bs_icmp_ne (hC : bx_Cx G D κ ρ A M out p s m args meth cd) {o : Int} {a : Nat} {x y : Int32} (hd : decode M.2.1 pc = .ok (.if_icmp .ne o, 3)) (ha : (pc : Int) + o = (a : Int)) (kf : ¬ x = y → ax_SW l D κ ρ A M out p e s m args below meth cd a ls st w lg sl) (kt : x = y → ax_SW l D κ ρ A M out p e s m args below meth cd (pc + 3) ls st w lg sl) : ax_SW l D κ ρ A M out p e s m args below meth cd pc ls (.int y :: .int x :: st) w lg sl := by
  intro H locs r hI
  exact lv_icmp_ne hC.1 hC.2.1 hd ha (fun h => kf h H locs r hI) (fun h => kt h H locs r hI)
theorem bs_icmp_lt (hC : bx_Cx G D κ ρ A M out p s m args meth cd) {o : Int} {a : Nat} {x y : Int32} (hd : decode M.2.1 pc = .ok (.if_icmp .lt o, 3)) (ha : (pc : Int) + o = (a : Int)) (kt : x < y → ax_SW l D κ ρ A M out p e s m args below meth cd a ls st w lg sl) (kf : ¬ (x < y) → ax_SW l D κ ρ A M out p e s m args below meth cd (pc + 3) ls st w lg sl) : ax_SW l D κ ρ A M out p e s m args below meth cd pc ls (.int y :: .int x :: st) w lg sl := by
  intro H locs r hI
  exact lv_icmp_lt hC.1 hC.2.1 hd ha (fun h => kt h H locs r hI) (fun h => kf h H locs r hI)
theorem bs_icmp_ge (hC : bx_Cx G D κ ρ A M out p s m args meth cd) {o : Int} {a : Nat} {x y : Int32} (hd : decode M.2.1 pc = .ok (.if_icmp .ge o, 3)) (ha : (pc : Int) + o = (a : Int)) (kt : y ≤ x → ax_SW l D κ ρ A M out p e s m args below meth cd a ls st w lg sl) (kf : ¬ (y ≤ x) → ax_SW l D κ ρ A M out p e s m args below meth cd (pc + 3) ls st w lg sl) : ax_SW l D κ ρ A M out p e s m args below meth cd pc ls (.int y :: .int x :: st) w lg sl := by
  intro H locs r hI
  exact lv_icmp_ge hC.1 hC.2.1 hd ha (fun h => kt h H locs r hI) (fun h => kf h H locs r hI)
theorem bs_icmp_gt (hC : bx_Cx G D κ ρ A M out p s m args meth cd) {o : Int} {a : Nat} {x y : Int32} (hd : decode M.2.1 pc = .ok (.if_icmp .gt o, 3)) (ha : (pc : Int) + o = (a : Int)) (kt : y < x → ax_SW l D κ ρ A M out p e s m args below meth cd a ls st w lg sl) (kf : ¬ (y < x) → ax_SW l D κ ρ A M out p e s m args below meth cd (pc + 3) ls st w lg sl) : ax_SW l D κ ρ A M out p e s m args below meth cd pc ls (.int y :: .int x :: st) w lg sl := by
  intro H locs r hI
  exact lv_icmp_gt hC.1 hC.2.1 hd ha (fun h => kt h H locs r hI) (fun h => kf h H locs r hI)
theorem bs_icmp_le (hC : bx_Cx G D κ ρ A M out p s m args meth cd) {o : Int} {a : Nat} {x y : Int32} (hd : decode M.2.1 pc = .ok (.if_icmp .le o, 3)) (ha : (pc : Int) + o = (a : Int)) (kt : x ≤ y → ax_SW l D κ ρ A M out p e s m args below meth cd a ls st w lg sl) (kf : ¬ (x ≤ y) → ax_SW l D κ ρ A M out p e s m args below meth cd (pc + 3) ls st w lg sl) : ax_SW l D κ ρ A M out p e s m args below meth cd pc ls (.int y :: .int x :: st) w lg sl := by
  intro H locs r hI
  exact lv_icmp_le hC.1 hC.2.1 hd ha (fun h => kt h H locs r hI) (fun h => kf h H locs r hI)
theorem bs_goto (hC : bx_Cx G D κ ρ A M out p s m args meth cd) {o : Int} {a : Nat} (hd : decode M.2.1 pc = .ok (.goto o, 3)) (ha : (pc : Int) + o = (a : Int)) (k : ax_SW l D κ ρ A M out p e s m args below meth cd a ls st w lg sl) : ax_SW l D κ ρ A M out p e s m args below meth cd pc ls st w lg sl := by
  intro H locs r hI
  exact lv_goto hC.1 hC.2.1 hd ha (k H locs r hI)
theorem bs_ifnull (hC : bx_Cx G D κ ρ A M out p s m args meth cd) {o : Int} {x : Nat} (hd : decode M.2.1 pc = .ok (.ifnull o, 3))  (k : ax_SW l D κ ρ A M out p e s m args below meth cd (pc + 3) ls st w lg sl) : ax_SW l D κ ρ A M out p e s m args below meth cd pc ls (.ref x :: st) w lg sl := by
  intro H locs r hI
  exact lv_ifnull hC.1 hC.2.1 hd (k H locs r hI)
theorem bs_ifnullN (hC : bx_Cx G D κ ρ A M out p s m args meth cd) {o : Int} {a : Nat} (hd : decode M.2.1 pc = .ok (.ifnull o, 3)) (ha : (pc : Int) + o = (a : Int)) (k : ax_SW l D κ ρ A M out p e s m args below meth cd a ls st w lg sl) : ax_SW l D κ ρ A M out p e s m args below meth cd pc ls (.null :: st) w lg sl := by
  intro H locs r hI
  exact lv_ifnullN hC.1 hC.2.1 hd ha (k H locs r hI)
theorem bs_ifnonnull (hC : bx_Cx G D κ ρ A M out p s m args meth cd) {o : Int} {a x : Nat} (hd : decode M.2.1 pc = .ok (.ifnonnull o, 3)) (ha : (pc : Int) + o = (a : Int)) (k : ax_SW l D κ ρ A M out p e s m args below meth cd a ls st w lg sl) : ax_SW l D κ ρ A M out p e s m args below meth cd pc ls (.ref x :: st) w lg sl := by
  intro H locs r hI
  exact lv_ifnonnull hC.1 hC.2.1 hd ha (k H locs r hI)
theorem bs_ifnonnullN (hC : bx_Cx G D κ ρ A M out p s m args meth cd) {o : Int} (hd : decode M.2.1 pc = .ok (.ifnonnull o, 3))  (k : ax_SW l D κ ρ A M out p e s m args below meth cd (pc + 3) ls st w lg sl) : ax_SW l D κ ρ A M out p e s m args below meth cd pc ls (.null :: st) w lg sl := by
  intro H locs r hI
  exact lv_ifnonnullN hC.1 hC.2.1 hd (k H locs r hI)
end AXI
