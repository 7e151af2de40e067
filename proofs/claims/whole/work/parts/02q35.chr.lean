/-! String.charAt of the text, as the JDK's code -/
def hy_pc : MethodName := ⟨"jdk/internal/util/Preconditions", "checkIndex", "(IILjava/util/function/BiFunction;)I"⟩
def hy_ck : MethodName := ⟨"java/lang/String", "checkIndex", "(II)V"⟩
def hy_lc : MethodName := ⟨"java/lang/StringLatin1", "charAt", "([BI)C"⟩
def hy_il : MethodName := ⟨"java/lang/String", "isLatin1", "()Z"⟩
def hy_ca : MethodName := ⟨"java/lang/String", "charAt", "(I)C"⟩
theorem hw_mem {w : Cond} (i : Nat) (h : lw_tbl[i]? = some w) (hg : bx_gw w = true) : w ∈ bx_TB := List.mem_filter.mpr ⟨List.mem_of_getElem? h, hg⟩
theorem hw_iS : Cond.initialized "java/lang/String" ∈ bx_TB := hw_mem 135 (by decide +kernel) (by decide +kernel)
theorem hw_iL : Cond.initialized "java/lang/StringLatin1" ∈ bx_TB := hw_mem 136 (by decide +kernel) (by decide +kernel)
theorem hw_iP : Cond.initialized "jdk/internal/util/Preconditions" ∈ bx_TB := hw_mem 137 (by decide +kernel) (by decide +kernel)
theorem hw_cai : Cond.instanceMethod hy_ca ∈ bx_TB := hw_mem 497 (by decide +kernel) (by decide +kernel)
theorem hw_cas : Cond.selects "java/lang/String" hy_ca hy_ca ∈ bx_TB := hw_mem 498 (by decide +kernel) (by decide +kernel)
theorem hw_cac : Cond.code hy_ca prog_18_method_56_code 2 (some .char) ∈ bx_TB := hw_mem 499 (by decide +kernel) (by decide +kernel)
theorem hw_ill : Cond.methodLink "java/lang/String" 492 hy_il ∈ bx_TB := hw_mem 500 (by decide +kernel) (by decide +kernel)
theorem hw_ili : Cond.instanceMethod hy_il ∈ bx_TB := hw_mem 501 (by decide +kernel) (by decide +kernel)
theorem hw_ils : Cond.selects "java/lang/String" hy_il hy_il ∈ bx_TB := hw_mem 502 (by decide +kernel) (by decide +kernel)
theorem hw_ilc : Cond.code hy_il prog_18_method_154_code 1 (some .boolean) ∈ bx_TB := hw_mem 503 (by decide +kernel) (by decide +kernel)
theorem hw_fcs : Cond.fieldLink "java/lang/String" 38 "java/lang/String" "COMPACT_STRINGS" "Z" ∈ bx_TB := hw_mem 504 (by decide +kernel) (by decide +kernel)
theorem hw_lcl : Cond.methodLink "java/lang/String" 495 hy_lc ∈ bx_TB := hw_mem 506 (by decide +kernel) (by decide +kernel)
theorem hw_lcs : Cond.static hy_lc ∈ bx_TB := hw_mem 507 (by decide +kernel) (by decide +kernel)
theorem hw_lcc : Cond.code hy_lc prog_19_method_2_code 2 (some .char) ∈ bx_TB := hw_mem 508 (by decide +kernel) (by decide +kernel)
theorem hw_ckl : Cond.methodLink "java/lang/StringLatin1" 9 hy_ck ∈ bx_TB := hw_mem 509 (by decide +kernel) (by decide +kernel)
theorem hw_cks : Cond.static hy_ck ∈ bx_TB := hw_mem 510 (by decide +kernel) (by decide +kernel)
theorem hw_ckc : Cond.code hy_ck prog_18_method_155_code 2 none ∈ bx_TB := hw_mem 511 (by decide +kernel) (by decide +kernel)
theorem hw_fsf : Cond.fieldLink "java/lang/String" 1053 "jdk/internal/util/Preconditions" "SIOOBE_FORMATTER" "Ljava/util/function/BiFunction;" ∈ bx_TB := hw_mem 512 (by decide +kernel) (by decide +kernel)
theorem hw_pcl : Cond.methodLink "java/lang/String" 1059 hy_pc ∈ bx_TB := hw_mem 514 (by decide +kernel) (by decide +kernel)
theorem hw_pcs : Cond.static hy_pc ∈ bx_TB := hw_mem 515 (by decide +kernel) (by decide +kernel)
theorem hw_pcc : Cond.code hy_pc prog_23_method_11_code 3 (some .int) ∈ bx_TB := hw_mem 516 (by decide +kernel) (by decide +kernel)
theorem hw_fco : Cond.fieldLink "java/lang/String" 15 "java/lang/String" "coder" "B" ∈ bx_TB := hw_mem 1764 (by decide +kernel) (by decide +kernel)
theorem hw_fva : Cond.fieldLink "java/lang/String" 9 "java/lang/String" "value" "[B" ∈ bx_TB := hw_mem 1765 (by decide +kernel) (by decide +kernel)
theorem hd_pc_0 : decode prog_23_method_11_code 0 = .ok (.iload_n 0, 1) := by decide +kernel
theorem hd_pc_1 : decode prog_23_method_11_code 1 = .ok (.ifCond .lt 8, 3) := by decide +kernel
theorem hd_pc_4 : decode prog_23_method_11_code 4 = .ok (.iload_n 0, 1) := by decide +kernel
theorem hd_pc_5 : decode prog_23_method_11_code 5 = .ok (.iload_n 1, 1) := by decide +kernel
theorem hd_pc_6 : decode prog_23_method_11_code 6 = .ok (.if_icmp .lt 10, 3) := by decide +kernel
theorem hd_pc_16 : decode prog_23_method_11_code 16 = .ok (.iload_n 0, 1) := by decide +kernel
theorem hd_pc_17 : decode prog_23_method_11_code 17 = .ok (.ireturn, 1) := by decide +kernel
theorem hd_ck_0 : decode prog_18_method_155_code 0 = .ok (.iload_n 0, 1) := by decide +kernel
theorem hd_ck_1 : decode prog_18_method_155_code 1 = .ok (.iload_n 1, 1) := by decide +kernel
theorem hd_ck_2 : decode prog_18_method_155_code 2 = .ok (.getstatic 1053, 3) := by decide +kernel
theorem hd_ck_5 : decode prog_18_method_155_code 5 = .ok (.invokestatic 1059, 3) := by decide +kernel
theorem hd_ck_8 : decode prog_18_method_155_code 8 = .ok (.pop, 1) := by decide +kernel
theorem hd_ck_9 : decode prog_18_method_155_code 9 = .ok (.return_, 1) := by decide +kernel
theorem hd_lc_0 : decode prog_19_method_2_code 0 = .ok (.iload_n 1, 1) := by decide +kernel
theorem hd_lc_1 : decode prog_19_method_2_code 1 = .ok (.aload_n 0, 1) := by decide +kernel
theorem hd_lc_2 : decode prog_19_method_2_code 2 = .ok (.arraylength, 1) := by decide +kernel
theorem hd_lc_3 : decode prog_19_method_2_code 3 = .ok (.invokestatic 9, 3) := by decide +kernel
theorem hd_lc_6 : decode prog_19_method_2_code 6 = .ok (.aload_n 0, 1) := by decide +kernel
theorem hd_lc_7 : decode prog_19_method_2_code 7 = .ok (.iload_n 1, 1) := by decide +kernel
theorem hd_lc_8 : decode prog_19_method_2_code 8 = .ok (.baload, 1) := by decide +kernel
theorem hd_lc_9 : decode prog_19_method_2_code 9 = .ok (.sipush 255, 3) := by decide +kernel
theorem hd_lc_12 : decode prog_19_method_2_code 12 = .ok (.iand, 1) := by decide +kernel
theorem hd_lc_13 : decode prog_19_method_2_code 13 = .ok (.i2c, 1) := by decide +kernel
theorem hd_lc_14 : decode prog_19_method_2_code 14 = .ok (.ireturn, 1) := by decide +kernel
theorem hd_il_0 : decode prog_18_method_154_code 0 = .ok (.getstatic 38, 3) := by decide +kernel
theorem hd_il_3 : decode prog_18_method_154_code 3 = .ok (.ifCond .eq 14, 3) := by decide +kernel
theorem hd_il_6 : decode prog_18_method_154_code 6 = .ok (.aload_n 0, 1) := by decide +kernel
theorem hd_il_7 : decode prog_18_method_154_code 7 = .ok (.getfield 15, 3) := by decide +kernel
theorem hd_il_10 : decode prog_18_method_154_code 10 = .ok (.ifCond .ne 7, 3) := by decide +kernel
theorem hd_il_13 : decode prog_18_method_154_code 13 = .ok (.iconst 1, 1) := by decide +kernel
theorem hd_il_14 : decode prog_18_method_154_code 14 = .ok (.goto 4, 3) := by decide +kernel
theorem hd_il_18 : decode prog_18_method_154_code 18 = .ok (.ireturn, 1) := by decide +kernel
theorem hd_ca_0 : decode prog_18_method_56_code 0 = .ok (.aload_n 0, 1) := by decide +kernel
theorem hd_ca_1 : decode prog_18_method_56_code 1 = .ok (.invokevirtual 492, 3) := by decide +kernel
theorem hd_ca_4 : decode prog_18_method_56_code 4 = .ok (.ifCond .eq 12, 3) := by decide +kernel
theorem hd_ca_7 : decode prog_18_method_56_code 7 = .ok (.aload_n 0, 1) := by decide +kernel
theorem hd_ca_8 : decode prog_18_method_56_code 8 = .ok (.getfield 9, 3) := by decide +kernel
theorem hd_ca_11 : decode prog_18_method_56_code 11 = .ok (.iload_n 1, 1) := by decide +kernel
theorem hd_ca_12 : decode prog_18_method_56_code 12 = .ok (.invokestatic 495, 3) := by decide +kernel
theorem hd_ca_15 : decode prog_18_method_56_code 15 = .ok (.ireturn, 1) := by decide +kernel
theorem hS_any {A : Nat → Prop} {H0 H : Heap} {locs : List Loc} (h : va_S (fun _ => False) H0 H locs) : va_S A H0 H locs := ⟨h.1, fun q h1 _ => h.2.1 q h1 (fun z => z.elim), fun q hq => (h.2.2 q hq).elim⟩
set_option maxHeartbeats 4000000 in
set_option maxRecDepth 100000 in
theorem hc_pc_n (l : Launch) {i n : Int32} (h0 : ¬ i < 0) (h1 : i < n) : Met l hy_pc (Cond.code hy_pc prog_23_method_11_code 3 (some .int) :: bx_TB) ({ frames := 0, cells := 0, slots := 0, locals := 0 } : Room) (va_Pc [.int i, .int n, .null] (fun _ => True)) (va_Qi (fun (_ : Int32) (_ : Unit) => True) (fun _ _ => True) (fun _ => False)) 0 0 (fun _ => False) := by
  refine Met.ofW (cc := prog_23_method_11_code) (maxL := 3) (ret := (some .int)) (by decide +kernel) rfl ?_
  intro p e s m args below meth c s₁ B hml hv
  obtain ⟨rfl, -⟩ := hv
  have hx := B.exec
  have hb := B.bytes
  have hr := B.returns
  have hts0 := atoms_spec (ws := Cond.code hy_pc prog_23_method_11_code 3 (some .int) :: bx_TB) B.pre
  have hts : ∀ w ∈ bx_TB, w.before ([.int i, .int n, .null] : List Value).toArray s = true := fun w hw => hts0 w (List.mem_cons_of_mem _ hw)
  have hown := findClass_of_methodNamed B.named
  have hlocks := B.notSynchronized
  have hS : va_S (fun _ => False) s.heap s.heap [] := va_S.rf
  have hl := lv_entry ([.int i, .int n, .null]) (n := 3) (Nat.le_of_ble_eq_true rfl)
  rw [lg_entry_eq]
  generalize (lg_sl ([.int i, .int n, .null]) ++ List.replicate (3 - (lg_sl ([.int i, .int n, .null])).length) Slot.unset).toArray = ls at hl ⊢
  have hl : lv_has ls 3 [(0, .int i), (1, .int n), (2, .null)] := hl
  refine lv_iload_n hx hb hd_pc_0 rfl (lv_at hl 0 rfl) ?_
  refine lv_if_lt hx hb (tgt := 9) hd_pc_1 rfl (fun h => absurd h h0) (fun _ => ?_)
  refine lv_iload_n hx hb hd_pc_4 rfl (lv_at hl 0 rfl) ?_
  refine lv_iload_n hx hb hd_pc_5 rfl (lv_at hl 1 rfl) ?_
  refine lv_icmp_lt hx hb (tgt := 16) hd_pc_6 rfl (fun _ => ?_) (fun h => absurd h1 h)
  refine lv_iload_n hx hb hd_pc_16 rfl (lv_at hl 0 rfl) ?_
  exact W.iret (v := i) hx hb hr (fun t ht hW => ⟨⟨i, (), rfl, trivial, trivial⟩, hS.F ht⟩) hS.2.2 hd_pc_17
set_option maxHeartbeats 4000000 in
set_option maxRecDepth 100000 in
theorem hc_pc_r (l : Launch) {i n : Int32} {t : Nat} (h0 : ¬ i < 0) (h1 : i < n) : Met l hy_pc (Cond.code hy_pc prog_23_method_11_code 3 (some .int) :: bx_TB) ({ frames := 0, cells := 0, slots := 0, locals := 0 } : Room) (va_Pc [.int i, .int n, .ref t] (fun _ => True)) (va_Qi (fun (_ : Int32) (_ : Unit) => True) (fun _ _ => True) (fun _ => False)) 0 0 (fun _ => False) := by
  refine Met.ofW (cc := prog_23_method_11_code) (maxL := 3) (ret := (some .int)) (by decide +kernel) rfl ?_
  intro p e s m args below meth c s₁ B hml hv
  obtain ⟨rfl, -⟩ := hv
  have hx := B.exec
  have hb := B.bytes
  have hr := B.returns
  have hts0 := atoms_spec (ws := Cond.code hy_pc prog_23_method_11_code 3 (some .int) :: bx_TB) B.pre
  have hts : ∀ w ∈ bx_TB, w.before ([.int i, .int n, .ref t] : List Value).toArray s = true := fun w hw => hts0 w (List.mem_cons_of_mem _ hw)
  have hown := findClass_of_methodNamed B.named
  have hlocks := B.notSynchronized
  have hS : va_S (fun _ => False) s.heap s.heap [] := va_S.rf
  have hl := lv_entry ([.int i, .int n, .ref t]) (n := 3) (Nat.le_of_ble_eq_true rfl)
  rw [lg_entry_eq]
  generalize (lg_sl ([.int i, .int n, .ref t]) ++ List.replicate (3 - (lg_sl ([.int i, .int n, .ref t])).length) Slot.unset).toArray = ls at hl ⊢
  have hl : lv_has ls 3 [(0, .int i), (1, .int n), (2, .ref t)] := hl
  refine lv_iload_n hx hb hd_pc_0 rfl (lv_at hl 0 rfl) ?_
  refine lv_if_lt hx hb (tgt := 9) hd_pc_1 rfl (fun h => absurd h h0) (fun _ => ?_)
  refine lv_iload_n hx hb hd_pc_4 rfl (lv_at hl 0 rfl) ?_
  refine lv_iload_n hx hb hd_pc_5 rfl (lv_at hl 1 rfl) ?_
  refine lv_icmp_lt hx hb (tgt := 16) hd_pc_6 rfl (fun _ => ?_) (fun h => absurd h1 h)
  refine lv_iload_n hx hb hd_pc_16 rfl (lv_at hl 0 rfl) ?_
  exact W.iret (v := i) hx hb hr (fun t ht hW => ⟨⟨i, (), rfl, trivial, trivial⟩, hS.F ht⟩) hS.2.2 hd_pc_17
set_option maxHeartbeats 4000000 in
set_option maxRecDepth 100000 in
theorem hc_ck (l : Launch) (A : Nat → Prop) {i n : Int32} (h0 : ¬ i < 0) (h1 : i < n) : Met l hy_ck (Cond.code hy_ck prog_18_method_155_code 2 none :: bx_TB) ({ frames := 1, cells := 0, slots := 0, locals := 22 } : Room) (va_Pc [.int i, .int n] (fun U => va_Zq "jdk/internal/util/Preconditions" "SIOOBE_FORMATTER" "Ljava/util/function/BiFunction;" A U U.heap)) (va_Qv (fun (_ : Unit) => True) (fun _ _ => True) (fun _ => False)) 0 0 (fun _ => False) := by
  refine Met.ofW (cc := prog_18_method_155_code) (maxL := 2) (ret := none) (by decide +kernel) rfl ?_
  intro p e s m args below meth c s₁ B hml hv
  obtain ⟨rfl, hQ⟩ := hv
  have hx := B.exec
  have hb := B.bytes
  have hr := B.returns
  have hts0 := atoms_spec (ws := Cond.code hy_ck prog_18_method_155_code 2 none :: bx_TB) B.pre
  have hts : ∀ w ∈ bx_TB, w.before ([.int i, .int n] : List Value).toArray s = true := fun w hw => hts0 w (List.mem_cons_of_mem _ hw)
  have hown := findClass_of_methodNamed B.named
  have hlocks := B.notSynchronized
  have hS : va_S (fun _ => False) s.heap s.heap [] := va_S.rf
  have hl := lv_entry ([.int i, .int n]) (n := 2) (Nat.le_of_ble_eq_true rfl)
  rw [lg_entry_eq]
  generalize (lg_sl ([.int i, .int n]) ++ List.replicate (2 - (lg_sl ([.int i, .int n])).length) Slot.unset).toArray = ls at hl ⊢
  have hl : lv_has ls 2 [(0, .int i), (1, .int n)] := hl
  refine lv_iload_n hx hb hd_ck_0 rfl (lv_at hl 0 rfl) ?_
  refine lv_iload_n hx hb hd_ck_1 rfl (lv_at hl 1 rfl) ?_
  rcases hQ with hZ | ⟨t0, hZ⟩
  · refine va_gets hx hb hZ va_S.rf hown (hts _ hw_fsf) (fun _ h => h) hd_ck_2 ?_
    refine va_calli (va_runS (As := [.int i, .int n, .null]) (rest := []) (Ts := bx_TB) ⟨hx, hb, hml, hown, hts⟩ (hc_pc_n l h0 h1) ⟨bx_callB 3 hts hw_pcc rfl rfl (hts _ hw_iP) (hts _ hw_pcl) (by decide +kernel) ⟨Nat.le_of_ble_eq_true rfl, Nat.le_of_ble_eq_true rfl⟩, hts _ hw_pcs⟩ ⟨fun a U g mk q => q, fun U hU hW => ⟨rfl, trivial⟩⟩ rfl rfl hl.1 rfl (lv_room (Nat.le_of_ble_eq_true rfl)) hd_ck_5 ⟨Nat.zero_le _, Nat.zero_le _⟩) hS (fun q _ h => h.elim) (fun q h => h.elim) (fun r u t H1 locs1 ht hvm hp hB hz hk hS1 => ?_)
    refine lv_pop hx hb hd_ck_8 rfl ?_
    exact W.vret hx hb hr (fun t ht hW => ⟨⟨(), rfl, trivial, trivial⟩, hS1.F ht⟩) hS1.2.2 hd_ck_9
  · refine va_gets hx hb hZ va_S.rf hown (hts _ hw_fsf) (fun _ h => h) hd_ck_2 ?_
    refine va_calli (va_runS (As := [.int i, .int n, .ref t0]) (rest := []) (Ts := bx_TB) ⟨hx, hb, hml, hown, hts⟩ (hc_pc_r l h0 h1) ⟨bx_callB 3 hts hw_pcc rfl rfl (hts _ hw_iP) (hts _ hw_pcl) (by decide +kernel) ⟨Nat.le_of_ble_eq_true rfl, Nat.le_of_ble_eq_true rfl⟩, hts _ hw_pcs⟩ ⟨fun a U g mk q => q, fun U hU hW => ⟨rfl, trivial⟩⟩ rfl rfl hl.1 rfl (lv_room (Nat.le_of_ble_eq_true rfl)) hd_ck_5 ⟨Nat.zero_le _, Nat.zero_le _⟩) hS (fun q _ h => h.elim) (fun q h => h.elim) (fun r u t H1 locs1 ht hvm hp hB hz hk hS1 => ?_)
    refine lv_pop hx hb hd_ck_8 rfl ?_
    exact W.vret hx hb hr (fun t ht hW => ⟨⟨(), rfl, trivial, trivial⟩, hS1.F ht⟩) hS1.2.2 hd_ck_9
set_option maxHeartbeats 4000000 in
set_option maxRecDepth 100000 in
theorem hc_lc (l : Launch) (A : Nat → Prop) {v n : Nat} {f : Nat → Int32} {i r : Int32} (h0 : ¬ i < 0) (h1 : i < Int32.ofNat n) (hin : vp_in i n) (hc : ((f i.toNatClampNeg &&& 255).toUInt32 % 65536).toInt32 = r) (hn : narrow .char (.int r) = .int r) : Met l hy_lc (Cond.code hy_lc prog_19_method_2_code 2 (some .char) :: bx_TB) ({ frames := 2, cells := 0, slots := 0, locals := 43 } : Room) (va_Pc [.ref v, .int i] (fun U => va_T .byte v n (fun j => .int (f j)) A U U.heap ∧ va_Zq "jdk/internal/util/Preconditions" "SIOOBE_FORMATTER" "Ljava/util/function/BiFunction;" A U U.heap)) (va_Qi (fun (z : Int32) (_ : Unit) => z = r) (fun _ _ => True) (fun _ => False)) 0 0 (fun _ => False) := by
  refine Met.ofW (cc := prog_19_method_2_code) (maxL := 2) (ret := (some .char)) (by decide +kernel) rfl ?_
  intro p e s m args below meth c s₁ B hml hv
  obtain ⟨rfl, hT, hQ⟩ := hv
  have hx := B.exec
  have hb := B.bytes
  have hr := B.returns
  have hts0 := atoms_spec (ws := Cond.code hy_lc prog_19_method_2_code 2 (some .char) :: bx_TB) B.pre
  have hts : ∀ w ∈ bx_TB, w.before ([.ref v, .int i] : List Value).toArray s = true := fun w hw => hts0 w (List.mem_cons_of_mem _ hw)
  have hown := findClass_of_methodNamed B.named
  have hlocks := B.notSynchronized
  have hS : va_S (fun _ => False) s.heap s.heap [] := va_S.rf
  have hl := lv_entry ([.ref v, .int i]) (n := 2) (Nat.le_of_ble_eq_true rfl)
  rw [lg_entry_eq]
  generalize (lg_sl ([.ref v, .int i]) ++ List.replicate (2 - (lg_sl ([.ref v, .int i])).length) Slot.unset).toArray = ls at hl ⊢
  have hl : lv_has ls 2 [(0, .ref v), (1, .int i)] := hl
  refine lv_iload_n hx hb hd_lc_0 rfl (lv_at hl 1 rfl) ?_
  refine lv_aload_n hx hb hd_lc_1 rfl (lv_at hl 0 rfl) ?_
  refine va_tlen hx hb hT va_S.rf (v := Int32.ofNat n) rfl hd_lc_2 ?_
  refine va_callv (va_runS (As := [.int i, .int (Int32.ofNat n)]) (rest := []) (Ts := bx_TB) ⟨hx, hb, hml, hown, hts⟩ (hc_ck l A h0 h1) ⟨bx_callB 2 hts hw_ckc rfl rfl (hts _ hw_iS) (hts _ hw_ckl) (by decide +kernel) ⟨Nat.le_of_ble_eq_true rfl, Nat.le_of_ble_eq_true rfl⟩, hts _ hw_cks⟩ ⟨fun a U g mk q => ⟨q.1, va_Zq.moved (u := U) (U := U.calling g mk a) (Vm.Alike.refl U.vm) q.2⟩, fun U hU hW => ⟨rfl, by show va_Zq _ _ _ A U U.heap; rw [hU]; exact hQ.moved hW.alike⟩⟩ rfl rfl hl.1 rfl (lv_room (Nat.le_of_ble_eq_true rfl)) hd_lc_3 ⟨Nat.zero_le _, Nat.zero_le _⟩) hS (fun q _ h => h.elim) (fun q h => h.elim) (fun u t H1 locs1 ht hvm hp hB hz hk hS1 => ?_)
  refine lv_aload_n hx hb hd_lc_6 rfl (lv_at hl 0 rfl) ?_
  refine lv_iload_n hx hb hd_lc_7 rfl (lv_at hl 1 rfl) ?_
  refine va_tb hx hb hT (hS_any hS1) hin (v := .int (f i.toNatClampNeg)) rfl hd_lc_8 ?_
  refine lv_sipush (v := 255) hx hb hd_lc_9 (by decide +kernel) ?_
  refine lv_iand hx hb hd_lc_12 ?_
  refine lv_i2c (v := r) hx hb hd_lc_13 hc ?_
  exact W.zret (v := r) hx hb hr hn (fun t ht hW => ⟨⟨r, (), rfl, rfl, trivial⟩, hS1.F ht⟩) hS1.2.2 hd_lc_14
set_option maxHeartbeats 4000000 in
set_option maxRecDepth 100000 in
theorem hc_il (l : Launch) (A : Nat → Prop) {b : Nat} : Met l hy_il (Cond.code hy_il prog_18_method_154_code 1 (some .boolean) :: bx_TB) ({ frames := 0, cells := 0, slots := 0, locals := 0 } : Room) (va_Pc [.ref b] (fun U => va_Z "java/lang/String" "COMPACT_STRINGS" "Z" (.int 1) A U U.heap ∧ va_OF "java/lang/String" "coder" "B" (.int 0) b A U U.heap)) (va_Qi (fun (z : Int32) (_ : Unit) => z = 1) (fun _ _ => True) (fun _ => False)) 0 0 (fun _ => False) := by
  refine Met.ofW (cc := prog_18_method_154_code) (maxL := 1) (ret := (some .boolean)) (by decide +kernel) rfl ?_
  intro p e s m args below meth c s₁ B hml hv
  obtain ⟨rfl, hZ, hO⟩ := hv
  have hx := B.exec
  have hb := B.bytes
  have hr := B.returns
  have hts0 := atoms_spec (ws := Cond.code hy_il prog_18_method_154_code 1 (some .boolean) :: bx_TB) B.pre
  have hts : ∀ w ∈ bx_TB, w.before ([.ref b] : List Value).toArray s = true := fun w hw => hts0 w (List.mem_cons_of_mem _ hw)
  have hown := findClass_of_methodNamed B.named
  have hlocks := B.notSynchronized
  have hS : va_S (fun _ => False) s.heap s.heap [] := va_S.rf
  have hl := lv_entry ([.ref b]) (n := 1) (Nat.le_of_ble_eq_true rfl)
  rw [lg_entry_eq]
  generalize (lg_sl ([.ref b]) ++ List.replicate (1 - (lg_sl ([.ref b])).length) Slot.unset).toArray = ls at hl ⊢
  have hl : lv_has ls 1 [(0, .ref b)] := hl
  refine va_gets hx hb hZ va_S.rf hown (hts _ hw_fcs) (fun _ h => h) hd_il_0 ?_
  refine lv_if_eq hx hb (tgt := 17) hd_il_3 rfl (fun h => absurd h (by decide)) (fun _ => ?_)
  refine lv_aload_n hx hb hd_il_6 rfl (lv_at hl 0 rfl) ?_
  refine vk_getf hx hb hO va_S.rf hown (hts _ hw_fco) (fun _ h => h) hd_il_7 ?_
  refine lv_if_ne hx hb (tgt := 17) hd_il_10 rfl (fun h => absurd rfl h) (fun _ => ?_)
  refine lv_iconst (v := 1) hx hb hd_il_13 (by decide) ?_
  refine lv_goto (tgt := 18) hx hb hd_il_14 rfl ?_
  exact W.zret (v := 1) hx hb hr (by decide +kernel) (fun t ht hW => ⟨⟨1, (), rfl, rfl, trivial⟩, hS.F ht⟩) hS.2.2 hd_il_18
set_option maxHeartbeats 4000000 in
set_option maxRecDepth 100000 in
theorem hc_ca (l : Launch) (A : Nat → Prop) {b v n : Nat} {tx : List Int32} {i r : Int32} (h0 : ¬ i < 0) (h1 : i < Int32.ofNat n) (hin : vp_in i n) (hc : ((tx.getD i.toNatClampNeg 0 &&& 255).toUInt32 % 65536).toInt32 = r) (hn : narrow .char (.int r) = .int r) : Met l hy_ca (Cond.code hy_ca prog_18_method_56_code 2 (some .char) :: bx_TB) ({ frames := 3, cells := 0, slots := 0, locals := 64 } : Room) (va_Pc [.ref b, .int i] (fun U => vk_S 1 [n] [tx] (fun _ => b) (fun _ => v) A U U.heap ∧ va_Z "java/lang/String" "COMPACT_STRINGS" "Z" (.int 1) A U U.heap ∧ va_Zq "jdk/internal/util/Preconditions" "SIOOBE_FORMATTER" "Ljava/util/function/BiFunction;" A U U.heap)) (va_Qi (fun (z : Int32) (_ : Unit) => z = r) (fun _ _ => True) (fun _ => False)) 0 0 (fun _ => False) := by
  refine Met.ofW (cc := prog_18_method_56_code) (maxL := 2) (ret := (some .char)) (by decide +kernel) rfl ?_
  intro p e s m args below meth c s₁ B hml hv
  obtain ⟨rfl, hK, hZ, hQ⟩ := hv
  have hx := B.exec
  have hb := B.bytes
  have hr := B.returns
  have hts0 := atoms_spec (ws := Cond.code hy_ca prog_18_method_56_code 2 (some .char) :: bx_TB) B.pre
  have hts : ∀ w ∈ bx_TB, w.before ([.ref b, .int i] : List Value).toArray s = true := fun w hw => hts0 w (List.mem_cons_of_mem _ hw)
  have hown := findClass_of_methodNamed B.named
  have hlocks := B.notSynchronized
  have hS : va_S (fun _ => False) s.heap s.heap [] := va_S.rf
  have hl := lv_entry ([.ref b, .int i]) (n := 2) (Nat.le_of_ble_eq_true rfl)
  rw [lg_entry_eq]
  generalize (lg_sl ([.ref b, .int i]) ++ List.replicate (2 - (lg_sl ([.ref b, .int i])).length) Slot.unset).toArray = ls at hl ⊢
  have hl : lv_has ls 2 [(0, .ref b), (1, .int i)] := hl
  obtain ⟨-, hO, hV, hT⟩ := hK.1 0 (by decide)
  refine lv_aload_n hx hb hd_ca_0 rfl (lv_at hl 0 rfl) ?_
  refine va_calli (va_runV (As := []) (rest := []) (Ts := bx_TB) (C := "java/lang/String") ⟨hx, hb, hml, hown, hts⟩ (hc_il l A) ⟨bx_callB 0 hts hw_ilc rfl rfl (hts _ hw_iS) (hts _ hw_ill) (by decide +kernel) ⟨Nat.le_of_ble_eq_true rfl, Nat.le_of_ble_eq_true rfl⟩, hts _ hw_ili, hts _ hw_ils⟩ ⟨fun a U g mk q => ⟨q.1, va_Z.moved (u := U) (U := U.calling g mk a) (Vm.Alike.refl U.vm) q.2.1, va_OF.moved (u := U) (U := U.calling g mk a) (Vm.Alike.refl U.vm) q.2.2⟩, vk_recv hK (i := 0) (by decide) va_S.rf, fun U hU hW => ⟨rfl, by rw [hU]; exact hZ.moved hW.alike, by rw [hU]; exact hO.moved hW.alike⟩⟩ rfl rfl hl.1 rfl (lv_room (Nat.le_of_ble_eq_true rfl)) hd_ca_1 ⟨Nat.zero_le _, Nat.zero_le _⟩) hS (fun q _ h => h.elim) (fun q h => h.elim) (fun z u t H1 locs1 ht hvm hp hB hz hk hS1 => ?_)
  subst hp
  refine lv_if_eq hx hb (tgt := 16) hd_ca_4 rfl (fun h => absurd h (by decide)) (fun _ => ?_)
  refine lv_aload_n hx hb hd_ca_7 rfl (lv_at hl 0 rfl) ?_
  refine vk_getf hx hb hV (hS_any hS1) hown (hts _ hw_fva) (fun _ h => h) hd_ca_8 ?_
  refine lv_iload_n hx hb hd_ca_11 rfl (lv_at hl 1 rfl) ?_
  have hT1 := hT.kept (H1 := H1) (fun a g1 _ => hS1.2.1 a g1 (fun z => z.elim))
  have hQ1 := hQ.kept (H1 := H1) (fun a g1 _ => hS1.2.1 a g1 (fun z => z.elim))
  refine va_calli (va_runS (As := [.ref v, .int i]) (rest := []) (Ts := bx_TB) ⟨hx, hb, hml, hown, hts⟩ (hc_lc l A (f := fun j => tx.getD j 0) (n := n) h0 h1 hin hc hn) ⟨bx_callB 2 hts hw_lcc rfl rfl (hts _ hw_iL) (hts _ hw_lcl) (by decide +kernel) ⟨Nat.le_of_ble_eq_true rfl, Nat.le_of_ble_eq_true rfl⟩, hts _ hw_lcs⟩ ⟨fun a U g mk q => ⟨q.1, va_T.moved (u := U) (U := U.calling g mk a) (Vm.Alike.refl U.vm) q.2.1, va_Zq.moved (u := U) (U := U.calling g mk a) (Vm.Alike.refl U.vm) q.2.2⟩, fun U hU hW => ⟨rfl, by rw [hU]; exact hT1.moved hW.alike, by rw [hU]; exact hQ1.moved hW.alike⟩⟩ rfl rfl hl.1 rfl (lv_room (Nat.le_of_ble_eq_true rfl)) hd_ca_12 ⟨Nat.zero_le _, Nat.zero_le _⟩) hS1 (fun q _ h => h.elim) (fun q h => h.elim) (fun z u t H2 locs2 ht hvm hp hB hz2 hk2 hS2 => ?_)
  subst hp
  exact W.zret (v := z) hx hb hr hn (fun t ht hW => ⟨⟨z, (), rfl, rfl, trivial⟩, hS2.F ht⟩) hS2.2.2 hd_ca_15
theorem ax_txb_ok : ∀ i, i < ax_txb.length → ((ax_txb.getD i 0 &&& 255).toUInt32 % 65536).toInt32 = ax_wd ax_txb i ∧ narrow .char (.int (ax_wd ax_txb i)) = .int (ax_wd ax_txb i) := by decide +kernel
theorem ax_txb_len : ax_txb.length = 90 := by decide +kernel
section HCH
variable {l : Launch} {X : Nat × (Nat → Int32)} {D : va_G} {κ ρ : Nat → Nat} {A : Nat → Prop} {M : ax_M} {out : ax_E} {p : Program} {e : Env} {s : State} {m : MethodId} {args : Array Value} {below : List Frame} {meth : Method} {cd : Code} {pc : Nat} {ls : ax_L} {w : ax_W} {lg : List Nat} {sl : Nat}
theorem hc_lt {i : Int32} (h0 : ¬ i < 0) (h : i.toNatClampNeg < 90) : i < Int32.ofNat 90 := by
  have h1 : (0 : Int) ≤ i.toInt := by
    have := Int32.not_lt.mp h0
    simpa using Int32.le_iff_toInt_le.mp this
  refine Int32.lt_iff_toInt_lt.mpr ?_
  have h2 : i.toInt = ((i.toInt.toNat : Nat) : Int) := by omega
  have h3 : i.toInt.toNat < 90 := h
  have h4 : (Int32.ofNat 90).toInt = 90 := by decide
  omega
set_option maxHeartbeats 4000000 in
set_option maxRecDepth 100000 in
theorem hc_chr (hC : bx_Cx (ax_GG X) D κ ρ A M out p s m args meth cd) (hroom : 5 ≤ M.2.2.2.2.1 ∧ 120 ≤ M.2.2.2.2.2.1) {i : Nat} {x : Int32} {st : List Value} (hd : decode M.2.1 pc = .ok (.invokevirtual i, 3)) (hlk : Cond.methodLink M.1.cls i hy_ca ∈ bx_TB) (hcs : ax_cs st ≤ 8) (hin : vp_in x ax_txb.length) (k : ax_SW l D κ ρ A M out p e s m args below meth cd (pc + 3) ls (.int (ax_wd ax_txb x.toNatClampNeg) :: st) w lg sl) : ax_SW l D κ ρ A M out p e s m args below meth cd pc ls (.int x :: .ref 902 :: st) w lg sl := by
  intro H locs r hI
  have hts := hC.2.2.2.2.2.2.2.1
  obtain ⟨-, -, -, -, hK, hZ, hQ⟩ := hC.2.2.2.2.2.2.2.2.2.1
  have hK : vk_S 1 [ax_txb.length] [ax_txb] (fun _ => ρ 902) (fun _ => ρ 904) A s s.heap := hK
  have hSA : va_S A s.heap H locs := hI.2.2.2.1
  have h0 : ¬ x < 0 := fun h => hin (Or.inl h)
  have hlt : x.toNatClampNeg < ax_txb.length := Nat.not_le.mp (fun h => hin (Or.inr h))
  have h1 : x < Int32.ofNat ax_txb.length := by
    rw [ax_txb_len] at hlt ⊢
    exact hc_lt h0 hlt
  obtain ⟨hc, hn⟩ := ax_txb_ok _ hlt
  have hroomC : lg.length + 0 ≤ (ax_Rm M out).cells ∧ sl + 0 ≤ (ax_Rm M out).slots := ⟨hI.2.2.2.2.2.1.length_le, hI.2.2.2.2.2.2⟩
  have hK1 := hK.kept (H1 := H) (fun a g1 g2 => hSA.2.1 a g1 g2)
  have hZ1 := hZ.kept (H1 := H) (fun a g1 g2 => hSA.2.1 a g1 g2)
  have hQ1 := hQ.kept (H1 := H) (fun a g1 g2 => hSA.2.1 a g1 g2)
  have hrun := va_runV (l := l) (e := e) (below := below) (meth := meth) (H := H) (locs := locs) (cells := lg.length) (slots := sl) (R := ax_Rm M out) (g := F0 m pc r ((Value.int x :: .ref 902 :: st).map (ax_rv ρ))) (As := [.int x]) (b := ρ 902) (rest := st.map (ax_rv ρ)) (Ts := bx_TB) (C := "java/lang/String") (own := M.1.cls) ⟨hC.1, hC.2.1, hC.2.2.1, hC.2.2.2.1, hts⟩ (hc_ca l A (b := ρ 902) (v := ρ 904) (n := ax_txb.length) (tx := ax_txb) h0 h1 hin hc hn) ⟨bx_callB 1 hts hw_cac rfl rfl (hts _ hw_iS) (hts _ hlk) (by decide +kernel) ⟨by show 3 + 1 ≤ M.2.2.2.2.1; omega, by show 8 + (2 + 11) + 64 ≤ M.2.2.2.2.2.1; omega⟩, hts _ hw_cai, hts _ hw_cas⟩ ⟨fun a U g mk q => ⟨q.1, vk_S.moved (u := U) (U := U.calling g mk a) (Vm.Alike.refl U.vm) q.2.1, va_Z.moved (u := U) (U := U.calling g mk a) (Vm.Alike.refl U.vm) q.2.2.1, va_Zq.moved (u := U) (U := U.calling g mk a) (Vm.Alike.refl U.vm) q.2.2.2⟩, vk_recv hK (i := 0) (by decide) hSA, fun U hU hW => ⟨rfl, by rw [hU]; exact hK1.moved hW.alike, by rw [hU]; exact hZ1.moved hW.alike, by rw [hU]; exact hQ1.moved hW.alike⟩⟩ rfl rfl hI.1.1 rfl (by show 2 * 0 + _ ≤ 8; rw [ax_cs_eq]; omega) hd hroomC
  refine va_calli hrun hSA (fun q _ h => h.elim) (fun q h => h.elim) (fun z u t H1 locs1 ht hvm hp hB hz hk hS1 => ?_)
  subst hp
  obtain ⟨i1, i2, i3, i4, i5, i6, i7⟩ := hI
  exact k H1 locs1 r ⟨i1, ⟨fun k e hke => (i2.1 k e hke).kept (hk _ (i2.1 k e hke).lt (fun z => z.elim)), i2.2⟩, i3, hS1, Nat.le_trans i5 hz, i6, i7⟩
end HCH
