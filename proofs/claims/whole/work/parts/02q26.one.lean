section AXO
variable {l : Launch} {G : ax_G} {D : va_G} {κ ρ : Nat → Nat} {A : Nat → Prop} {M : ax_M} {out : ax_E} {p : Program} {e : Env} {s : State} {m : MethodId} {args : Array Value} {below : List Frame} {meth : Method} {cd : Code} {pc : Nat} {ls : ax_L} {st : List Value} {w : ax_W} {lg : List Nat} {sl : Nat}
set_option maxHeartbeats 4000000 in
theorem bx_one_pf (hC : bx_Cx G D κ ρ A M out p s m args meth cd) {i a b d : Nat} {cv : Int32} {cl : Int64} {sws : List (Int32 × Nat)} {isf : List Value → ax_W → Option (List Nat)} {kp : Option (List Bool)} {q : vw_C} {ty : FieldType} (hd : decode M.2.1 pc = .ok (.putfield i, 3)) (hq : vwCl[a]? = some q) (hb : b < q.2.2) (hw : Cond.fieldLink M.1.cls i (q.2.1 b).1 (q.2.1 b).2.1 (q.2.1 b).2.2.1 ∈ bx_TB) (hpt : parseFieldDescriptor (q.2.1 b).2.2.1 = some ty) (hty : (match d with
          | 0 => decide (ty = .int)
          | 1 => decide (ty = .long)
          | 2 => ax_refs ty
          | _ => decide (ty = .boolean)) = true) (hfin : (q.2.1 b).2.2.2 = false ∨ ((q.2.1 b).2.2.2 = true ∧ M.1.name = "<init>" ∧ (q.2.1 b).1 = M.1.cls)) {g : Option Prop} {pc' : Nat} {ls' : ax_L} {st' : List Value} {w' : ax_W} {lg' : List Nat} {sl' : Nat} (hstep : ax_dor G pc (.putfield i, 3, a, b, d, cv, cl, sws, isf, kp) ls st w lg sl = some (.inl (g, (pc', ls', st', w', lg', sl')))) (hg : ax_ok g) (k : ax_SW l D κ ρ A M out p e s m args below meth cd pc' ls' st' w' lg' sl') : ax_SW l D κ ρ A M out p e s m args below meth cd pc ls st w lg sl := by
  have key : ∀ (v : Value) (y : Nat) (r : List Value) (g0 : Option Prop), (∀ ρ, narrow ty (ax_rv ρ v) = ax_rv ρ v) → (∀ ρ, fits ty (ax_rv ρ v) = true) → st = v :: .ref y :: r → ax_pf (pc + 3) a b v y ls r w lg sl g0 = some (.inl (g, (pc', ls', st', w', lg', sl'))) → ax_SW l D κ ρ A M out p e s m args below meth cd pc ls st w lg sl := by
    intro v y r g0 hn hf hst hpf
    subst hst
    unfold ax_pf at hpf
    split at hpf
    · rename_i ci fs hy
      split at hpf
      · rename_i hca
        obtain ⟨rfl, hlen⟩ := hca
        cases hpf
        exact bs_put hC hd hq hb hw hpt hn hf hfin hy hlen k
      · cases hpf
    · cases hpf
  simp only [ax_dor, ax_do] at hstep
  split at hstep
  · simp only [decide_eq_true_eq] at hty
    subst hty
    split at hstep
    · exact key _ _ _ _ (fun _ => rfl) (fun _ => rfl) rfl hstep
    · cases hstep
  · simp only [decide_eq_true_eq] at hty
    subst hty
    split at hstep
    · exact key _ _ _ _ (fun _ => rfl) (fun _ => rfl) rfl hstep
    · cases hstep
  · split at hstep
    · refine key _ _ _ _ (fun _ => ?_) (fun _ => ?_) rfl hstep <;> cases ty <;> first | rfl | cases hty
    · refine key _ _ _ _ (fun _ => ?_) (fun _ => ?_) rfl hstep <;> cases ty <;> first | rfl | cases hty
    · cases hstep
  · split at hty
    · exact absurd rfl (by assumption)
    · exact absurd rfl (by assumption)
    · exact absurd rfl (by assumption)
    · simp only [decide_eq_true_eq] at hty
      subst hty
      split at hstep
      · rename_i x y r
        have hx : x = 0 ∨ x = 1 := by
          unfold ax_pf at hstep
          split at hstep
          · split at hstep
            · cases hstep; exact hg
            · cases hstep
          · cases hstep
        exact key _ _ _ _ (fun _ => by rcases hx with rfl | rfl <;> rfl) (fun _ => by rcases hx with rfl | rfl <;> rfl) rfl hstep
      · cases hstep
set_option maxHeartbeats 4000000 in
theorem bx_one (hC : bx_Cx G D κ ρ A M out p s m args meth cd) (hCh : ∀ {i : Nat} {x : Int32} {st : List Value}, decode M.2.1 pc = .ok (.invokevirtual i, 3) → Cond.methodLink M.1.cls i ⟨"java/lang/String", "charAt", "(I)C"⟩ ∈ bx_TB → 1 ≤ M.2.2.2.2.1 → ax_cs st ≤ 8 → vp_in x G.2.2.1.length → ax_SW l D κ ρ A M out p e s m args below meth cd (pc + 3) ls (.int (ax_wd G.2.2.1 x.toNatClampNeg) :: st) w lg sl → ax_SW l D κ ρ A M out p e s m args below meth cd pc ls (.int x :: .ref 902 :: st) w lg sl) {r : ax_R} (hrok : ax_rok G.2.1 G.2.2.2 M pc r = true) (hwl : ∀ w ∈ ax_wl M, w ∈ bx_TB) {g : Option Prop} {pc' : Nat} {ls' : ax_L} {st' : List Value} {w' : ax_W} {lg' : List Nat} {sl' : Nat} (hstep : ax_dor G pc r ls st w lg sl = some (.inl (g, (pc', ls', st', w', lg', sl')))) (hg : ax_ok g) (hl : lg' <+: out.2.2.1) (hs : sl' ≤ out.2.2.2) (k : ax_SW l D κ ρ A M out p e s m args below meth cd pc' ls' st' w' lg' sl') : ax_SW l D κ ρ A M out p e s m args below meth cd pc ls st w lg sl := by
  obtain ⟨ins, len, a, b, d, cv, cl, sws, isf, kp⟩ := r
  cases ins with
  | iadd =>
    simp only [ax_rok, Bool.and_eq_true, decide_eq_true_eq] at hrok
    obtain ⟨hd, rfl⟩ := hrok
    simp only [ax_dor, ax_do] at hstep
    split at hstep
    · cases hstep
      exact bs_iadd hC hd k
    · cases hstep
  | isub =>
    simp only [ax_rok, Bool.and_eq_true, decide_eq_true_eq] at hrok
    obtain ⟨hd, rfl⟩ := hrok
    simp only [ax_dor, ax_do] at hstep
    split at hstep
    · cases hstep
      exact bs_isub hC hd k
    · cases hstep
  | imul =>
    simp only [ax_rok, Bool.and_eq_true, decide_eq_true_eq] at hrok
    obtain ⟨hd, rfl⟩ := hrok
    simp only [ax_dor, ax_do] at hstep
    split at hstep
    · cases hstep
      exact bs_imul hC hd k
    · cases hstep
  | iand =>
    simp only [ax_rok, Bool.and_eq_true, decide_eq_true_eq] at hrok
    obtain ⟨hd, rfl⟩ := hrok
    simp only [ax_dor, ax_do] at hstep
    split at hstep
    · cases hstep
      exact bs_iand hC hd k
    · cases hstep
  | ior =>
    simp only [ax_rok, Bool.and_eq_true, decide_eq_true_eq] at hrok
    obtain ⟨hd, rfl⟩ := hrok
    simp only [ax_dor, ax_do] at hstep
    split at hstep
    · cases hstep
      exact bs_ior hC hd k
    · cases hstep
  | ixor =>
    simp only [ax_rok, Bool.and_eq_true, decide_eq_true_eq] at hrok
    obtain ⟨hd, rfl⟩ := hrok
    simp only [ax_dor, ax_do] at hstep
    split at hstep
    · cases hstep
      exact bs_ixor hC hd k
    · cases hstep
  | ishl =>
    simp only [ax_rok, Bool.and_eq_true, decide_eq_true_eq] at hrok
    obtain ⟨hd, rfl⟩ := hrok
    simp only [ax_dor, ax_do] at hstep
    split at hstep
    · cases hstep
      exact bs_ishl hC hd k
    · cases hstep
  | ishr =>
    simp only [ax_rok, Bool.and_eq_true, decide_eq_true_eq] at hrok
    obtain ⟨hd, rfl⟩ := hrok
    simp only [ax_dor, ax_do] at hstep
    split at hstep
    · cases hstep
      exact bs_ishr hC hd k
    · cases hstep
  | iushr =>
    simp only [ax_rok, Bool.and_eq_true, decide_eq_true_eq] at hrok
    obtain ⟨hd, rfl⟩ := hrok
    simp only [ax_dor, ax_do] at hstep
    split at hstep
    · cases hstep
      exact bs_iushr hC hd k
    · cases hstep
  | ladd =>
    simp only [ax_rok, Bool.and_eq_true, decide_eq_true_eq] at hrok
    obtain ⟨hd, rfl⟩ := hrok
    simp only [ax_dor, ax_do] at hstep
    split at hstep
    · cases hstep
      exact bs_ladd hC hd k
    · cases hstep
  | lsub =>
    simp only [ax_rok, Bool.and_eq_true, decide_eq_true_eq] at hrok
    obtain ⟨hd, rfl⟩ := hrok
    simp only [ax_dor, ax_do] at hstep
    split at hstep
    · cases hstep
      exact bs_lsub hC hd k
    · cases hstep
  | lmul =>
    simp only [ax_rok, Bool.and_eq_true, decide_eq_true_eq] at hrok
    obtain ⟨hd, rfl⟩ := hrok
    simp only [ax_dor, ax_do] at hstep
    split at hstep
    · cases hstep
      exact bs_lmul hC hd k
    · cases hstep
  | land =>
    simp only [ax_rok, Bool.and_eq_true, decide_eq_true_eq] at hrok
    obtain ⟨hd, rfl⟩ := hrok
    simp only [ax_dor, ax_do] at hstep
    split at hstep
    · cases hstep
      exact bs_land hC hd k
    · cases hstep
  | lor =>
    simp only [ax_rok, Bool.and_eq_true, decide_eq_true_eq] at hrok
    obtain ⟨hd, rfl⟩ := hrok
    simp only [ax_dor, ax_do] at hstep
    split at hstep
    · cases hstep
      exact bs_lor hC hd k
    · cases hstep
  | lxor =>
    simp only [ax_rok, Bool.and_eq_true, decide_eq_true_eq] at hrok
    obtain ⟨hd, rfl⟩ := hrok
    simp only [ax_dor, ax_do] at hstep
    split at hstep
    · cases hstep
      exact bs_lxor hC hd k
    · cases hstep
  | lshl =>
    simp only [ax_rok, Bool.and_eq_true, decide_eq_true_eq] at hrok
    obtain ⟨hd, rfl⟩ := hrok
    simp only [ax_dor, ax_do] at hstep
    split at hstep
    · cases hstep
      exact bs_lshl hC hd k
    · cases hstep
  | lcmp =>
    simp only [ax_rok, Bool.and_eq_true, decide_eq_true_eq] at hrok
    obtain ⟨hd, rfl⟩ := hrok
    simp only [ax_dor, ax_do] at hstep
    split at hstep
    · cases hstep
      exact bs_lcmp hC hd k
    · cases hstep
  | i2l =>
    simp only [ax_rok, Bool.and_eq_true, decide_eq_true_eq] at hrok
    obtain ⟨hd, rfl⟩ := hrok
    simp only [ax_dor, ax_do] at hstep
    split at hstep
    · cases hstep
      exact bs_i2l hC hd k
    · cases hstep
  | l2i =>
    simp only [ax_rok, Bool.and_eq_true, decide_eq_true_eq] at hrok
    obtain ⟨hd, rfl⟩ := hrok
    simp only [ax_dor, ax_do] at hstep
    split at hstep
    · cases hstep
      exact bs_l2i hC hd k
    · cases hstep
  | i2b =>
    simp only [ax_rok, Bool.and_eq_true, decide_eq_true_eq] at hrok
    obtain ⟨hd, rfl⟩ := hrok
    simp only [ax_dor, ax_do] at hstep
    split at hstep
    · cases hstep
      exact bs_i2b hC hd k
    · cases hstep
  | idiv =>
    simp only [ax_rok, Bool.and_eq_true, decide_eq_true_eq] at hrok
    obtain ⟨hd, rfl⟩ := hrok
    simp only [ax_dor, ax_do] at hstep
    split at hstep
    · cases hstep
      exact bs_idiv hC hd hg k
    · cases hstep
  | irem =>
    simp only [ax_rok, Bool.and_eq_true, decide_eq_true_eq] at hrok
    obtain ⟨hd, rfl⟩ := hrok
    simp only [ax_dor, ax_do] at hstep
    split at hstep
    · cases hstep
      exact bs_irem hC hd hg k
    · cases hstep
  | ldiv =>
    simp only [ax_rok, Bool.and_eq_true, decide_eq_true_eq] at hrok
    obtain ⟨hd, rfl⟩ := hrok
    simp only [ax_dor, ax_do] at hstep
    split at hstep
    · cases hstep
      exact bs_ldiv hC hd hg k
    · cases hstep
  | lrem =>
    simp only [ax_rok, Bool.and_eq_true, decide_eq_true_eq] at hrok
    obtain ⟨hd, rfl⟩ := hrok
    simp only [ax_dor, ax_do] at hstep
    split at hstep
    · cases hstep
      exact bs_lrem hC hd hg k
    · cases hstep
  | dup =>
    simp only [ax_rok, Bool.and_eq_true, decide_eq_true_eq] at hrok
    obtain ⟨hd, rfl⟩ := hrok
    simp only [ax_dor, ax_do] at hstep
    split at hstep
    · cases hstep
      exact bs_dup hC hd rfl k
    · cases hstep
      exact bs_dup hC hd rfl k
    · cases hstep
  | pop =>
    simp only [ax_rok, Bool.and_eq_true, decide_eq_true_eq] at hrok
    obtain ⟨hd, rfl⟩ := hrok
    simp only [ax_dor, ax_do] at hstep
    split at hstep
    · cases hstep
      exact bs_pop hC hd rfl k
    · cases hstep
      exact bs_pop hC hd rfl k
    · cases hstep
  | dup_x1 =>
    simp only [ax_rok, Bool.and_eq_true, decide_eq_true_eq] at hrok
    obtain ⟨hd, rfl⟩ := hrok
    simp only [ax_dor, ax_do] at hstep
    split at hstep
    · cases hstep
      exact bs_dup_x1 hC hd rfl rfl k
    · cases hstep
  | dup2 =>
    simp only [ax_rok, Bool.and_eq_true, decide_eq_true_eq] at hrok
    obtain ⟨hd, rfl⟩ := hrok
    simp only [ax_dor, ax_do] at hstep
    split at hstep
    · cases hstep
      exact bs_dup2 hC hd rfl rfl k
    · cases hstep
  | iload_n f =>
    simp only [ax_rok, Bool.and_eq_true, decide_eq_true_eq] at hrok
    obtain ⟨hd, rfl, hb⟩ := hrok
    simp only [ax_dor, ax_do] at hstep
    split at hstep
    · rename_i x hx
      cases hstep
      exact bs_iload_n hC hd hb hx k
    · cases hstep
  | iload f =>
    simp only [ax_rok, Bool.and_eq_true, decide_eq_true_eq] at hrok
    obtain ⟨hd, rfl, rfl⟩ := hrok
    simp only [ax_dor, ax_do] at hstep
    split at hstep
    · rename_i x hx
      cases hstep
      exact bs_iload hC hd hx k
    · cases hstep
  | istore_n f =>
    simp only [ax_rok, Bool.and_eq_true, decide_eq_true_eq] at hrok
    obtain ⟨hd, ⟨rfl, hb⟩, hn⟩ := hrok
    simp only [ax_dor, ax_do] at hstep
    split at hstep
    · cases hstep
      exact bs_istore_n hC hd hb hn k
    · cases hstep
  | istore f =>
    simp only [ax_rok, Bool.and_eq_true, decide_eq_true_eq] at hrok
    obtain ⟨hd, ⟨rfl, rfl⟩, hn⟩ := hrok
    simp only [ax_dor, ax_do] at hstep
    split at hstep
    · cases hstep
      exact bs_istore hC hd hn k
    · cases hstep
  | lload_n f =>
    simp only [ax_rok, Bool.and_eq_true, decide_eq_true_eq] at hrok
    obtain ⟨hd, rfl, hb⟩ := hrok
    simp only [ax_dor, ax_do] at hstep
    split at hstep
    · rename_i x hx
      cases hstep
      exact bs_lload_n hC hd hb hx k
    · cases hstep
  | lload f =>
    simp only [ax_rok, Bool.and_eq_true, decide_eq_true_eq] at hrok
    obtain ⟨hd, rfl, rfl⟩ := hrok
    simp only [ax_dor, ax_do] at hstep
    split at hstep
    · rename_i x hx
      cases hstep
      exact bs_lload hC hd hx k
    · cases hstep
  | lstore_n f =>
    simp only [ax_rok, Bool.and_eq_true, decide_eq_true_eq] at hrok
    obtain ⟨hd, ⟨rfl, hb⟩, hn⟩ := hrok
    simp only [ax_dor, ax_do] at hstep
    split at hstep
    · cases hstep
      exact bs_lstore_n hC hd hb hn k
    · cases hstep
  | lstore f =>
    simp only [ax_rok, Bool.and_eq_true, decide_eq_true_eq] at hrok
    obtain ⟨hd, ⟨rfl, rfl⟩, hn⟩ := hrok
    simp only [ax_dor, ax_do] at hstep
    split at hstep
    · cases hstep
      exact bs_lstore hC hd hn k
    · cases hstep
  | aload_n f =>
    simp only [ax_rok, Bool.and_eq_true, decide_eq_true_eq] at hrok
    obtain ⟨hd, rfl, hb⟩ := hrok
    simp only [ax_dor, ax_do] at hstep
    split at hstep
    · rename_i x hx
      cases hstep
      exact bs_aload_n hC hd hb hx k
    · rename_i hx
      cases hstep
      exact bs_aload_nN hC hd hb hx k
    · cases hstep
  | aload f =>
    simp only [ax_rok, Bool.and_eq_true, decide_eq_true_eq] at hrok
    obtain ⟨hd, rfl, rfl⟩ := hrok
    simp only [ax_dor, ax_do] at hstep
    split at hstep
    · rename_i x hx
      cases hstep
      exact bs_aload hC hd hx k
    · rename_i hx
      cases hstep
      exact bs_aloadN hC hd hx k
    · cases hstep
  | astore_n f =>
    simp only [ax_rok, Bool.and_eq_true, decide_eq_true_eq] at hrok
    obtain ⟨hd, ⟨rfl, hb⟩, hn⟩ := hrok
    simp only [ax_dor, ax_do] at hstep
    split at hstep
    · cases hstep
      exact bs_astore_n hC hd hb hn k
    · cases hstep
      exact bs_astore_nN hC hd hb hn k
    · cases hstep
  | astore f =>
    simp only [ax_rok, Bool.and_eq_true, decide_eq_true_eq] at hrok
    obtain ⟨hd, ⟨rfl, rfl⟩, hn⟩ := hrok
    simp only [ax_dor, ax_do] at hstep
    split at hstep
    · cases hstep
      exact bs_astore hC hd hn k
    · cases hstep
      exact bs_astoreN hC hd hn k
    · cases hstep
  | iinc i n =>
    simp only [ax_rok, Bool.and_eq_true, decide_eq_true_eq] at hrok
    obtain ⟨hd, ⟨⟨rfl, rfl⟩, hn⟩, hv⟩ := hrok
    simp only [ax_dor, ax_do] at hstep
    split at hstep
    · rename_i x hx
      cases hstep
      exact bs_iinc hC hd hn hv hx k
    · cases hstep
  | iconst n =>
    simp only [ax_rok, Bool.and_eq_true, decide_eq_true_eq] at hrok
    obtain ⟨hd, rfl, hv⟩ := hrok
    simp only [ax_dor, ax_do] at hstep
    cases hstep
    exact bs_iconst hC hd hv k
  | bipush n =>
    simp only [ax_rok, Bool.and_eq_true, decide_eq_true_eq] at hrok
    obtain ⟨hd, rfl, hv⟩ := hrok
    simp only [ax_dor, ax_do] at hstep
    cases hstep
    exact bs_bipush hC hd hv k
  | sipush n =>
    simp only [ax_rok, Bool.and_eq_true, decide_eq_true_eq] at hrok
    obtain ⟨hd, rfl, hv⟩ := hrok
    simp only [ax_dor, ax_do] at hstep
    cases hstep
    exact bs_sipush hC hd hv k
  | lconst n =>
    simp only [ax_rok, Bool.and_eq_true, decide_eq_true_eq] at hrok
    obtain ⟨hd, rfl, hv⟩ := hrok
    simp only [ax_dor, ax_do] at hstep
    cases hstep
    exact bs_lconst hC hd hv k
  | ldc2_w i =>
    simp only [ax_rok, Bool.and_eq_true, decide_eq_true_eq] at hrok
    obtain ⟨hd, rfl, hv⟩ := hrok
    simp only [ax_dor, ax_do] at hstep
    cases hstep
    exact bs_ldc2 hC hd (hwl _ hv) k
  | ldc i =>
    simp only [ax_rok, Bool.and_eq_true, decide_eq_true_eq] at hrok
    obtain ⟨hd, rfl, hv⟩ := hrok
    simp only [ax_dor, ax_do] at hstep
    split at hstep
    · simp only [decide_eq_true_eq] at hv
      cases hstep
      exact bs_ldc hC hd (hwl _ hv) k
    · cases d with
      | zero => rename_i hz; exact absurd rfl hz
      | succ d =>
        simp only [decide_eq_true_eq] at hv
        obtain ⟨hv, rfl⟩ := hv
        cases hstep
        exact bs_ldcS hC hd hv k
  | ldc_w i =>
    simp only [ax_rok, Bool.and_eq_true, decide_eq_true_eq] at hrok
    obtain ⟨hd, ⟨rfl, rfl⟩, hv⟩ := hrok
    simp only [ax_dor, ax_do] at hstep
    cases hstep
    exact bs_ldc_w hC hd (hwl _ hv) k
  | aconst_null =>
    simp only [ax_rok, Bool.and_eq_true, decide_eq_true_eq] at hrok
    obtain ⟨hd, rfl⟩ := hrok
    simp only [ax_dor, ax_do] at hstep
    cases hstep
    exact bs_null hC hd k
  | getstatic i =>
    simp only [ax_rok, Bool.and_eq_true, Bool.or_eq_true, decide_eq_true_eq] at hrok
    obtain ⟨hd, rfl, ⟨rfl, hv⟩ | ⟨rfl, hv⟩⟩ := hrok
    · simp only [ax_dor, ax_do] at hstep
      cases hstep
      exact bs_gets900 hC hd (hwl _ hv) k
    · simp only [ax_dor, ax_do] at hstep
      cases hstep
      exact bs_gets901 hC hd (hwl _ hv) k
  | goto o =>
    simp only [ax_rok, Bool.and_eq_true, decide_eq_true_eq] at hrok
    obtain ⟨hd, rfl, ha⟩ := hrok
    simp only [ax_dor, ax_do] at hstep
    cases hstep
    exact bs_goto hC hd ha k
  | ifnull o =>
    simp only [ax_rok, Bool.and_eq_true, decide_eq_true_eq] at hrok
    obtain ⟨hd, rfl, ha⟩ := hrok
    simp only [ax_dor, ax_do] at hstep
    split at hstep
    · cases hstep
      exact bs_ifnullN hC hd ha k
    · cases hstep
      exact bs_ifnull hC hd k
    · cases hstep
  | ifnonnull o =>
    simp only [ax_rok, Bool.and_eq_true, decide_eq_true_eq] at hrok
    obtain ⟨hd, rfl, ha⟩ := hrok
    simp only [ax_dor, ax_do] at hstep
    split at hstep
    · cases hstep
      exact bs_ifnonnull hC hd ha k
    · cases hstep
      exact bs_ifnonnullN hC hd k
    · cases hstep
  | getfield i =>
    simp only [ax_rok, Bool.and_eq_true, decide_eq_true_eq] at hrok
    obtain ⟨hd, rfl, hv⟩ := hrok
    split at hv
    · rename_i q hq
      simp only [Bool.and_eq_true, decide_eq_true_eq] at hv
      simp only [ax_dor, ax_do] at hstep
      split at hstep
      · split at hstep
        · rename_i ci fs hy
          split at hstep
          · rename_i hca
            subst hca
            split at hstep
            · rename_i v hf
              cases hstep
              exact bs_get hC hd hq hv.1 (hwl _ hv.2) hy hf k
            · cases hstep
          · cases hstep
        · cases hstep
      · cases hstep
    · cases hv
  | iaload =>
    simp only [ax_rok, Bool.and_eq_true, decide_eq_true_eq] at hrok
    obtain ⟨hd, rfl⟩ := hrok
    simp only [ax_dor, ax_do] at hstep
    split at hstep
    · split at hstep
      · rename_i hy
        cases hstep
        exact bs_iald hC hd hy hg k
      · cases hstep
      · split at hstep
        · rename_i hy
          cases hstep
          exact bs_tald hC hd hy hg k
        · cases hstep
    · cases hstep
  | baload =>
    simp only [ax_rok, Bool.and_eq_true, decide_eq_true_eq] at hrok
    obtain ⟨hd, rfl⟩ := hrok
    simp only [ax_dor, ax_do] at hstep
    split at hstep
    · split at hstep
      · rename_i hy
        cases hstep
        exact bs_bald hC hd hy hg k
      · rename_i hy
        cases hstep
        exact bs_zald hC hd hy hg k
      · cases hstep
    · cases hstep
  | laload =>
    simp only [ax_rok, Bool.and_eq_true, decide_eq_true_eq] at hrok
    obtain ⟨hd, rfl⟩ := hrok
    simp only [ax_dor, ax_do] at hstep
    split at hstep
    · split at hstep
      · rename_i hy
        cases hstep
        exact bs_lald hC hd hy hg k
      · cases hstep
    · cases hstep
  | aaload =>
    simp only [ax_rok, Bool.and_eq_true, decide_eq_true_eq] at hrok
    obtain ⟨hd, rfl⟩ := hrok
    simp only [ax_dor, ax_do] at hstep
    split at hstep
    · split at hstep
      · rename_i hy
        split at hstep
        · rename_i h4
          cases hstep
          exact bs_aald hC hd h4 hy hg k
        · cases hstep
      · cases hstep
    · cases hstep
  | arraylength =>
    simp only [ax_rok, Bool.and_eq_true, decide_eq_true_eq] at hrok
    obtain ⟨hd, rfl⟩ := hrok
    simp only [ax_dor, ax_do] at hstep
    split at hstep
    · split at hstep
      · rename_i hy
        split at hstep
        · rename_i h0
          rcases h0 with rfl | rfl
          · cases hstep
            exact bs_alen hC hd hy k
          · cases hstep
            exact bs_alen1 hC hd hy k
        · cases hstep
      · cases hstep
      · split at hstep
        · rename_i hy
          cases hstep
          exact bs_tlen hC hd hy k
        · cases hstep
    · cases hstep
  | iastore =>
    simp only [ax_rok, Bool.and_eq_true, decide_eq_true_eq] at hrok
    obtain ⟨hd, rfl⟩ := hrok
    simp only [ax_dor, ax_do] at hstep
    split at hstep
    · split at hstep
      · rename_i hy
        cases hstep
        exact bs_iast hC hd hy hg k
      · cases hstep
    · cases hstep
  | lastore =>
    simp only [ax_rok, Bool.and_eq_true, decide_eq_true_eq] at hrok
    obtain ⟨hd, rfl⟩ := hrok
    simp only [ax_dor, ax_do] at hstep
    split at hstep
    · split at hstep
      · rename_i hy
        cases hstep
        exact bs_last hC hd hy hg k
      · cases hstep
    · cases hstep
  | bastore =>
    simp only [ax_rok, Bool.and_eq_true, decide_eq_true_eq] at hrok
    obtain ⟨hd, rfl⟩ := hrok
    simp only [ax_dor, ax_do] at hstep
    split at hstep
    · split at hstep
      · rename_i hy
        cases hstep
        exact bs_bast hC hd hy hg k
      · rename_i hy
        cases hstep
        exact bs_zast hC hd hy hg k
      · cases hstep
    · cases hstep
  | aastore =>
    simp only [ax_rok, Bool.and_eq_true, decide_eq_true_eq] at hrok
    obtain ⟨hd, rfl, hv⟩ := hrok
    split at hv
    · rename_i q hq
      simp only [decide_eq_true_eq] at hv
      simp only [ax_dor, ax_do] at hstep
      split at hstep
      · split at hstep
        · rename_i hy
          split at hstep
          · rename_i hx
            split at hstep
            · rename_i hh
              obtain ⟨rfl, rfl⟩ := hh
              cases hstep
              exact bs_aast hC hd hq hv hy hx hg k
            · cases hstep
          · cases hstep
        · cases hstep
      · cases hstep
    · cases hv
  | new i =>
    simp only [ax_rok, Bool.and_eq_true, decide_eq_true_eq] at hrok
    obtain ⟨hd, rfl, hv⟩ := hrok
    split at hv
    · rename_i q hq
      simp only [Bool.and_eq_true, decide_eq_true_eq] at hv
      simp only [ax_dor, ax_do] at hstep
      split at hstep
      · cases hstep
      · rename_i hn
        split at hstep
        · cases hstep
          exact bs_new hC hd hq hv.1.1.1 (hwl _ hv.1.1.2) (hwl _ hv.1.2) (hwl _ hv.2) hn hl hs k
        · cases hstep
    · cases hv
  | newarray t =>
    simp only [ax_rok, Bool.and_eq_true, decide_eq_true_eq] at hrok
    obtain ⟨hd, ⟨⟨rfl, ha⟩, ht⟩, hw⟩ := hrok
    simp only [ax_dor, ax_do] at hstep
    split at hstep
    · split at hstep
      · cases hstep
      · rename_i hn
        split at hstep
        · cases hstep
          exact bs_newa hC hd ha ht (hwl _ hw) hg hn hl hs k
        · cases hstep
    · cases hstep
  | anewarray i =>
    simp only [ax_rok, Bool.and_eq_true, decide_eq_true_eq] at hrok
    obtain ⟨hd, ⟨rfl, ha⟩, hv⟩ := hrok
    split at hv
    · rename_i C hC2
      simp only [Bool.and_eq_true, decide_eq_true_eq] at hv
      simp only [ax_dor, ax_do] at hstep
      split at hstep
      · split at hstep
        · cases hstep
        · rename_i hn
          split at hstep
          · cases hstep
            exact bs_anew hC hd ha hC2 (hwl _ hv.1) (hwl _ hv.2) hg hn hl hs k
          · cases hstep
      · cases hstep
    · cases hv
  | putfield i =>
    simp only [ax_rok, Bool.and_eq_true, decide_eq_true_eq] at hrok
    obtain ⟨hd, rfl, hv⟩ := hrok
    split at hv
    · rename_i q hq
      simp only [Bool.and_eq_true, Bool.or_eq_true, decide_eq_true_eq] at hv
      obtain ⟨⟨⟨hb, hw⟩, hty⟩, hfin⟩ := hv
      split at hty
      · rename_i ty hpt
        exact bx_one_pf hC hd hq hb (hwl _ hw) hpt hty hfin hstep hg k
      · cases hty
    · cases hv
  | invokespecial i =>
    simp only [ax_rok, Bool.and_eq_true, decide_eq_true_eq] at hrok
    obtain ⟨hd, rfl, hv⟩ := hrok
    simp only [ax_dor, ax_do] at hstep
    split at hstep
    · split at hstep
      · split at hstep
        · cases hstep
        · cases hstep
      · cases hstep
    · split at hv
      · rename_i hz; exact absurd rfl hz
      · simp only [Bool.and_eq_true, decide_eq_true_eq] at hv
        split at hstep
        · split at hstep
          · rename_i hcs
            cases hstep
            exact bs_objInit hC hd (hwl _ hv.1.1.1.1) (hwl _ hv.1.1.1.2) (hwl _ hv.1.1.2) hv.1.2 hv.2 hcs k
          · cases hstep
        · cases hstep
      · cases hv
  | invokestatic i =>
    simp only [ax_rok, Bool.and_eq_true, decide_eq_true_eq] at hrok
    obtain ⟨hd, rfl, hv⟩ := hrok
    simp only [ax_dor, ax_do] at hstep
    split at hstep
    · split at hstep
      · split at hstep
        · cases hstep
        · cases hstep
      · cases hstep
    · split at hv
      · rename_i hz; exact absurd rfl hz
      · simp only [Bool.and_eq_true, decide_eq_true_eq] at hv
        split at hstep
        · split at hstep
          · rename_i hcs
            split at hstep
            · rename_i hx
              split at hstep
              · rename_i hy
                cases hstep
                exact bs_copy hC hd (hwl _ hv.1.1.1.1.1) (hwl _ hv.1.1.1.1.2) (hwl _ hv.1.1.1.2) (hwl _ hv.1.1.2) hv.1.2 hv.2 hcs hx hy hg k
              · cases hstep
            · cases hstep
          · cases hstep
        · cases hstep
      · cases hv
  | invokevirtual i =>
    simp only [ax_rok, Bool.and_eq_true, decide_eq_true_eq] at hrok
    obtain ⟨hd, rfl, hv⟩ := hrok
    simp only [ax_dor, ax_do] at hstep
    split at hstep
    · repeat' split at hstep
      all_goals cases hstep
    · split at hv
      · exact absurd rfl (by assumption)
      · simp only [Bool.and_eq_true, decide_eq_true_eq] at hv
        split at hstep
        · split at hstep
          · rename_i hcs
            cases hstep
            exact hCh hd (hwl _ hv.2) hv.1 hcs hg k
          · cases hstep
        · cases hstep
      · cases hv
  | _ => first
    | (simp [ax_rok] at hrok; done)
    | (simp only [ax_dor, ax_do] at hstep
       cases hstep
       done)
    | (simp only [ax_dor, ax_do] at hstep
       (repeat' split at hstep) <;> cases hstep)
    | (rename_i c o; cases c <;> (simp only [ax_dor, ax_do] at hstep; (repeat' split at hstep) <;> cases hstep))
end AXO
