/-! when a row of a method's table is right -/
def ax_rok (df : Nat → List Value) (ms : List ax_M) (M : ax_M) (pc : Nat) (r : ax_R) : Bool :=
  decide (decode M.2.1 pc = .ok (r.1, r.2.1)) && match r with
  | (ins, len, a, b, d, cv, cl, sws, _, _) => match ins with
    | .iload_n k => decide (len = 1) && decide ((k : Nat) = b)
    | .lload_n k => decide (len = 1) && decide ((k : Nat) = b)
    | .aload_n k => decide (len = 1) && decide ((k : Nat) = b)
    | .istore_n k => decide (len = 1) && decide ((k : Nat) = b) && decide (b < M.2.2.1)
    | .lstore_n k => decide (len = 1) && decide ((k : Nat) = b) && decide (b + 1 < M.2.2.1)
    | .astore_n k => decide (len = 1) && decide ((k : Nat) = b) && decide (b < M.2.2.1)
    | .iload i => decide (len = 2) && decide (i = b)
    | .lload i => decide (len = 2) && decide (i = b)
    | .aload i => decide (len = 2) && decide (i = b)
    | .istore i => decide (len = 2) && decide (i = b) && decide (b < M.2.2.1)
    | .lstore i => decide (len = 2) && decide (i = b) && decide (b + 1 < M.2.2.1)
    | .astore i => decide (len = 2) && decide (i = b) && decide (b < M.2.2.1)
    | .iinc i n => decide (len = 3) && decide (i = b) && decide (b < M.2.2.1) && decide (Int32.ofInt n = cv)
    | .iconst n => decide (len = 1) && decide (Int32.ofInt n = cv)
    | .bipush n => decide (len = 2) && decide ((Int8.ofInt n).toInt32 = cv)
    | .sipush n => decide (len = 3) && decide ((Int16.ofInt n).toInt32 = cv)
    | .lconst n => decide (len = 1) && decide (Int64.ofNat (n : Nat) = cl)
    | .ldc2_w i => decide (len = 3) && decide (Cond.constantLong (ax_own M) i cl ∈ ax_wl M)
    | .ldc i => decide (len = 2) && (match d with
      | 0 => decide (Cond.constant (ax_own M) i cv ∈ ax_wl M)
      | _ => decide (ax_own M = "LeapLane$Tape" ∧ i = 47))
    | .ldc_w i => decide (len = 3) && decide (d = 0) && decide (Cond.constant (ax_own M) i cv ∈ ax_wl M)
    | .aconst_null => decide (len = 1)
    | .getstatic i => decide (len = 3) && (decide (a = 900 ∧ Cond.fieldLinkNest (ax_own M) i "LeapLane" "FACTORIALS" "[I" "LeapLane" ∈ ax_wl M) || decide (a = 901 ∧ Cond.fieldLinkNest (ax_own M) i "LeapLane" "STRENGTHS" "[I" "LeapLane" ∈ ax_wl M))
    | .iadd | .isub | .imul | .iand | .ior | .ixor | .ishl | .ishr | .iushr | .idiv | .irem => decide (len = 1)
    | .ladd | .lsub | .lmul | .land | .lor | .lxor | .ldiv | .lrem | .lshl | .lcmp | .i2l | .l2i | .i2b => decide (len = 1)
    | .dup | .pop | .dup_x1 | .dup2 => decide (len = 1)
    | .goto o | .ifCond _ o | .if_icmp _ o | .ifnull o | .ifnonnull o => decide (len = 3) && decide ((pc : Int) + o = (a : Int))
    | .tableswitch df lo hi os => decide ((pc : Int) + df = (a : Int)) && ax_sok pc sws lo os.toList && decide (hi - lo + 1 = (os.toList.length : Int))
    | .lookupswitch df ps => decide ((pc : Int) + df = (a : Int)) && ax_lok pc sws ps.toList && (ps.toList.zip (ps.toList.drop 1)).all (fun (a, next) => a.1 < next.1)
    | .getfield i => decide (len = 3) && (match vwCl[a]? with
      | some q => decide (b < q.2.2) && decide (Cond.fieldLink (ax_own M) i (q.2.1 b).1 (q.2.1 b).2.1 (q.2.1 b).2.2.1 ∈ ax_wl M)
      | none => false)
    | .putfield i => decide (len = 3) && (match vwCl[a]? with
      | some q => decide (b < q.2.2) && decide (Cond.fieldLink (ax_own M) i (q.2.1 b).1 (q.2.1 b).2.1 (q.2.1 b).2.2.1 ∈ ax_wl M) && (match parseFieldDescriptor (q.2.1 b).2.2.1 with
        | some ty => (match d with
          | 0 => decide (ty = .int)
          | 1 => decide (ty = .long)
          | 2 => ax_refs ty
          | _ => decide (ty = .boolean))
        | none => false) && (decide ((q.2.1 b).2.2.2 = false) || decide ((q.2.1 b).2.2.2 = true ∧ M.1.name = "<init>" ∧ (q.2.1 b).1 = M.1.cls))
      | none => false)
    | .iaload | .baload | .laload | .aaload | .iastore | .bastore | .lastore | .arraylength => decide (len = 1)
    | .aastore => decide (len = 1) && (match vwCl[a]? with
      | some q => decide (4 ≤ d ∧ d ≤ 6 ∧ ax_ty d = .object q.1)
      | none => false)
    | .new i => decide (len = 3) && (match vwCl[a]? with
      | some q => ax_cok (df a) q && decide (Cond.classLink (ax_own M) i q.1 ∈ ax_wl M) && decide (Cond.instantiable q.1 q.2.2 ∈ ax_wl M) && decide (Cond.initialized q.1 ∈ ax_wl M)
      | none => false)
    | .newarray t => decide (len = 2) && decide (a < 4) && decide (newarray.typeOf t = ax_ty a) && decide (Cond.arrayClass (ax_ty a) ∈ ax_wl M)
    | .anewarray i => decide (len = 3) && decide (4 ≤ a ∧ a ≤ 6) && (match ax_ty a with
      | .object C => decide (Cond.classLink (ax_own M) i C ∈ ax_wl M) && decide (Cond.arrayOver (.object C) ∈ ax_wl M)
      | _ => false)
    | .invokevirtual i => decide (len = 3) && (match d with
      | 0 => (match ms[a]? with
        | some M' => ax_cal M M' b (b - 1) && decide (0 < b) && decide (Cond.methodLink (ax_own M) i M'.1 ∈ ax_wl M) && decide (Cond.instanceMethod M'.1 ∈ ax_wl M) && decide (Cond.selects M'.1.cls M'.1 M'.1 ∈ ax_wl M) && (match sws with
          | (_, ci) :: _ => decide (vwCl[ci]?.map (fun q => q.1) = some M'.1.cls)
          | [] => false)
        | none => false)
      | 3 => decide (1 ≤ M.2.2.2.2.1) && decide (Cond.methodLink (ax_own M) i ⟨"java/lang/String", "charAt", "(I)C"⟩ ∈ ax_wl M)
      | _ => false)
    | .invokestatic i => decide (len = 3) && (match d with
      | 0 => (match ms[a]? with
        | some M' => ax_cal M M' b b && decide (Cond.methodLink (ax_own M) i M'.1 ∈ ax_wl M) && decide (Cond.static M'.1 ∈ ax_wl M)
        | none => false)
      | 2 => decide (Cond.methodLink (ax_own M) i arraycopyName ∈ ax_wl M) && decide (Cond.native arraycopyName ∈ ax_wl M) && decide (Cond.static arraycopyName ∈ ax_wl M) && decide (Cond.initialized "java/lang/System" ∈ ax_wl M) && decide (1 ≤ M.2.2.2.2.1) && decide (8 + (nativeFrameWords "java/lang/System" "arraycopy" 5 + 11) ≤ M.2.2.2.2.2.1)
      | _ => false)
    | .invokespecial i => decide (len = 3) && (match d with
      | 0 => (match ms[a]? with
        | some M' => ax_cal M M' b (b - 1) && decide (0 < b) && decide (M'.2.2.2.1 = none) && decide (M'.1.name = "<init>") && decide (Cond.instanceMethod M'.1 ∈ ax_wl M) && (decide (Cond.methodLink (ax_own M) i M'.1 ∈ ax_wl M) || decide (Cond.methodLinkNest (ax_own M) i M'.1 "LeapLane" ∈ ax_wl M))
        | none => false)
      | 1 => decide (Cond.methodLink (ax_own M) i Lib.objectInit ∈ ax_wl M) && decide (Cond.instanceMethod Lib.objectInit ∈ ax_wl M) && decide (Cond.code Lib.objectInit ⟨#[0xb1]⟩ 1 none ∈ ax_wl M) && decide (1 ≤ M.2.2.2.2.1) && decide (20 ≤ M.2.2.2.2.2.1)
      | _ => false)
    | .ireturn => decide (len = 1) && (match d with
      | 0 => decide (M.2.2.2.1 = some .int)
      | _ => decide (M.2.2.2.1 = some .boolean))
    | .lreturn => decide (len = 1) && decide (M.2.2.2.1 = some .long)
    | .areturn => decide (len = 1) && (match M.2.2.2.1 with
      | some t => ax_refs t
      | none => false)
    | .return_ => decide (len = 1) && decide (M.2.2.2.1 = none)
    | _ => false
def ax_tok (df : Nat → List Value) (ms : List ax_M) (M : ax_M) : Nat → List (Option ax_R) → Bool
  | _, [] => true
  | pc, none :: t => ax_tok df ms M (pc + 1) t
  | pc, some r :: t => ax_rok df ms M pc r && ax_tok df ms M (pc + 1) t
theorem ax_tok_at {df : Nat → List Value} {ms : List ax_M} {M : ax_M} {r : ax_R} : ∀ {t : List (Option ax_R)} {s pc : Nat}, ax_tok df ms M s t = true → ax_nth t pc = some r → ax_rok df ms M (s + pc) r = true
  | [], _, _, _, h => by cases h
  | x :: t, s, 0, h, h2 => by
    cases x with
    | none => cases h2
    | some r' =>
      cases h2
      simp only [ax_tok, Bool.and_eq_true] at h
      exact h.1
  | x :: t, s, pc + 1, h, h2 => by
    have h3 : ax_tok df ms M (s + 1) t = true := by
      cases x with
      | none => exact h
      | some r' => simp only [ax_tok, Bool.and_eq_true] at h; exact h.2
    have := ax_tok_at h3 h2
    rwa [show s + 1 + pc = s + (pc + 1) by omega] at this
