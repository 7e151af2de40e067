/-! L1: the small machine. A world is a row of named cells (its place is its name); values bear names. -/
abbrev ax_W : Type := List (Option va_E)
abbrev ax_L : Type := List (Option Value)
/-- pc, locals, stack, world, names made so far, slots made so far -/
abbrev ax_C : Type := Nat × ax_L × List Value × ax_W × List Nat × Nat
/-- a row of a method's table: instruction, length, a, b, d, constants, targets of a switch, names that a call hands over, locals that live -/
abbrev ax_R : Type := Instr × Nat × Nat × Nat × Nat × Int32 × Int64 × List (Int32 × Nat) × (List Value → ax_W → Option (List Nat)) × Option (List Bool)
/-- a method: name, code, locals, answer, frames and words of its room, the words that it uses, its table -/
abbrev ax_M : Type := MethodName × ByteArray × Nat × Option FieldType × Nat × Nat × List Cond × List (Option ax_R)
/-- a step: on (with a guard); a choice; an end; a call (which, arguments, names, pc behind, locals, rest of the stack) -/
abbrev ax_S : Type := (Option Prop × ax_C) ⊕ (List (Prop × ax_C) × ax_C) ⊕ (Option Prop × Option Value) ⊕ (Nat × List Value × Option (List Nat) × Nat × ax_L × List Value)
def ax_nth {α : Type} : List (Option α) → Nat → Option α
  | [], _ => none
  | x :: _, 0 => x
  | _ :: l, n + 1 => ax_nth l n
def ax_set {α : Type} : List (Option α) → Nat → Option α → List (Option α)
  | [], _, _ => []
  | _ :: l, 0, v => v :: l
  | x :: l, n + 1, v => x :: ax_set l n v
def ax_rv (ρ : Nat → Nat) (v : Value) : Value := match v with
  | .ref a => .ref (ρ a)
  | .int x => .int x
  | .long x => .long x
  | .float x => .float x
  | .double x => .double x
  | .null => .null
  | .retAddr x => .retAddr x
abbrev ax_X : Type := (Nat → Int32) ⊕ (Nat → Int64) ⊕ (Nat → UInt32) ⊕ (Nat → UInt64) ⊕ (Nat → Option Nat)
def ax_rx (ρ : Nat → Nat) (x : ax_X) : ax_X := match x with
  | .inl f => .inl f
  | .inr (.inl f) => .inr (.inl f)
  | .inr (.inr (.inl f)) => .inr (.inr (.inl f))
  | .inr (.inr (.inr (.inl f))) => .inr (.inr (.inr (.inl f)))
  | .inr (.inr (.inr (.inr f))) => .inr (.inr (.inr (.inr (fun i => (f i).map ρ))))
def ax_rc (κ ρ : Nat → Nat) (e : va_E) : va_E := match e with
  | .inl (k, n, x) => .inl (κ k, n, ax_rx ρ x)
  | .inr (ci, fs) => .inr (ci, fs.map (ax_rv ρ))
def ax_mask : List Bool → ax_L → ax_L
  | b :: m, x :: l => (match b with
    | true => x
    | false => none) :: ax_mask m l
  | _, l => l
def ax_keep (k : Option (List Bool)) (ls : ax_L) : ax_L := match k with
  | none => ls
  | some m => ax_mask m ls
/-- a long just ahead of a place that is written is gone -/
def ax_kill (ls : ax_L) (i : Nat) : ax_L := match i with
  | 0 => ls
  | j + 1 => match ax_nth ls j with
    | some (.long _) => ax_set ls j none
    | some (.double _) => ax_set ls j none
    | _ => ls
def ax_st1 (ls : ax_L) (i : Nat) (v : Value) : ax_L := ax_set (ax_kill ls i) i (some v)
def ax_st2 (ls : ax_L) (i : Nat) (v : Value) : ax_L := ax_set (ax_set (ax_kill ls i) i (some v)) (i + 1) none
def ax_lay : List Value → ax_L
  | [] => []
  | v :: vs => match v with
    | .long x => some (.long x) :: none :: ax_lay vs
    | .double x => some (.double x) :: none :: ax_lay vs
    | y => some y :: ax_lay vs
def ax_pad : Nat → ax_L → ax_L
  | 0, _ => []
  | n + 1, [] => none :: ax_pad n []
  | n + 1, x :: l => x :: ax_pad n l
def ax_ent (n : Nat) (vs : List Value) : ax_L := ax_pad n (ax_lay vs)
def ax_cut (L : List Nat) (w : ax_W) : ax_W := L.map fun k => match ax_nth w k with
  | some e => some (ax_rc (fun x => x) (ax_tau L) e)
  | none => none
def ax_put : ax_W → List Nat → ax_W → ax_W
  | w, k :: L, x :: v => ax_put (ax_set w k x) L v
  | w, _, _ => w
def ax_uncut (L : List Nat) (v : ax_W) : ax_W := v.map fun x => match x with
  | some e => some (ax_rc (fun x => x) (ax_the L) e)
  | none => none
def ax_nod : List Nat → Bool
  | [] => true
  | k :: L => (match ax_ix L k with
    | some _ => false
    | none => true) && ax_nod L
def ax_okL (L : List Nat) (n : Nat) : Bool := L.all (fun k => Nat.blt k n) && ax_nod L && Nat.ble L.length 900
/-- the kinds of array: 0 int, 1 long, 2 byte, 3 boolean, 4.. of references -/
def ax_ty (k : Nat) : FieldType := match k with
  | 0 => .int
  | 1 => .long
  | 2 => .byte
  | 3 => .boolean
  | 4 => .object "LeapLane$Rule"
  | 5 => .object "LeapLane$State"
  | _ => .object "LeapLane$Game"
def ax_zero (k : Nat) : ax_X := match k with
  | 0 => .inl (fun _ => 0)
  | 1 => .inr (.inl (fun _ => 0))
  | 2 => .inl (fun _ => 0)
  | 3 => .inl (fun _ => 0)
  | _ => .inr (.inr (.inr (.inr (fun _ => none))))
abbrev ax_nx (pc : Nat) (ls : ax_L) (st : List Value) (w : ax_W) (lg : List Nat) (sl : Nat) : Option ax_S := some (.inl (none, (pc, ls, st, w, lg, sl)))
abbrev ax_gd (P : Prop) (pc : Nat) (ls : ax_L) (st : List Value) (w : ax_W) (lg : List Nat) (sl : Nat) : Option ax_S := some (.inl (some P, (pc, ls, st, w, lg, sl)))
abbrev ax_br (P : Prop) (pt pn : Nat) (ls : ax_L) (st : List Value) (w : ax_W) (lg : List Nat) (sl : Nat) : Option ax_S := some (.inr (.inl ([(P, (pt, ls, st, w, lg, sl))], (pn, ls, st, w, lg, sl))))
def ax_cs : List Value → Nat
  | [] => 0
  | v :: l => v.category + ax_cs l
def ax_fn : List Value → Nat → Option Value
  | [], _ => none
  | x :: _, 0 => some x
  | _ :: l, n + 1 => ax_fn l n
def ax_fset : List Value → Nat → Value → List Value
  | [], _, _ => []
  | _ :: l, 0, v => v :: l
  | x :: l, n + 1, v => x :: ax_fset l n v
/-- the first n of a stack, in the order in which they were laid, and what is left -/
def ax_pop : Nat → List Value → List Value → Option (List Value × List Value)
  | 0, st, acc => some (acc, st)
  | _ + 1, [], _ => none
  | n + 1, v :: st, acc => ax_pop n st (v :: acc)
def ax_sw (ls : ax_L) (st : List Value) (w : ax_W) (lg : List Nat) (sl : Nat) (x : Int32) : List (Int32 × Nat) → List (Prop × ax_C)
  | [] => []
  | (v, pc) :: t => (x = v, (pc, ls, st, w, lg, sl)) :: ax_sw ls st w lg sl x t
/-- what is made out of a store into a field -/
def ax_pf (pn a b : Nat) (v : Value) (y : Nat) (ls : ax_L) (st : List Value) (w : ax_W) (lg : List Nat) (sl : Nat) (g : Option Prop) : Option ax_S := match ax_nth w y with
  | some (.inr (ci, fs)) => if ci = a ∧ b < fs.length then some (.inl (g, (pn, ls, st, ax_set w y (some (.inr (ci, ax_fset fs b v))), lg, sl))) else none
  | _ => none
abbrev ax_O : Type := Nat → Option (Nat × (Nat → Int32))
def ax_do (so : ax_O) (df : Nat → List Value) (tx : List Int32) (ins : Instr) (pn a b d : Nat) (cv : Int32) (cl : Int64) (sws : List (Int32 × Nat)) (isf : List Value → ax_W → Option (List Nat)) (ls : ax_L) (st : List Value) (w : ax_W) (lg : List Nat) (sl : Nat) : Option ax_S := match ins with
  | .iload_n _ | .iload _ => match ax_nth ls b with
    | some (.int x) => ax_nx pn ls (.int x :: st) w lg sl
    | _ => none
  | .lload_n _ | .lload _ => match ax_nth ls b with
    | some (.long x) => ax_nx pn ls (.long x :: st) w lg sl
    | _ => none
  | .aload_n _ | .aload _ => match ax_nth ls b with
    | some (.ref x) => ax_nx pn ls (.ref x :: st) w lg sl
    | some .null => ax_nx pn ls (.null :: st) w lg sl
    | _ => none
  | .istore_n _ | .istore _ => match st with
    | .int x :: r => ax_nx pn (ax_st1 ls b (.int x)) r w lg sl
    | _ => none
  | .lstore_n _ | .lstore _ => match st with
    | .long x :: r => ax_nx pn (ax_st2 ls b (.long x)) r w lg sl
    | _ => none
  | .astore_n _ | .astore _ => match st with
    | .ref x :: r => ax_nx pn (ax_st1 ls b (.ref x)) r w lg sl
    | .null :: r => ax_nx pn (ax_st1 ls b .null) r w lg sl
    | _ => none
  | .iinc _ _ => match ax_nth ls b with
    | some (.int x) => ax_nx pn (ax_st1 ls b (.int (x + cv))) st w lg sl
    | _ => none
  | .iconst _ | .bipush _ | .sipush _ => ax_nx pn ls (.int cv :: st) w lg sl
  | .lconst _ | .ldc2_w _ => ax_nx pn ls (.long cl :: st) w lg sl
  | .ldc _ | .ldc_w _ => match d with
    | 0 => ax_nx pn ls (.int cv :: st) w lg sl
    | _ => ax_nx pn ls (.ref 902 :: st) w lg sl
  | .aconst_null => ax_nx pn ls (.null :: st) w lg sl
  | .getstatic _ => ax_nx pn ls (.ref a :: st) w lg sl
  | .iadd => match st with
    | .int y :: .int x :: r => ax_nx pn ls (.int (x + y) :: r) w lg sl
    | _ => none
  | .isub => match st with
    | .int y :: .int x :: r => ax_nx pn ls (.int (x - y) :: r) w lg sl
    | _ => none
  | .imul => match st with
    | .int y :: .int x :: r => ax_nx pn ls (.int (x * y) :: r) w lg sl
    | _ => none
  | .iand => match st with
    | .int y :: .int x :: r => ax_nx pn ls (.int (x &&& y) :: r) w lg sl
    | _ => none
  | .ior => match st with
    | .int y :: .int x :: r => ax_nx pn ls (.int (x ||| y) :: r) w lg sl
    | _ => none
  | .ixor => match st with
    | .int y :: .int x :: r => ax_nx pn ls (.int (x ^^^ y) :: r) w lg sl
    | _ => none
  | .ishl => match st with
    | .int y :: .int x :: r => ax_nx pn ls (.int (x <<< (y &&& 31)) :: r) w lg sl
    | _ => none
  | .ishr => match st with
    | .int y :: .int x :: r => ax_nx pn ls (.int (x >>> (y &&& 31)) :: r) w lg sl
    | _ => none
  | .iushr => match st with
    | .int y :: .int x :: r => ax_nx pn ls (.int ((x.toUInt32 >>> (y.toUInt32 &&& Int32.toUInt32 31)).toInt32) :: r) w lg sl
    | _ => none
  | .idiv => match st with
    | .int y :: .int x :: r => ax_gd (¬ y = 0) pn ls (.int (x / y) :: r) w lg sl
    | _ => none
  | .irem => match st with
    | .int y :: .int x :: r => ax_gd (¬ y = 0) pn ls (.int (x - x / y * y) :: r) w lg sl
    | _ => none
  | .ladd => match st with
    | .long y :: .long x :: r => ax_nx pn ls (.long (x + y) :: r) w lg sl
    | _ => none
  | .lsub => match st with
    | .long y :: .long x :: r => ax_nx pn ls (.long (x - y) :: r) w lg sl
    | _ => none
  | .lmul => match st with
    | .long y :: .long x :: r => ax_nx pn ls (.long (x * y) :: r) w lg sl
    | _ => none
  | .land => match st with
    | .long y :: .long x :: r => ax_nx pn ls (.long (x &&& y) :: r) w lg sl
    | _ => none
  | .lor => match st with
    | .long y :: .long x :: r => ax_nx pn ls (.long (x ||| y) :: r) w lg sl
    | _ => none
  | .lxor => match st with
    | .long y :: .long x :: r => ax_nx pn ls (.long (x ^^^ y) :: r) w lg sl
    | _ => none
  | .ldiv => match st with
    | .long y :: .long x :: r => ax_gd (¬ y = 0) pn ls (.long (x / y) :: r) w lg sl
    | _ => none
  | .lrem => match st with
    | .long y :: .long x :: r => ax_gd (¬ y = 0) pn ls (.long (x - x / y * y) :: r) w lg sl
    | _ => none
  | .lshl => match st with
    | .int y :: .long x :: r => ax_nx pn ls (.long (x <<< (y.toInt64 &&& 63)) :: r) w lg sl
    | _ => none
  | .lcmp => match st with
    | .long y :: .long x :: r => ax_nx pn ls (.int (lg_cmp x y) :: r) w lg sl
    | _ => none
  | .i2l => match st with
    | .int x :: r => ax_nx pn ls (.long x.toInt64 :: r) w lg sl
    | _ => none
  | .l2i => match st with
    | .long x :: r => ax_nx pn ls (.int x.toInt32 :: r) w lg sl
    | _ => none
  | .i2b => match st with
    | .int x :: r => ax_nx pn ls (.int x.toInt8.toInt32 :: r) w lg sl
    | _ => none
  | .dup => match st with
    | .int x :: r => ax_nx pn ls (.int x :: .int x :: r) w lg sl
    | .ref x :: r => ax_nx pn ls (.ref x :: .ref x :: r) w lg sl
    | _ => none
  | .pop => match st with
    | .int _ :: r => ax_nx pn ls r w lg sl
    | .ref _ :: r => ax_nx pn ls r w lg sl
    | _ => none
  | .dup_x1 => match st with
    | .int x :: .ref y :: r => ax_nx pn ls (.int x :: .ref y :: .int x :: r) w lg sl
    | _ => none
  | .dup2 => match st with
    | .int x :: .ref y :: r => ax_nx pn ls (.int x :: .ref y :: .int x :: .ref y :: r) w lg sl
    | _ => none
  | .goto _ => ax_nx a ls st w lg sl
  | .ifCond .eq _ => match st with
    | .int x :: r => ax_br (x = 0) a pn ls r w lg sl
    | _ => none
  | .ifCond .ne _ => match st with
    | .int x :: r => ax_br (x = 0) pn a ls r w lg sl
    | _ => none
  | .ifCond .lt _ => match st with
    | .int x :: r => ax_br (x < 0) a pn ls r w lg sl
    | _ => none
  | .ifCond .ge _ => match st with
    | .int x :: r => ax_br (0 ≤ x) a pn ls r w lg sl
    | _ => none
  | .ifCond .gt _ => match st with
    | .int x :: r => ax_br (0 < x) a pn ls r w lg sl
    | _ => none
  | .ifCond .le _ => match st with
    | .int x :: r => ax_br (x ≤ 0) a pn ls r w lg sl
    | _ => none
  | .if_icmp .eq _ => match st with
    | .int y :: .int x :: r => ax_br (x = y) a pn ls r w lg sl
    | _ => none
  | .if_icmp .ne _ => match st with
    | .int y :: .int x :: r => ax_br (x = y) pn a ls r w lg sl
    | _ => none
  | .if_icmp .lt _ => match st with
    | .int y :: .int x :: r => ax_br (x < y) a pn ls r w lg sl
    | _ => none
  | .if_icmp .ge _ => match st with
    | .int y :: .int x :: r => ax_br (y ≤ x) a pn ls r w lg sl
    | _ => none
  | .if_icmp .gt _ => match st with
    | .int y :: .int x :: r => ax_br (y < x) a pn ls r w lg sl
    | _ => none
  | .if_icmp .le _ => match st with
    | .int y :: .int x :: r => ax_br (x ≤ y) a pn ls r w lg sl
    | _ => none
  | .ifnull _ => match st with
    | .null :: r => ax_nx a ls r w lg sl
    | .ref _ :: r => ax_nx pn ls r w lg sl
    | _ => none
  | .ifnonnull _ => match st with
    | .ref _ :: r => ax_nx a ls r w lg sl
    | .null :: r => ax_nx pn ls r w lg sl
    | _ => none
  | .tableswitch _ _ _ _ | .lookupswitch _ _ => match st with
    | .int x :: r => some (.inr (.inl (ax_sw ls r w lg sl x sws, (a, ls, r, w, lg, sl))))
    | _ => none
  | .getfield _ => match st with
    | .ref y :: r => match ax_nth w y with
      | some (.inr (ci, fs)) => if ci = a then match ax_fn fs b with
        | some v => ax_nx pn ls (v :: r) w lg sl
        | none => none else none
      | _ => none
    | _ => none
  | .putfield _ => match d with
    | 0 => match st with
      | .int x :: .ref y :: r => ax_pf pn a b (.int x) y ls r w lg sl none
      | _ => none
    | 1 => match st with
      | .long x :: .ref y :: r => ax_pf pn a b (.long x) y ls r w lg sl none
      | _ => none
    | 2 => match st with
      | .ref x :: .ref y :: r => ax_pf pn a b (.ref x) y ls r w lg sl none
      | .null :: .ref y :: r => ax_pf pn a b .null y ls r w lg sl none
      | _ => none
    | _ => match st with
      | .int x :: .ref y :: r => ax_pf pn a b (.int x) y ls r w lg sl (some (x = 0 ∨ x = 1))
      | _ => none
  | .iaload => match st with
    | .int i :: .ref y :: r => match ax_nth w y with
      | some (.inl (0, n, .inl f)) => ax_gd (vp_in i n) pn ls (.int (f i.toNatClampNeg) :: r) w lg sl
      | some _ => none
      | none => match so y with
        | some (n, f) => ax_gd (vp_in i n) pn ls (.int (f i.toNatClampNeg) :: r) w lg sl
        | none => none
    | _ => none
  | .baload => match st with
    | .int i :: .ref y :: r => match ax_nth w y with
      | some (.inl (2, n, .inl f)) => ax_gd (vp_in i n) pn ls (.int (f i.toNatClampNeg) :: r) w lg sl
      | some (.inl (3, n, .inl f)) => ax_gd (vp_in i n) pn ls (.int (f i.toNatClampNeg) :: r) w lg sl
      | _ => none
    | _ => none
  | .laload => match st with
    | .int i :: .ref y :: r => match ax_nth w y with
      | some (.inl (1, n, .inr (.inl f))) => ax_gd (vp_in i n) pn ls (.long (f i.toNatClampNeg) :: r) w lg sl
      | _ => none
    | _ => none
  | .aaload => match st with
    | .int i :: .ref y :: r => match ax_nth w y with
      | some (.inl (k, n, .inr (.inr (.inr (.inr f))))) => if 4 ≤ k ∧ k ≤ 6 then ax_gd (vp_in i n) pn ls (va_rf (f i.toNatClampNeg) :: r) w lg sl else none
      | _ => none
    | _ => none
  | .iastore => match st with
    | .int x :: .int i :: .ref y :: r => match ax_nth w y with
      | some (.inl (0, n, .inl f)) => ax_gd (vp_in i n) pn ls r (ax_set w y (some (.inl (0, n, .inl (upd f i.toNatClampNeg x))))) lg sl
      | _ => none
    | _ => none
  | .bastore => match st with
    | .int x :: .int i :: .ref y :: r => match ax_nth w y with
      | some (.inl (2, n, .inl f)) => ax_gd (vp_in i n) pn ls r (ax_set w y (some (.inl (2, n, .inl (upd f i.toNatClampNeg (vp_nar .byte x)))))) lg sl
      | some (.inl (3, n, .inl f)) => ax_gd (vp_in i n) pn ls r (ax_set w y (some (.inl (3, n, .inl (upd f i.toNatClampNeg (vp_nar .boolean x)))))) lg sl
      | _ => none
    | _ => none
  | .lastore => match st with
    | .long x :: .int i :: .ref y :: r => match ax_nth w y with
      | some (.inl (1, n, .inr (.inl f))) => ax_gd (vp_in i n) pn ls r (ax_set w y (some (.inl (1, n, .inr (.inl (vp_updL f i.toNatClampNeg x)))))) lg sl
      | _ => none
    | _ => none
  | .aastore => match st with
    | .ref x :: .int i :: .ref y :: r => match ax_nth w y with
      | some (.inl (k, n, .inr (.inr (.inr (.inr f))))) => match ax_nth w x with
        | some (.inr (ci, _)) => if k = d ∧ ci = a then ax_gd (vp_in i n) pn ls r (ax_set w y (some (.inl (k, n, .inr (.inr (.inr (.inr (va_up f i.toNatClampNeg (some x))))))))) lg sl else none
        | _ => none
      | _ => none
    | _ => none
  | .arraylength => match st with
    | .ref y :: r => match ax_nth w y with
      | some (.inl (k, n, _)) => if k = 0 ∨ k = 1 then ax_nx pn ls (.int (Int32.ofNat n) :: r) w lg sl else none
      | some _ => none
      | none => match so y with
        | some (n, _) => ax_nx pn ls (.int (Int32.ofNat n) :: r) w lg sl
        | none => none
    | _ => none
  | .new _ => match ax_nth w b with
    | some _ => none
    | none => if b < w.length then ax_nx pn ls (.ref b :: st) (ax_set w b (some (.inr (a, df a)))) (lg ++ [b]) (sl + (df a).length) else none
  | .newarray _ | .anewarray _ => match st with
    | .int n :: r => match ax_nth w b with
      | some _ => none
      | none => if b < w.length then ax_gd (¬ n < 0 ∧ n.toNatClampNeg ≤ 65536) pn ls (.ref b :: r) (ax_set w b (some (.inl (a, n.toNatClampNeg, ax_zero a)))) (lg ++ [b]) (sl + n.toNatClampNeg) else none
    | _ => none
  | .invokevirtual _ => match d with
    | 0 => match ax_pop b st [] with
      | some (.ref y :: As, r) => match ax_nth w y with
        | some (.inr (ci, _)) => match sws with
          | (_, c0) :: _ => if ci = c0 then if ax_cs r ≤ 8 then some (.inr (.inr (.inr (a, .ref y :: As, isf st w, pn, ls, r)))) else none else none
          | [] => none
        | _ => none
      | _ => none
    | _ => match st with
      | .int i :: .ref 902 :: r => if ax_cs r ≤ 8 then ax_gd (vp_in i tx.length) pn ls (.int (ax_wd tx i.toNatClampNeg) :: r) w lg sl else none
      | _ => none
  | .invokespecial _ => match d with
    | 0 => match ax_pop b st [] with
      | some (.ref y :: As, r) => if ax_cs r ≤ 8 then some (.inr (.inr (.inr (a, .ref y :: As, isf st w, pn, ls, r)))) else none
      | _ => none
    | _ => match st with
      | .ref _ :: r => if ax_cs r ≤ 8 then ax_nx pn ls r w lg sl else none
      | _ => none
  | .invokestatic _ => match d with
    | 0 => match ax_pop b st [] with
      | some (As, r) => if ax_cs r ≤ 8 then some (.inr (.inr (.inr (a, As, isf st w, pn, ls, r)))) else none
      | none => none
    | _ => match st with
      | .int n :: .int dp :: .ref y :: .int sp :: .ref x :: r => if ax_cs r ≤ 8 then match ax_nth w x with
        | some (.inl (0, n0, .inl f)) => match ax_nth w y with
          | some (.inl (0, n1, .inl g)) => ax_gd (¬ sp < 0 ∧ ¬ dp < 0 ∧ ¬ n < 0 ∧ sp.toNatClampNeg + n.toNatClampNeg ≤ n0 ∧ dp.toNatClampNeg + n.toNatClampNeg ≤ n1) pn ls r (ax_set w y (some (.inl (0, n1, .inl (va_cpy f g sp.toNatClampNeg dp.toNatClampNeg n.toNatClampNeg))))) lg sl
          | _ => none
        | _ => none else none
      | _ => none
  | .ireturn => match st with
    | [.int x] => match d with
      | 0 => some (.inr (.inr (.inl (none, some (.int x)))))
      | _ => some (.inr (.inr (.inl (some (x = 0 ∨ x = 1), some (.int x)))))
    | _ => none
  | .lreturn => match st with
    | [.long x] => some (.inr (.inr (.inl (none, some (.long x)))))
    | _ => none
  | .areturn => match st with
    | [.ref x] => some (.inr (.inr (.inl (none, some (.ref x)))))
    | [.null] => some (.inr (.inr (.inl (none, some .null))))
    | _ => none
  | .return_ => match st with
    | [] => some (.inr (.inr (.inl (none, none))))
    | _ => none
  | _ => none
abbrev ax_G : Type := ax_O × (Nat → List Value) × List Int32 × List ax_M
def ax_step (G : ax_G) (T : List (Option ax_R)) (c : ax_C) : Option ax_S := match ax_nth T c.1 with
  | none => none
  | some r => ax_do G.1 G.2.1 G.2.2.1 r.1 (c.1 + r.2.1) r.2.2.1 r.2.2.2.1 r.2.2.2.2.1 r.2.2.2.2.2.1 r.2.2.2.2.2.2.1 r.2.2.2.2.2.2.2.1 r.2.2.2.2.2.2.2.2.1 (ax_keep r.2.2.2.2.2.2.2.2.2 c.2.1) c.2.2.1 c.2.2.2.1 c.2.2.2.2.1 c.2.2.2.2.2
def ax_ok (g : Option Prop) : Prop := match g with
  | none => True
  | some P => P
noncomputable def ax_ch : List (Prop × ax_C) → ax_C → ax_C
  | [], c => c
  | (P, c1) :: t, c => @ite _ P (Classical.propDecidable P) c1 (ax_ch t c)
abbrev ax_E : Type := Option Value × ax_W × List Nat × Nat
abbrev ax_tab (M : ax_M) : List (Option ax_R) := M.2.2.2.2.2.2.2
noncomputable def ax_run (G : ax_G) : Nat → ax_M → ax_C → Option ax_E
  | 0, _, _ => none
  | n + 1, M, c => match ax_step G (ax_tab M) c with
    | none => none
    | some (.inl (g, c')) => @ite _ (ax_ok g) (Classical.propDecidable _) (ax_run G n M c') none
    | some (.inr (.inl (cs, d))) => ax_run G n M (ax_ch cs d)
    | some (.inr (.inr (.inl (g, v)))) => @ite _ (ax_ok g) (Classical.propDecidable _) (some (v, c.2.2.2.1, c.2.2.2.2.1, c.2.2.2.2.2)) none
    | some (.inr (.inr (.inr (j, As, is, pn, ls, r)))) => match G.2.2.2[j]? with
      | none => none
      | some M' => match is with
        | none => if (ax_lay As).length ≤ M'.2.2.1 then match ax_run G n M' (0, ax_ent M'.2.2.1 As, [], c.2.2.2.1, [], 0) with
            | none => none
            | some (v, w1, lg1, sl1) => ax_run G n M (pn, ls, v.toList ++ r, w1, c.2.2.2.2.1 ++ lg1, c.2.2.2.2.2 + sl1)
          else none
        | some L => if ax_okL L c.2.2.2.1.length = true ∧ (ax_lay As).length ≤ M'.2.2.1 then match ax_run G n M' (0, ax_ent M'.2.2.1 (As.map (ax_rv (ax_tau L))), [], ax_cut L c.2.2.2.1, [], 0) with
            | none => none
            | some (v, w1, lg1, sl1) => ax_run G n M (pn, ls, (v.map (ax_rv (ax_the L))).toList ++ r, ax_put c.2.2.2.1 L (ax_uncut L w1), c.2.2.2.2.1 ++ lg1.map (ax_the L), c.2.2.2.2.2 + sl1)
          else none
