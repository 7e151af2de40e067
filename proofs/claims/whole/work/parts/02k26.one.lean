section AXO
variable {l : Launch} {G : ax_G} {D : va_G} {κ ρ : Nat → Nat} {A : Nat → Prop} {M : ax_M} {out : ax_E} {p : Program} {e : Env} {s : State} {m : MethodId} {args : Array Value} {below : List Frame} {meth : Method} {cd : Code} {pc : Nat} {ls : ax_L} {st : List Value} {w : ax_W} {lg : List Nat} {sl : Nat}
abbrev ax_dor (G : ax_G) (pc : Nat) (r : ax_R) (ls : ax_L) (st : List Value) (w : ax_W) (lg : List Nat) (sl : Nat) : Option ax_S := ax_do G.1 G.2.1 G.2.2.1 r.1 (pc + r.2.1) r.2.2.1 r.2.2.2.1 r.2.2.2.2.1 r.2.2.2.2.2.1 r.2.2.2.2.2.2.1 r.2.2.2.2.2.2.2.1 r.2.2.2.2.2.2.2.2.1 ls st w lg sl
end AXO
