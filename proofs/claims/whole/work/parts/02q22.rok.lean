/-! when a row of a method's table is right -/
def bx_mok (df : Nat → List Value) (ms : List ax_M) (M : ax_M) : Bool := plainFor M.1 && ax_tok df ms M 0 (ax_tab M)
