/-! constants of the class -/
def ax_fac : Nat → Int32 := fun i => ([1, 1, 2, 6, 24, 120, 720, 5040] : List Int32).getD i 0
def ax_str : Nat → Int32 := fun i => ([0, 0, 6, 6, 6, 5, 5, 4, 4, 4, 4, 4, 3, 2, 1, 0, 0, 0, 0] : List Int32).getD i 0
def ax_txb : List Int32 := [99, 104, 105, 108, 100, 32, 112, 108, 97, 99, 101, 32, 98, 97, 99, 107, 32, 32, 108, 101, 97, 112, 32, 32, 98, 114, 101, 97, 116, 104, 111, 118, 101, 114, 32, 32, 108, 101, 97, 112, 116, 32, 109, 97, 110, 121, 32, 32, 99, 97, 110, 32, 32, 32, 116, 117, 114, 110, 32, 32, 105, 102, 32, 32, 32, 32, 110, 111, 116, 32, 32, 32, 97, 110, 100, 32, 32, 32, 111, 114, 32, 32, 32, 32, 108, 97, 110, 101, 32, 32]
def ax_wd (tx : List Int32) : Nat → Int32 := fun i => tx.getD i 0
def wp_X11_ruleInForce_N (N : Nat) (c_rulesMany : Int32) (c_rl : Nat → Option Nat) (s_inForce : Int32) (Q : Prop) : Prop := (s_inForce < 0 ∨ c_rulesMany ≤ s_inForce) ∧ Q
def wp_X11_ruleInForce_R (N : Nat) (c_rulesMany : Int32) (c_rl : Nat → Option Nat) (s_inForce : Int32) (Q : Prop) : Prop := (¬ s_inForce < 0 ∧ ¬ c_rulesMany ≤ s_inForce ∧ vp_in s_inForce 6 ∧ c_rl s_inForce.toNatClampNeg = some 39) ∧ Q
