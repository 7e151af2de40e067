/-! numbers: Int32 and Int64 by Int -/
def jn (x : Int) : Int32 := Int32.ofInt x
def jl (x : Int) : Int64 := Int64.ofInt x
theorem li_0 : (0 : Int32) = jn 0 := rfl
theorem li_1 : (1 : Int32) = jn 1 := rfl
theorem li_2 : (2 : Int32) = jn 2 := rfl
theorem li_3 : (3 : Int32) = jn 3 := rfl
theorem li_4 : (4 : Int32) = jn 4 := rfl
theorem li_5 : (5 : Int32) = jn 5 := rfl
theorem li_6 : (6 : Int32) = jn 6 := rfl
theorem li_7 : (7 : Int32) = jn 7 := rfl
theorem li_8 : (8 : Int32) = jn 8 := rfl
theorem li_9 : (9 : Int32) = jn 9 := rfl
theorem li_10 : (10 : Int32) = jn 10 := rfl
theorem li_11 : (11 : Int32) = jn 11 := rfl
theorem li_12 : (12 : Int32) = jn 12 := rfl
theorem li_13 : (13 : Int32) = jn 13 := rfl
theorem li_14 : (14 : Int32) = jn 14 := rfl
theorem li_15 : (15 : Int32) = jn 15 := rfl
theorem li_16 : (16 : Int32) = jn 16 := rfl
theorem li_17 : (17 : Int32) = jn 17 := rfl
theorem li_18 : (18 : Int32) = jn 18 := rfl
theorem li_20 : (20 : Int32) = jn 20 := rfl
theorem li_24 : (24 : Int32) = jn 24 := rfl
theorem li_29 : (29 : Int32) = jn 29 := rfl
theorem li_30 : (30 : Int32) = jn 30 := rfl
theorem li_31 : (31 : Int32) = jn 31 := rfl
theorem li_32 : (32 : Int32) = jn 32 := rfl
theorem li_37 : (37 : Int32) = jn 37 := rfl
theorem li_39 : (39 : Int32) = jn 39 := rfl
theorem li_40 : (40 : Int32) = jn 40 := rfl
theorem li_42 : (42 : Int32) = jn 42 := rfl
theorem li_43 : (43 : Int32) = jn 43 := rfl
theorem li_45 : (45 : Int32) = jn 45 := rfl
theorem li_46 : (46 : Int32) = jn 46 := rfl
theorem li_47 : (47 : Int32) = jn 47 := rfl
theorem li_48 : (48 : Int32) = jn 48 := rfl
theorem li_53 : (53 : Int32) = jn 53 := rfl
theorem li_57 : (57 : Int32) = jn 57 := rfl
theorem li_59 : (59 : Int32) = jn 59 := rfl
theorem li_60 : (60 : Int32) = jn 60 := rfl
theorem li_61 : (61 : Int32) = jn 61 := rfl
theorem li_62 : (62 : Int32) = jn 62 := rfl
theorem li_63 : (63 : Int32) = jn 63 := rfl
theorem li_80 : (80 : Int32) = jn 80 := rfl
theorem li_81 : (81 : Int32) = jn 81 := rfl
theorem li_91 : (91 : Int32) = jn 91 := rfl
theorem li_93 : (93 : Int32) = jn 93 := rfl
theorem li_97 : (97 : Int32) = jn 97 := rfl
theorem li_100 : (100 : Int32) = jn 100 := rfl
theorem li_122 : (122 : Int32) = jn 122 := rfl
theorem li_200 : (200 : Int32) = jn 200 := rfl
theorem li_255 : (255 : Int32) = jn 255 := rfl
theorem li_256 : (256 : Int32) = jn 256 := rfl
theorem li_257 : (257 : Int32) = jn 257 := rfl
theorem li_258 : (258 : Int32) = jn 258 := rfl
theorem li_259 : (259 : Int32) = jn 259 := rfl
theorem li_260 : (260 : Int32) = jn 260 := rfl
theorem li_300 : (300 : Int32) = jn 300 := rfl
theorem li_314 : (314 : Int32) = jn 314 := rfl
theorem li_400 : (400 : Int32) = jn 400 := rfl
theorem li_580 : (580 : Int32) = jn 580 := rfl
theorem li_999 : (999 : Int32) = jn 999 := rfl
theorem li_5040 : (5040 : Int32) = jn 5040 := rfl
theorem li_9999 : (9999 : Int32) = jn 9999 := rfl
theorem li_65536 : (65536 : Int32) = jn 65536 := rfl
theorem li_99999 : (99999 : Int32) = jn 99999 := rfl
theorem li_7654321 : (7654321 : Int32) = jn 7654321 := rfl
theorem jn_toInt {a : Int} (h : -2147483648 ≤ a ∧ a < 2147483648) : (jn a).toInt = a := Int32.toInt_ofInt_of_le (by omega) (by omega)
theorem jn_add {a b : Int} : jn a + jn b = jn (a + b) := (Int32.ofInt_add a b).symm
theorem jn_sub {a b : Int} : jn a - jn b = jn (a - b) := (Int32.ofInt_sub a b).symm
theorem jn_mul {a b : Int} : jn a * jn b = jn (a * b) := (Int32.ofInt_mul a b).symm
theorem jn_neg {a : Int} : -jn a = jn (-a) := (Int32.ofInt_neg a).symm
theorem jn_le {a b : Int} (ha : -2147483648 ≤ a ∧ a < 2147483648) (hb : -2147483648 ≤ b ∧ b < 2147483648) : (jn a ≤ jn b) = (a ≤ b) := by
  rw [Int32.le_iff_toInt_le, jn_toInt ha, jn_toInt hb]
theorem jn_lt {a b : Int} (ha : -2147483648 ≤ a ∧ a < 2147483648) (hb : -2147483648 ≤ b ∧ b < 2147483648) : (jn a < jn b) = (a < b) := by
  rw [Int32.lt_iff_toInt_lt, jn_toInt ha, jn_toInt hb]
theorem jn_eq {a b : Int} (ha : -2147483648 ≤ a ∧ a < 2147483648) (hb : -2147483648 ≤ b ∧ b < 2147483648) : (jn a = jn b) = (a = b) := by
  rw [← Int32.toInt_inj, jn_toInt ha, jn_toInt hb]
theorem jn_cl {a : Int} (h : -2147483648 ≤ a ∧ a < 2147483648) : (jn a).toNatClampNeg = a.toNat := by
  show (jn a).toInt.toNat = a.toNat
  rw [jn_toInt h]
theorem jn_in {a : Int} {n : Nat} (h : -2147483648 ≤ a ∧ a < 2147483648) : vp_in (jn a) n = (0 ≤ a ∧ a < n) := by
  unfold vp_in
  rw [li_0, jn_lt h (by omega), jn_cl h]
  exact propext ⟨fun q => by omega, fun q => by omega⟩
theorem jn_at {a : Int} {i : Nat} (h : a = (i : Int)) (hi : i < 2147483648) : (jn a).toNatClampNeg = i := by
  rw [jn_cl (by omega), h]; exact Int.toNat_natCast i
theorem jn_cln {i : Nat} (hi : i < 2147483648) : (jn (i : Int)).toNatClampNeg = i := jn_at rfl hi
theorem jn_of (x : Int32) : ∃ a : Int, x = jn a ∧ -2147483648 ≤ a ∧ a < 2147483648 := ⟨x.toInt, (Int32.ofInt_toInt x).symm, Int32.le_toInt x, Int32.toInt_lt x⟩
theorem jl_toInt {a : Int} (h : -9223372036854775808 ≤ a ∧ a < 9223372036854775808) : (jl a).toInt = a := Int64.toInt_ofInt_of_le (by omega) (by omega)
theorem jl_add {a b : Int} : jl a + jl b = jl (a + b) := (Int64.ofInt_add a b).symm
theorem jl_sub {a b : Int} : jl a - jl b = jl (a - b) := (Int64.ofInt_sub a b).symm
theorem jl_mul {a b : Int} : jl a * jl b = jl (a * b) := (Int64.ofInt_mul a b).symm
theorem jl_eq {a b : Int} (ha : -9223372036854775808 ≤ a ∧ a < 9223372036854775808) (hb : -9223372036854775808 ≤ b ∧ b < 9223372036854775808) : (jl a = jl b) = (a = b) := by
  rw [← Int64.toInt_inj, jl_toInt ha, jl_toInt hb]
theorem jl_lt {a b : Int} (ha : -9223372036854775808 ≤ a ∧ a < 9223372036854775808) (hb : -9223372036854775808 ≤ b ∧ b < 9223372036854775808) : (jl a < jl b) = (a < b) := by
  rw [Int64.lt_iff_toInt_lt, jl_toInt ha, jl_toInt hb]
theorem jl_le {a b : Int} (ha : -9223372036854775808 ≤ a ∧ a < 9223372036854775808) (hb : -9223372036854775808 ≤ b ∧ b < 9223372036854775808) : (jl a ≤ jl b) = (a ≤ b) := by
  rw [Int64.le_iff_toInt_le, jl_toInt ha, jl_toInt hb]
theorem jn_l {a : Int} (h : -2147483648 ≤ a ∧ a < 2147483648) : (jn a).toInt64 = jl a := by
  rw [← Int64.toInt_inj, Int32.toInt_toInt64, jn_toInt h, jl_toInt (by omega)]
theorem jl_n {a : Int} (h : -2147483648 ≤ a ∧ a < 2147483648) : (jl a).toInt32 = jn a := by
  rw [← Int32.toInt_inj, Int64.toInt_toInt32, jn_toInt h, jl_toInt (by omega)]
  exact Int.bmod_eq_of_le (by omega) (by omega)
theorem jn_cmp {x y : Int64} : (0 < lg_cmp x y) = (y < x) := by
  unfold lg_cmp
  by_cases h : x > y
  · rw [if_pos h]; exact propext ⟨fun _ => h, fun _ => by decide⟩
  · rw [if_neg h]
    refine propext ⟨fun q => ?_, fun q => absurd q h⟩
    split at q <;> exact absurd q (by decide)
theorem jn_cmp0 {x y : Int64} : (lg_cmp x y = 0) = (x = y) := by
  unfold lg_cmp
  by_cases h : x > y
  · rw [if_pos h]; exact propext ⟨fun q => absurd q (by decide), fun q => absurd h (by rw [q]; exact Int64.lt_irrefl)⟩
  · rw [if_neg h]
    by_cases e : x = y
    · rw [if_pos e]; exact propext ⟨fun _ => e, fun _ => rfl⟩
    · rw [if_neg e]; exact propext ⟨fun q => absurd q (by decide), fun q => absurd q e⟩
theorem upd_at {f : Nat → Int32} {k : Nat} {x : Int32} : upd f k x k = x := if_pos rfl
theorem upd_ne {f : Nat → Int32} {k j : Nat} {x : Int32} (h : j ≠ k) : upd f k x j = f j := if_neg h
theorem updL_at {f : Nat → Int64} {k : Nat} {x : Int64} : vp_updL f k x k = x := if_pos rfl
theorem updL_ne {f : Nat → Int64} {k j : Nat} {x : Int64} (h : j ≠ k) : vp_updL f k x j = f j := if_neg h
