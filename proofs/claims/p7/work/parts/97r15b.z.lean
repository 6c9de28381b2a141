/-- draws -/
def zdx (x : Int32) : Int64 := (x.toInt64 * 1103515245 + 12345) - (x.toInt64 * 1103515245 + 12345) / 2147483648 * 2147483648
theorem zdx_t {x : Int32} : (zdx x).toInt = (x.toInt * 1103515245 + 12345).tmod 2147483648 := by
  have e : x.toInt64.toInt = x.toInt := Int32.toInt_toInt64 x
  have l1 := x.le_toInt
  have l2 := x.toInt_lt
  have a : (x.toInt64 * 1103515245 + 12345).toInt = x.toInt * 1103515245 + 12345 := by
    rw [Int64.toInt_add, Int64.toInt_mul, e, show (1103515245 : Int64).toInt = 1103515245 from by decide, show (12345 : Int64).toInt = 12345 from by decide, Int.bmod_eq_of_le (n := x.toInt * 1103515245) (by omega) (by omega), Int.bmod_eq_of_le (by omega) (by omega)]
  have t := Int.tmod_def (x.toInt * 1103515245 + 12345) 2147483648
  have b1 := Int.tmod_lt_of_pos (x.toInt * 1103515245 + 12345) (b := 2147483648) (by decide)
  have b2 := Int.lt_tmod_of_pos (x.toInt * 1103515245 + 12345) (b := 2147483648) (by decide)
  have d : ((x.toInt64 * 1103515245 + 12345) / 2147483648).toInt = (x.toInt * 1103515245 + 12345).tdiv 2147483648 := by
    rw [Int64.toInt_div_of_ne_right _ _ (by decide), a, show (2147483648 : Int64).toInt = 2147483648 from by decide]
  unfold zdx
  rw [Int64.toInt_sub, Int64.toInt_mul, a, d, show (2147483648 : Int64).toInt = 2147483648 from by decide, Int.bmod_eq_of_le (n := (x.toInt * 1103515245 + 12345).tdiv 2147483648 * 2147483648) (by omega) (by omega), Int.bmod_eq_of_le (by omega) (by omega), t]
  omega
theorem zdx_b {x : Int32} : -2147483648 < (zdx x).toInt ∧ (zdx x).toInt < 2147483648 := by
  rw [zdx_t]
  exact ⟨Int.lt_tmod_of_pos _ (by decide), Int.tmod_lt_of_pos _ (by decide)⟩
theorem zdx_i {x : Int32} : (zdx x).toInt32.toInt = (zdx x).toInt := by
  have b := zdx_b (x := x)
  rw [Int64.toInt_toInt32, Int.bmod_eq_of_le (by omega) (by omega)]
theorem zdx_n {x : Int32} : (zdx x).toInt32.toInt64 = zdx x := Int64.toInt_inj.mp (by rw [Int32.toInt_toInt64, zdx_i])
theorem z_lge {x y : Int64} : 0 ≤ lg_cmp x y ↔ y.toInt ≤ x.toInt := by
  have a := @z_lgl x y
  have b : (0 ≤ lg_cmp x y) ↔ ¬ (lg_cmp x y < 0) := by
    rw [Int32.le_iff_toInt_le, Int32.lt_iff_toInt_lt]
    omega
  rw [b, a]
  omega
