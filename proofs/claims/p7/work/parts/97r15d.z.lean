theorem zdx_32 {y : Int32} : (y / Int32.ofInt 65536 - y / Int32.ofInt 65536 / Int32.ofInt 100 * Int32.ofInt 100).toInt = y.toInt.tdiv 65536 - (y.toInt.tdiv 65536).tdiv 100 * 100 := by
  have l1 := y.le_toInt
  have l2 := y.toInt_lt
  by_cases e : y.toInt = -2147483648
  · rw [show y = Int32.ofInt (-2147483648) from Int32.toInt_inj.mp (e.trans (by decide))]
    decide
  · have q := zdx_q (r := y.toInt) (by omega) (by omega)
    have w := zdx_r q.1 q.2
    have a1 : (y / Int32.ofInt 65536).toInt = y.toInt.tdiv 65536 := Int32.toInt_div_of_ne_right y (Int32.ofInt 65536) (by decide)
    have a2 : (y / Int32.ofInt 65536 / Int32.ofInt 100).toInt = (y.toInt.tdiv 65536).tdiv 100 := by
      rw [← a1]
      exact Int32.toInt_div_of_ne_right (y / Int32.ofInt 65536) (Int32.ofInt 100) (by decide)
    rw [Int32.toInt_sub, Int32.toInt_mul, a1, a2, show (Int32.ofInt 100).toInt = 100 from by decide]
    generalize (y.toInt.tdiv 65536).tdiv 100 = c at w ⊢
    generalize y.toInt.tdiv 65536 = d at q ⊢
    rw [Int.bmod_eq_of_le (n := c * 100) (by omega) (by omega), Int.bmod_eq_of_le (by omega) (by omega)]
