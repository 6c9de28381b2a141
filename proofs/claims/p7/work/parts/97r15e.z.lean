theorem zdx_64 {y : Int64} (h1 : -2147483648 < y.toInt) (h2 : y.toInt < 2147483648) : (y / 65536 - y / 65536 / 100 * 100).toInt = y.toInt.tdiv 65536 - (y.toInt.tdiv 65536).tdiv 100 * 100 := by
  have q := zdx_q (r := y.toInt) h1 h2
  have w := zdx_r q.1 q.2
  have a1 : (y / 65536).toInt = y.toInt.tdiv 65536 := Int64.toInt_div_of_ne_right y 65536 (by decide)
  have a2 : (y / 65536 / 100).toInt = (y.toInt.tdiv 65536).tdiv 100 := by
    rw [← a1]
    exact Int64.toInt_div_of_ne_right (y / 65536) 100 (by decide)
  rw [Int64.toInt_sub, Int64.toInt_mul, a1, a2, show (100 : Int64).toInt = 100 from by decide]
  generalize (y.toInt.tdiv 65536).tdiv 100 = c at w ⊢
  generalize y.toInt.tdiv 65536 = d at q ⊢
  rw [Int.bmod_eq_of_le (n := c * 100) (by omega) (by omega), Int.bmod_eq_of_le (by omega) (by omega)]
