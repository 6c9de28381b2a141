theorem zdx_q {r : Int} (h1 : -2147483648 < r) (h2 : r < 2147483648) : -40000 < r.tdiv 65536 ∧ r.tdiv 65536 < 40000 := by
  have t1 := Int.tmod_def r 65536
  have t2 := Int.tmod_lt_of_pos r (b := 65536) (by decide)
  have t3 := Int.lt_tmod_of_pos r (b := 65536) (by decide)
  generalize r.tdiv 65536 = u at t1 ⊢
  generalize r.tmod 65536 = m at t1 t2 t3
  omega
theorem zdx_r {u : Int} (h1 : -40000 < u) (h2 : u < 40000) : -4000 < u.tdiv 100 ∧ u.tdiv 100 < 4000 := by
  have t1 := Int.tmod_def u 100
  have t2 := Int.tmod_lt_of_pos u (b := 100) (by decide)
  have t3 := Int.lt_tmod_of_pos u (b := 100) (by decide)
  generalize u.tdiv 100 = w at t1 ⊢
  generalize u.tmod 100 = m at t1 t2 t3
  omega
