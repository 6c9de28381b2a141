theorem zdx_p {x v : Int32} : (v ≤ ((zdx x).toInt32 / Int32.ofInt 65536) - ((zdx x).toInt32 / Int32.ofInt 65536) / Int32.ofInt 100 * Int32.ofInt 100) ↔ 0 ≤ lg_cmp ((zdx x / 65536) - (zdx x / 65536) / 100 * 100) v.toInt64 := by
  have b := zdx_b (x := x)
  refine Int32.le_iff_toInt_le.trans (Iff.trans ?_ z_lge.symm)
  rw [zdx_32, zdx_64 b.1 b.2, zdx_i, Int32.toInt_toInt64]
