theorem zz_a_years {X : nt_X} {pl : Nat → Nat} {v v1 mk xi : Nat → Int} {M M1 M2 : nt_M} {y1 y2 a b c d e : Int32} (hB : ly_B pl v M) (hS : ly_S pl mk xi (v 2) M) (hB1 : ly_B pl v1 M1) (hE : lq_E pl M) (hx : v 0 = v 1) (e1 : nt_ev X 99 125 [.ref (pl 16), .int a, .int b, .int c, .int d, .int e] M (some (.int y1), M1)) (e2 : nt_ev X 99 231 [.ref (pl 0), .int a, .int b, .int c, .int d, .int e] M1 (some (.int y2), M2)) (hZ : zz_E pl M) : y1 = y2 := by
  have ne := zz_ne hB
  have r1 := zz_yearsF hB hS e1 hZ
  have hZ0 := hZ
  obtain ⟨⟨hR, hW, hd, hz⟩, hI⟩ := hZ
  have h0 : 0 ≤ (nt_I M (pl 0) 2).toInt := ((hB.2.1.2 0 _ (show ly_E.2.1[0]? = some (11, 0, 0, 9) from rfl)).2.2.2.2 2).1
  obtain ⟨y2e, _⟩ := lq_out (xt231 (p := pl) (J := nt_I M1) (L := nt_J M1) (zz_P hB1) (zz_W hB1) e2)
  have e4 := r1 4 (by omega) (by decide)
  have e0 := r1 0 (by omega) (by decide)
  by_cases hn : a < 0
  · obtain ⟨y1e, _⟩ := lq_out (xt125N (p := pl) (J := nt_I M) (zz_P hB) (zz_Qn hB) (zz_Qm hB) (zz_Nm hB) hn e1)
    rw [y1e, y2e]
    exact zq_125N (Jr := nt_I M1) hn (zz_Xm hB) (by rw [e4]; exact hR) (by rw [e4]; exact hW) (by rw [e4]; exact hd) (by rw [e0]; exact zz_16 hE) (by rw [e0]; exact h0) (by rw [e4]; exact zz_x hB hx)
  · by_cases h1 : nt_I M (pl 16) 4 ≤ a
    · have hx : x111 pl a (nt_I M) = Int32.ofInt 0 := by
        unfold x111
        rw [if_pos h1]
        split <;> rfl
      obtain ⟨y1e, _⟩ := lq_out (xt125H (p := pl) (J := nt_I M) (zz_P hB) (zz_Qn hB) hx e1)
      have hm : x187 pl a (nt_I M1) = 0 := by
        have may := zmay (q := fun i => pl (31 + i)) (p := pl) (Jc := nt_I M) (Jr := nt_I M1) (v1 := a) (by rw [e4]; exact hR) (by rw [e4]; exact hW.w) (by rw [e0]; exact zz_16 hE) (by rw [e0]; exact h0)
        exact Classical.byContradiction fun c => (may.mpr c).2 hx
      have u : x231 pl a b c d e (nt_I M1) (nt_J M1) = (Int32.ofInt (-1), nt_I M1, nt_J M1) := by
        unfold x231
        rw [if_pos hm]
      have y1m : y1 = Int32.ofInt (-1) := by
        rw [y1e]
        unfold x125H
        split <;> rfl
      rw [u] at y2e
      rw [y1m, y2e]
    · obtain ⟨rb, q1, q2, q3, q4, q5⟩ := zz_rule hB hS hZ0 hn h1
      obtain ⟨y1e, _⟩ := lq_out (xt125 (p := pl) (J := nt_I M) (L := nt_J M) (zz_P hB) (zz_Qn hB) (zz_Qm hB) (zz_Nm hB) q3 hn q1 h1 e1)
      rw [y1e, y2e]
      exact zq_125 (Jr := nt_I M1) q3.2.1 q4 (zRQ_ag q5 rfl (r1 1 (by omega) (by decide)) (r1 2 (by omega) (by decide)) (r1 3 (by omega) (by decide))) (zz_Xm hB) (by rw [e4]; exact hR) (by rw [e4]; exact hW) (by rw [e4]; exact hd) (by rw [e0]; exact zz_16 hE) (by rw [e0]; exact h0) (by rw [e4]; exact zz_x hB hx)
