/-! what the calls do to the day -/
theorem lwd_n_daysN {X : nt_X} {pl : Nat → Nat} {v : Nat → Int} {M : nt_M} {d : Nat} {o : Option Value × nt_M} {n : Int32} (hd : 5 ≤ d) (hB : ly_B pl v M) (hb11 : (0 : Int) ≤ (nt_I M (pl 31) 1).toInt ∧ (nt_I M (pl 31) 1).toInt ≤ 1) (hb12 : (0 : Int) ≤ (nt_I M (pl 31) 2).toInt ∧ (nt_I M (pl 31) 2).toInt ≤ 200) (hb13 : (0 : Int) ≤ (nt_I M (pl 4) 0).toInt ∧ (nt_I M (pl 4) 0).toInt ≤ 4) (hb14 : (0 : Int) ≤ (nt_I M (pl 4) 4).toInt ∧ (nt_I M (pl 4) 4).toInt ≤ 200) (k : nt_ev X d 110 [.ref (pl 16), .int (Int32.ofInt (-1)), .int n] M o) : ∃ (y : Int32) (M' : nt_M), o = (some (.int y), M') ∧ ((y.toInt = -1 ∧ (nt_I M' (pl 31) 1).toInt = (nt_I M (pl 31) 1).toInt ∧ (nt_I M' (pl 31) 2).toInt = (nt_I M (pl 31) 2).toInt ∧ (nt_I M' (pl 4) 0).toInt = (nt_I M (pl 4) 0).toInt ∧ (nt_I M' (pl 4) 4).toInt = (nt_I M (pl 4) 4).toInt ∧ (nt_I M' (pl 14) 0).toInt = (nt_I M (pl 14) 0).toInt ∧ (nt_I M' (pl 14) 212).toInt = (nt_I M (pl 14) 212).toInt ∧ (nt_I M' (pl 14) 424).toInt = (nt_I M (pl 14) 424).toInt ∧ (nt_I M' (pl 14) 636).toInt = (nt_I M (pl 14) 636).toInt ∧ (nt_I M' (pl 14) 4).toInt = (nt_I M (pl 14) 4).toInt ∧ (nt_I M' (pl 14) 216).toInt = (nt_I M (pl 14) 216).toInt ∧ (nt_I M' (pl 14) 428).toInt = (nt_I M (pl 14) 428).toInt ∧ (nt_I M' (pl 14) 640).toInt = (nt_I M (pl 14) 640).toInt ∧ (0 : Int) ≤ (-1) * (nt_I M (pl 31) 1).toInt) ∨ (y.toInt = -1 ∧ (nt_I M' (pl 31) 1).toInt = (nt_I M (pl 31) 1).toInt ∧ (nt_I M' (pl 31) 2).toInt = (nt_I M (pl 31) 2).toInt ∧ (nt_I M' (pl 4) 0).toInt = (nt_I M (pl 4) 0).toInt ∧ (nt_I M' (pl 4) 4).toInt = (nt_I M (pl 4) 4).toInt ∧ (nt_I M' (pl 14) 0).toInt = (nt_I M (pl 14) 0).toInt ∧ (nt_I M' (pl 14) 212).toInt = (nt_I M (pl 14) 212).toInt ∧ (nt_I M' (pl 14) 424).toInt = (nt_I M (pl 14) 424).toInt ∧ (nt_I M' (pl 14) 636).toInt = (nt_I M (pl 14) 636).toInt ∧ (nt_I M' (pl 14) 4).toInt = (nt_I M (pl 14) 4).toInt ∧ (nt_I M' (pl 14) 216).toInt = (nt_I M (pl 14) 216).toInt ∧ (nt_I M' (pl 14) 428).toInt = (nt_I M (pl 14) 428).toInt ∧ (nt_I M' (pl 14) 640).toInt = (nt_I M (pl 14) 640).toInt ∧ (0 : Int) ≤ (-1) * n.toInt) ∨ (y.toInt = -1 ∧ (nt_I M' (pl 31) 1).toInt = (nt_I M (pl 31) 1).toInt ∧ (nt_I M' (pl 31) 2).toInt = (nt_I M (pl 31) 2).toInt ∧ (nt_I M' (pl 4) 0).toInt = (nt_I M (pl 4) 0).toInt ∧ (nt_I M' (pl 4) 4).toInt = (nt_I M (pl 4) 4).toInt ∧ (nt_I M' (pl 14) 0).toInt = (nt_I M (pl 14) 0).toInt ∧ (nt_I M' (pl 14) 212).toInt = (nt_I M (pl 14) 212).toInt ∧ (nt_I M' (pl 14) 424).toInt = (nt_I M (pl 14) 424).toInt ∧ (nt_I M' (pl 14) 636).toInt = (nt_I M (pl 14) 636).toInt ∧ (nt_I M' (pl 14) 4).toInt = (nt_I M (pl 14) 4).toInt ∧ (nt_I M' (pl 14) 216).toInt = (nt_I M (pl 14) 216).toInt ∧ (nt_I M' (pl 14) 428).toInt = (nt_I M (pl 14) 428).toInt ∧ (nt_I M' (pl 14) 640).toInt = (nt_I M (pl 14) 640).toInt ∧ (0 : Int) ≤ -101 + n.toInt) ∨ (y.toInt = -1 ∧ (nt_I M' (pl 31) 1).toInt = (nt_I M (pl 31) 1).toInt ∧ (nt_I M' (pl 31) 2).toInt = (nt_I M (pl 31) 2).toInt ∧ (nt_I M' (pl 4) 0).toInt = (nt_I M (pl 4) 0).toInt ∧ (nt_I M' (pl 4) 4).toInt = (nt_I M (pl 4) 4).toInt ∧ (nt_I M' (pl 14) 0).toInt = (nt_I M (pl 14) 0).toInt ∧ (nt_I M' (pl 14) 212).toInt = (nt_I M (pl 14) 212).toInt ∧ (nt_I M' (pl 14) 424).toInt = (nt_I M (pl 14) 424).toInt ∧ (nt_I M' (pl 14) 636).toInt = (nt_I M (pl 14) 636).toInt ∧ (nt_I M' (pl 14) 4).toInt = (nt_I M (pl 14) 4).toInt ∧ (nt_I M' (pl 14) 216).toInt = (nt_I M (pl 14) 216).toInt ∧ (nt_I M' (pl 14) 428).toInt = (nt_I M (pl 14) 428).toInt ∧ (nt_I M' (pl 14) 640).toInt = (nt_I M (pl 14) 640).toInt ∧ (0 : Int) ≤ -201 + (nt_I M (pl 31) 2).toInt + n.toInt) ∨ ((nt_I M' (pl 31) 1).toInt = (nt_I M (pl 31) 1).toInt ∧ (nt_I M' (pl 31) 2).toInt = y.toInt ∧ (nt_I M' (pl 4) 0).toInt = (nt_I M (pl 4) 0).toInt ∧ (nt_I M' (pl 4) 4).toInt = (nt_I M (pl 4) 4).toInt ∧ (nt_I M' (pl 14) 0).toInt = (nt_I M (pl 14) 0).toInt ∧ (nt_I M' (pl 14) 212).toInt = (nt_I M (pl 14) 212).toInt ∧ (nt_I M' (pl 14) 424).toInt = (nt_I M (pl 14) 424).toInt ∧ (nt_I M' (pl 14) 636).toInt = (nt_I M (pl 14) 636).toInt ∧ (nt_I M' (pl 14) 4).toInt = (nt_I M (pl 14) 4).toInt ∧ (nt_I M' (pl 14) 216).toInt = (nt_I M (pl 14) 216).toInt ∧ (nt_I M' (pl 14) 428).toInt = (nt_I M (pl 14) 428).toInt ∧ (nt_I M' (pl 14) 640).toInt = (nt_I M (pl 14) 640).toInt ∧ (0 : Int) ≤ -1 + (nt_I M (pl 31) 1).toInt ∧ (0 : Int) ≤ (-1) * (nt_I M (pl 31) 2).toInt + (-1) * n.toInt + y.toInt ∧ (0 : Int) ≤ (nt_I M (pl 31) 2).toInt + n.toInt + (-1) * y.toInt ∧ (0 : Int) ≤ -1 + n.toInt ∧ (0 : Int) ≤ 100 + (-1) * n.toInt ∧ (0 : Int) ≤ 200 + (-1) * (nt_I M (pl 31) 2).toInt + (-1) * n.toInt)) := by
  obtain ⟨r, hr, h11, h12, h13, h14, h15, h16, h17, h18, h19, h20, h21, h22, h23⟩ : ∃ r : Nat → Int, (∀ s, s < 11 → r s = v s) ∧ r 11 = (nt_I M (pl 31) 1).toInt ∧ r 12 = (nt_I M (pl 31) 2).toInt ∧ r 13 = (nt_I M (pl 4) 0).toInt ∧ r 14 = (nt_I M (pl 4) 4).toInt ∧ r 15 = (nt_I M (pl 14) 0).toInt ∧ r 16 = (nt_I M (pl 14) 212).toInt ∧ r 17 = (nt_I M (pl 14) 424).toInt ∧ r 18 = (nt_I M (pl 14) 636).toInt ∧ r 19 = (nt_I M (pl 14) 4).toInt ∧ r 20 = (nt_I M (pl 14) 216).toInt ∧ r 21 = (nt_I M (pl 14) 428).toInt ∧ r 22 = (nt_I M (pl 14) 640).toInt ∧ r 23 = n.toInt := ⟨fun s => if s = 11 then (nt_I M (pl 31) 1).toInt else if s = 12 then (nt_I M (pl 31) 2).toInt else if s = 13 then (nt_I M (pl 4) 0).toInt else if s = 14 then (nt_I M (pl 4) 4).toInt else if s = 15 then (nt_I M (pl 14) 0).toInt else if s = 16 then (nt_I M (pl 14) 212).toInt else if s = 17 then (nt_I M (pl 14) 424).toInt else if s = 18 then (nt_I M (pl 14) 636).toInt else if s = 19 then (nt_I M (pl 14) 4).toInt else if s = 20 then (nt_I M (pl 14) 216).toInt else if s = 21 then (nt_I M (pl 14) 428).toInt else if s = 22 then (nt_I M (pl 14) 640).toInt else if s = 23 then n.toInt else v s, fun s hs => by dsimp only; rw [if_neg (by omega), if_neg (by omega), if_neg (by omega), if_neg (by omega), if_neg (by omega), if_neg (by omega), if_neg (by omega), if_neg (by omega), if_neg (by omega), if_neg (by omega), if_neg (by omega), if_neg (by omega), if_neg (by omega)], rfl, rfl, rfl, rfl, rfl, rfl, rfl, rfl, rfl, rfl, rfl, rfl, rfl⟩
  have hij := ly_ij (K := kk_wd_n_daysN) rfl hB
  have hon := ly_app (K := kk_wd_n_daysN) (ed := []) (ec := [((31, (1, [])), (0, [(11, 1)])), ((31, (2, [])), (0, [(12, 1)])), ((4, (0, [])), (0, [(13, 1)])), ((4, (4, [])), (0, [(14, 1)])), ((14, (0, [])), (0, [(15, 1)])), ((14, (212, [])), (0, [(16, 1)])), ((14, (424, [])), (0, [(17, 1)])), ((14, (636, [])), (0, [(18, 1)])), ((14, (4, [])), (0, [(19, 1)])), ((14, (216, [])), (0, [(20, 1)])), ((14, (428, [])), (0, [(21, 1)])), ((14, (640, [])), (0, [(22, 1)]))]) (er := []) rfl hB (fun _ _ => rfl) hr hij ly_nil (lw_oiC (g := 31) (j := 1) (by show 31 < 66; decide) (by decide) (by dsimp only; rw [sx_s_e]; exact h11.symm) (lw_oiC (g := 31) (j := 2) (by show 31 < 66; decide) (by decide) (by dsimp only; rw [sx_s_e]; exact h12.symm) (lw_oiC (g := 4) (j := 0) (by show 4 < 66; decide) (by decide) (by dsimp only; rw [sx_s_e]; exact h13.symm) (lw_oiC (g := 4) (j := 4) (by show 4 < 66; decide) (by decide) (by dsimp only; rw [sx_s_e]; exact h14.symm) (lw_oiC (g := 14) (j := 0) (by show 14 < 66; decide) (by decide) (by dsimp only; rw [sx_s_e]; exact h15.symm) (lw_oiC (g := 14) (j := 212) (by show 14 < 66; decide) (by decide) (by dsimp only; rw [sx_s_e]; exact h16.symm) (lw_oiC (g := 14) (j := 424) (by show 14 < 66; decide) (by decide) (by dsimp only; rw [sx_s_e]; exact h17.symm) (lw_oiC (g := 14) (j := 636) (by show 14 < 66; decide) (by decide) (by dsimp only; rw [sx_s_e]; exact h18.symm) (lw_oiC (g := 14) (j := 4) (by show 14 < 66; decide) (by decide) (by dsimp only; rw [sx_s_e]; exact h19.symm) (lw_oiC (g := 14) (j := 216) (by show 14 < 66; decide) (by decide) (by dsimp only; rw [sx_s_e]; exact h20.symm) (lw_oiC (g := 14) (j := 428) (by show 14 < 66; decide) (by decide) (by dsimp only; rw [sx_s_e]; exact h21.symm) (lw_oiC (g := 14) (j := 640) (by show 14 < 66; decide) (by decide) (by dsimp only; rw [sx_s_e]; exact h22.symm) (lw_oiN))))))))))))) (fun q hq => by cases hq) (ly_oba (ly_obr hr (ly_ob hB)) (ly_oba (ly_ob1 (by rw [h11]; exact hb11)) (ly_oba (ly_ob1 (by rw [h12]; exact hb12)) (ly_oba (ly_ob1 (by rw [h13]; exact hb13)) (ly_oba (ly_ob1 (by rw [h14]; exact hb14)) (ly_oba (ly_obI (x := nt_I M (pl 14) 0) h15) (ly_oba (ly_obI (x := nt_I M (pl 14) 212) h16) (ly_oba (ly_obI (x := nt_I M (pl 14) 424) h17) (ly_oba (ly_obI (x := nt_I M (pl 14) 636) h18) (ly_oba (ly_obI (x := nt_I M (pl 14) 4) h19) (ly_oba (ly_obI (x := nt_I M (pl 14) 216) h20) (ly_oba (ly_obI (x := nt_I M (pl 14) 428) h21) (ly_oba (ly_obI (x := nt_I M (pl 14) 640) h22) (ly_obI h23)))))))))))))) ly_oc0
  obtain ⟨p, hp, r', h2, h3⟩ := lw_app (ko_wd_n_daysN X) rfl hd hon (vs := [.ref (pl 16), .int (Int32.ofInt (-1)), .int n]) ⟨rfl, ⟨_, rfl, by rw [sx_c_e]; decide⟩, ⟨n, rfl, (ly_e1 h23).symm⟩, trivial⟩ k
  have hr' : ∀ s, s < 24 → r' s = r s := fun s hs => h3.2.2.2.2.2.1 s hs
  obtain ⟨ov, M'⟩ := o
  rcases List.mem_cons.mp hp with rfl | hp
  · cases ov with
    | none => exact h2.elim
    | some w =>
      obtain ⟨y, rfl, hy⟩ := h2
      have hy : y.toInt = (-1) + 0 := hy
      have e0 : (nt_I M' (pl 31) 1).toInt = 0 + (1 * r' 11 + (0)) := lw_rd (g := 31) (j := 1) h3.2.2.1 (List.mem_of_getElem? (i := 0) rfl) (by decide)
      have e1 : (nt_I M' (pl 31) 2).toInt = 0 + (1 * r' 12 + (0)) := lw_rd (g := 31) (j := 2) h3.2.2.1 (List.mem_of_getElem? (i := 1) rfl) (by decide)
      have e2 : (nt_I M' (pl 4) 0).toInt = 0 + (1 * r' 13 + (0)) := lw_rd (g := 4) (j := 0) h3.2.2.1 (List.mem_of_getElem? (i := 2) rfl) (by decide)
      have e3 : (nt_I M' (pl 4) 4).toInt = 0 + (1 * r' 14 + (0)) := lw_rd (g := 4) (j := 4) h3.2.2.1 (List.mem_of_getElem? (i := 3) rfl) (by decide)
      have e4 : (nt_I M' (pl 14) 0).toInt = 0 + (1 * r' 15 + (0)) := lw_rd (g := 14) (j := 0) h3.2.2.1 (List.mem_of_getElem? (i := 4) rfl) (by decide)
      have e5 : (nt_I M' (pl 14) 212).toInt = 0 + (1 * r' 16 + (0)) := lw_rd (g := 14) (j := 212) h3.2.2.1 (List.mem_of_getElem? (i := 5) rfl) (by decide)
      have e6 : (nt_I M' (pl 14) 424).toInt = 0 + (1 * r' 17 + (0)) := lw_rd (g := 14) (j := 424) h3.2.2.1 (List.mem_of_getElem? (i := 6) rfl) (by decide)
      have e7 : (nt_I M' (pl 14) 636).toInt = 0 + (1 * r' 18 + (0)) := lw_rd (g := 14) (j := 636) h3.2.2.1 (List.mem_of_getElem? (i := 7) rfl) (by decide)
      have e8 : (nt_I M' (pl 14) 4).toInt = 0 + (1 * r' 19 + (0)) := lw_rd (g := 14) (j := 4) h3.2.2.1 (List.mem_of_getElem? (i := 8) rfl) (by decide)
      have e9 : (nt_I M' (pl 14) 216).toInt = 0 + (1 * r' 20 + (0)) := lw_rd (g := 14) (j := 216) h3.2.2.1 (List.mem_of_getElem? (i := 9) rfl) (by decide)
      have e10 : (nt_I M' (pl 14) 428).toInt = 0 + (1 * r' 21 + (0)) := lw_rd (g := 14) (j := 428) h3.2.2.1 (List.mem_of_getElem? (i := 10) rfl) (by decide)
      have e11 : (nt_I M' (pl 14) 640).toInt = 0 + (1 * r' 22 + (0)) := lw_rd (g := 14) (j := 640) h3.2.2.1 (List.mem_of_getElem? (i := 11) rfl) (by decide)
      have f0 : (0 : Int) ≤ 0 + ((-1) * r' 11 + (0)) := h3.2.2.2.2.1.2 _ (List.mem_of_getElem? (i := 0) rfl)
      have g11 := hr' 11 (by omega)
      rw [h11] at g11
      have g12 := hr' 12 (by omega)
      rw [h12] at g12
      have g13 := hr' 13 (by omega)
      rw [h13] at g13
      have g14 := hr' 14 (by omega)
      rw [h14] at g14
      have g15 := hr' 15 (by omega)
      rw [h15] at g15
      have g16 := hr' 16 (by omega)
      rw [h16] at g16
      have g17 := hr' 17 (by omega)
      rw [h17] at g17
      have g18 := hr' 18 (by omega)
      rw [h18] at g18
      have g19 := hr' 19 (by omega)
      rw [h19] at g19
      have g20 := hr' 20 (by omega)
      rw [h20] at g20
      have g21 := hr' 21 (by omega)
      rw [h21] at g21
      have g22 := hr' 22 (by omega)
      rw [h22] at g22
      exact ⟨y, M', rfl, Or.inl ⟨by omega, e0.trans (lw_s g11), e1.trans (lw_s g12), e2.trans (lw_s g13), e3.trans (lw_s g14), e4.trans (lw_s g15), e5.trans (lw_s g16), e6.trans (lw_s g17), e7.trans (lw_s g18), e8.trans (lw_s g19), e9.trans (lw_s g20), e10.trans (lw_s g21), e11.trans (lw_s g22), by omega⟩⟩
  rcases List.mem_cons.mp hp with rfl | hp
  · cases ov with
    | none => exact h2.elim
    | some w =>
      obtain ⟨y, rfl, hy⟩ := h2
      have hy : y.toInt = (-1) + 0 := hy
      have e0 : (nt_I M' (pl 31) 1).toInt = 0 + (1 * r' 11 + (0)) := lw_rd (g := 31) (j := 1) h3.2.2.1 (List.mem_of_getElem? (i := 0) rfl) (by decide)
      have e1 : (nt_I M' (pl 31) 2).toInt = 0 + (1 * r' 12 + (0)) := lw_rd (g := 31) (j := 2) h3.2.2.1 (List.mem_of_getElem? (i := 1) rfl) (by decide)
      have e2 : (nt_I M' (pl 4) 0).toInt = 0 + (1 * r' 13 + (0)) := lw_rd (g := 4) (j := 0) h3.2.2.1 (List.mem_of_getElem? (i := 2) rfl) (by decide)
      have e3 : (nt_I M' (pl 4) 4).toInt = 0 + (1 * r' 14 + (0)) := lw_rd (g := 4) (j := 4) h3.2.2.1 (List.mem_of_getElem? (i := 3) rfl) (by decide)
      have e4 : (nt_I M' (pl 14) 0).toInt = 0 + (1 * r' 15 + (0)) := lw_rd (g := 14) (j := 0) h3.2.2.1 (List.mem_of_getElem? (i := 4) rfl) (by decide)
      have e5 : (nt_I M' (pl 14) 212).toInt = 0 + (1 * r' 16 + (0)) := lw_rd (g := 14) (j := 212) h3.2.2.1 (List.mem_of_getElem? (i := 5) rfl) (by decide)
      have e6 : (nt_I M' (pl 14) 424).toInt = 0 + (1 * r' 17 + (0)) := lw_rd (g := 14) (j := 424) h3.2.2.1 (List.mem_of_getElem? (i := 6) rfl) (by decide)
      have e7 : (nt_I M' (pl 14) 636).toInt = 0 + (1 * r' 18 + (0)) := lw_rd (g := 14) (j := 636) h3.2.2.1 (List.mem_of_getElem? (i := 7) rfl) (by decide)
      have e8 : (nt_I M' (pl 14) 4).toInt = 0 + (1 * r' 19 + (0)) := lw_rd (g := 14) (j := 4) h3.2.2.1 (List.mem_of_getElem? (i := 8) rfl) (by decide)
      have e9 : (nt_I M' (pl 14) 216).toInt = 0 + (1 * r' 20 + (0)) := lw_rd (g := 14) (j := 216) h3.2.2.1 (List.mem_of_getElem? (i := 9) rfl) (by decide)
      have e10 : (nt_I M' (pl 14) 428).toInt = 0 + (1 * r' 21 + (0)) := lw_rd (g := 14) (j := 428) h3.2.2.1 (List.mem_of_getElem? (i := 10) rfl) (by decide)
      have e11 : (nt_I M' (pl 14) 640).toInt = 0 + (1 * r' 22 + (0)) := lw_rd (g := 14) (j := 640) h3.2.2.1 (List.mem_of_getElem? (i := 11) rfl) (by decide)
      have f0 : (0 : Int) ≤ 0 + ((-1) * r' 23 + (0)) := h3.2.2.2.2.1.2 _ (List.mem_of_getElem? (i := 0) rfl)
      have g11 := hr' 11 (by omega)
      rw [h11] at g11
      have g12 := hr' 12 (by omega)
      rw [h12] at g12
      have g13 := hr' 13 (by omega)
      rw [h13] at g13
      have g14 := hr' 14 (by omega)
      rw [h14] at g14
      have g15 := hr' 15 (by omega)
      rw [h15] at g15
      have g16 := hr' 16 (by omega)
      rw [h16] at g16
      have g17 := hr' 17 (by omega)
      rw [h17] at g17
      have g18 := hr' 18 (by omega)
      rw [h18] at g18
      have g19 := hr' 19 (by omega)
      rw [h19] at g19
      have g20 := hr' 20 (by omega)
      rw [h20] at g20
      have g21 := hr' 21 (by omega)
      rw [h21] at g21
      have g22 := hr' 22 (by omega)
      rw [h22] at g22
      have g23 := hr' 23 (by omega)
      rw [h23] at g23
      exact ⟨y, M', rfl, Or.inr (Or.inl ⟨by omega, e0.trans (lw_s g11), e1.trans (lw_s g12), e2.trans (lw_s g13), e3.trans (lw_s g14), e4.trans (lw_s g15), e5.trans (lw_s g16), e6.trans (lw_s g17), e7.trans (lw_s g18), e8.trans (lw_s g19), e9.trans (lw_s g20), e10.trans (lw_s g21), e11.trans (lw_s g22), by omega⟩)⟩
  rcases List.mem_cons.mp hp with rfl | hp
  · cases ov with
    | none => exact h2.elim
    | some w =>
      obtain ⟨y, rfl, hy⟩ := h2
      have hy : y.toInt = (-1) + 0 := hy
      have e0 : (nt_I M' (pl 31) 1).toInt = 0 + (1 * r' 11 + (0)) := lw_rd (g := 31) (j := 1) h3.2.2.1 (List.mem_of_getElem? (i := 0) rfl) (by decide)
      have e1 : (nt_I M' (pl 31) 2).toInt = 0 + (1 * r' 12 + (0)) := lw_rd (g := 31) (j := 2) h3.2.2.1 (List.mem_of_getElem? (i := 1) rfl) (by decide)
      have e2 : (nt_I M' (pl 4) 0).toInt = 0 + (1 * r' 13 + (0)) := lw_rd (g := 4) (j := 0) h3.2.2.1 (List.mem_of_getElem? (i := 2) rfl) (by decide)
      have e3 : (nt_I M' (pl 4) 4).toInt = 0 + (1 * r' 14 + (0)) := lw_rd (g := 4) (j := 4) h3.2.2.1 (List.mem_of_getElem? (i := 3) rfl) (by decide)
      have e4 : (nt_I M' (pl 14) 0).toInt = 0 + (1 * r' 15 + (0)) := lw_rd (g := 14) (j := 0) h3.2.2.1 (List.mem_of_getElem? (i := 4) rfl) (by decide)
      have e5 : (nt_I M' (pl 14) 212).toInt = 0 + (1 * r' 16 + (0)) := lw_rd (g := 14) (j := 212) h3.2.2.1 (List.mem_of_getElem? (i := 5) rfl) (by decide)
      have e6 : (nt_I M' (pl 14) 424).toInt = 0 + (1 * r' 17 + (0)) := lw_rd (g := 14) (j := 424) h3.2.2.1 (List.mem_of_getElem? (i := 6) rfl) (by decide)
      have e7 : (nt_I M' (pl 14) 636).toInt = 0 + (1 * r' 18 + (0)) := lw_rd (g := 14) (j := 636) h3.2.2.1 (List.mem_of_getElem? (i := 7) rfl) (by decide)
      have e8 : (nt_I M' (pl 14) 4).toInt = 0 + (1 * r' 19 + (0)) := lw_rd (g := 14) (j := 4) h3.2.2.1 (List.mem_of_getElem? (i := 8) rfl) (by decide)
      have e9 : (nt_I M' (pl 14) 216).toInt = 0 + (1 * r' 20 + (0)) := lw_rd (g := 14) (j := 216) h3.2.2.1 (List.mem_of_getElem? (i := 9) rfl) (by decide)
      have e10 : (nt_I M' (pl 14) 428).toInt = 0 + (1 * r' 21 + (0)) := lw_rd (g := 14) (j := 428) h3.2.2.1 (List.mem_of_getElem? (i := 10) rfl) (by decide)
      have e11 : (nt_I M' (pl 14) 640).toInt = 0 + (1 * r' 22 + (0)) := lw_rd (g := 14) (j := 640) h3.2.2.1 (List.mem_of_getElem? (i := 11) rfl) (by decide)
      have f0 : (0 : Int) ≤ (-101) + (1 * r' 23 + (0)) := h3.2.2.2.2.1.2 _ (List.mem_of_getElem? (i := 0) rfl)
      have g11 := hr' 11 (by omega)
      rw [h11] at g11
      have g12 := hr' 12 (by omega)
      rw [h12] at g12
      have g13 := hr' 13 (by omega)
      rw [h13] at g13
      have g14 := hr' 14 (by omega)
      rw [h14] at g14
      have g15 := hr' 15 (by omega)
      rw [h15] at g15
      have g16 := hr' 16 (by omega)
      rw [h16] at g16
      have g17 := hr' 17 (by omega)
      rw [h17] at g17
      have g18 := hr' 18 (by omega)
      rw [h18] at g18
      have g19 := hr' 19 (by omega)
      rw [h19] at g19
      have g20 := hr' 20 (by omega)
      rw [h20] at g20
      have g21 := hr' 21 (by omega)
      rw [h21] at g21
      have g22 := hr' 22 (by omega)
      rw [h22] at g22
      have g23 := hr' 23 (by omega)
      rw [h23] at g23
      exact ⟨y, M', rfl, Or.inr (Or.inr (Or.inl ⟨by omega, e0.trans (lw_s g11), e1.trans (lw_s g12), e2.trans (lw_s g13), e3.trans (lw_s g14), e4.trans (lw_s g15), e5.trans (lw_s g16), e6.trans (lw_s g17), e7.trans (lw_s g18), e8.trans (lw_s g19), e9.trans (lw_s g20), e10.trans (lw_s g21), e11.trans (lw_s g22), by omega⟩))⟩
  rcases List.mem_cons.mp hp with rfl | hp
  · cases ov with
    | none => exact h2.elim
    | some w =>
      obtain ⟨y, rfl, hy⟩ := h2
      have hy : y.toInt = (-1) + 0 := hy
      have e0 : (nt_I M' (pl 31) 1).toInt = 0 + (1 * r' 11 + (0)) := lw_rd (g := 31) (j := 1) h3.2.2.1 (List.mem_of_getElem? (i := 0) rfl) (by decide)
      have e1 : (nt_I M' (pl 31) 2).toInt = 0 + (1 * r' 12 + (0)) := lw_rd (g := 31) (j := 2) h3.2.2.1 (List.mem_of_getElem? (i := 1) rfl) (by decide)
      have e2 : (nt_I M' (pl 4) 0).toInt = 0 + (1 * r' 13 + (0)) := lw_rd (g := 4) (j := 0) h3.2.2.1 (List.mem_of_getElem? (i := 2) rfl) (by decide)
      have e3 : (nt_I M' (pl 4) 4).toInt = 0 + (1 * r' 14 + (0)) := lw_rd (g := 4) (j := 4) h3.2.2.1 (List.mem_of_getElem? (i := 3) rfl) (by decide)
      have e4 : (nt_I M' (pl 14) 0).toInt = 0 + (1 * r' 15 + (0)) := lw_rd (g := 14) (j := 0) h3.2.2.1 (List.mem_of_getElem? (i := 4) rfl) (by decide)
      have e5 : (nt_I M' (pl 14) 212).toInt = 0 + (1 * r' 16 + (0)) := lw_rd (g := 14) (j := 212) h3.2.2.1 (List.mem_of_getElem? (i := 5) rfl) (by decide)
      have e6 : (nt_I M' (pl 14) 424).toInt = 0 + (1 * r' 17 + (0)) := lw_rd (g := 14) (j := 424) h3.2.2.1 (List.mem_of_getElem? (i := 6) rfl) (by decide)
      have e7 : (nt_I M' (pl 14) 636).toInt = 0 + (1 * r' 18 + (0)) := lw_rd (g := 14) (j := 636) h3.2.2.1 (List.mem_of_getElem? (i := 7) rfl) (by decide)
      have e8 : (nt_I M' (pl 14) 4).toInt = 0 + (1 * r' 19 + (0)) := lw_rd (g := 14) (j := 4) h3.2.2.1 (List.mem_of_getElem? (i := 8) rfl) (by decide)
      have e9 : (nt_I M' (pl 14) 216).toInt = 0 + (1 * r' 20 + (0)) := lw_rd (g := 14) (j := 216) h3.2.2.1 (List.mem_of_getElem? (i := 9) rfl) (by decide)
      have e10 : (nt_I M' (pl 14) 428).toInt = 0 + (1 * r' 21 + (0)) := lw_rd (g := 14) (j := 428) h3.2.2.1 (List.mem_of_getElem? (i := 10) rfl) (by decide)
      have e11 : (nt_I M' (pl 14) 640).toInt = 0 + (1 * r' 22 + (0)) := lw_rd (g := 14) (j := 640) h3.2.2.1 (List.mem_of_getElem? (i := 11) rfl) (by decide)
      have f0 : (0 : Int) ≤ (-201) + (1 * r' 12 + (1 * r' 23 + (0))) := h3.2.2.2.2.1.2 _ (List.mem_of_getElem? (i := 0) rfl)
      have g11 := hr' 11 (by omega)
      rw [h11] at g11
      have g12 := hr' 12 (by omega)
      rw [h12] at g12
      have g13 := hr' 13 (by omega)
      rw [h13] at g13
      have g14 := hr' 14 (by omega)
      rw [h14] at g14
      have g15 := hr' 15 (by omega)
      rw [h15] at g15
      have g16 := hr' 16 (by omega)
      rw [h16] at g16
      have g17 := hr' 17 (by omega)
      rw [h17] at g17
      have g18 := hr' 18 (by omega)
      rw [h18] at g18
      have g19 := hr' 19 (by omega)
      rw [h19] at g19
      have g20 := hr' 20 (by omega)
      rw [h20] at g20
      have g21 := hr' 21 (by omega)
      rw [h21] at g21
      have g22 := hr' 22 (by omega)
      rw [h22] at g22
      have g23 := hr' 23 (by omega)
      rw [h23] at g23
      exact ⟨y, M', rfl, Or.inr (Or.inr (Or.inr (Or.inl ⟨by omega, e0.trans (lw_s g11), e1.trans (lw_s g12), e2.trans (lw_s g13), e3.trans (lw_s g14), e4.trans (lw_s g15), e5.trans (lw_s g16), e6.trans (lw_s g17), e7.trans (lw_s g18), e8.trans (lw_s g19), e9.trans (lw_s g20), e10.trans (lw_s g21), e11.trans (lw_s g22), by omega⟩)))⟩
  rw [List.mem_singleton.mp hp] at h2 h3
  cases ov with
  | none => exact h2.elim
  | some w =>
    obtain ⟨y, rfl, hy⟩ := h2
    have hy : y.toInt = 0 + (1 * r' 24 + (0)) := hy
    have e0 : (nt_I M' (pl 31) 1).toInt = 0 + (1 * r' 11 + (0)) := lw_rd (g := 31) (j := 1) h3.2.2.1 (List.mem_of_getElem? (i := 0) rfl) (by decide)
    have e1 : (nt_I M' (pl 31) 2).toInt = 0 + (1 * r' 24 + (0)) := lw_rd (g := 31) (j := 2) h3.2.2.1 (List.mem_of_getElem? (i := 1) rfl) (by decide)
    have e2 : (nt_I M' (pl 4) 0).toInt = 0 + (1 * r' 13 + (0)) := lw_rd (g := 4) (j := 0) h3.2.2.1 (List.mem_of_getElem? (i := 2) rfl) (by decide)
    have e3 : (nt_I M' (pl 4) 4).toInt = 0 + (1 * r' 14 + (0)) := lw_rd (g := 4) (j := 4) h3.2.2.1 (List.mem_of_getElem? (i := 3) rfl) (by decide)
    have e4 : (nt_I M' (pl 14) 0).toInt = 0 + (1 * r' 15 + (0)) := lw_rd (g := 14) (j := 0) h3.2.2.1 (List.mem_of_getElem? (i := 4) rfl) (by decide)
    have e5 : (nt_I M' (pl 14) 212).toInt = 0 + (1 * r' 16 + (0)) := lw_rd (g := 14) (j := 212) h3.2.2.1 (List.mem_of_getElem? (i := 5) rfl) (by decide)
    have e6 : (nt_I M' (pl 14) 424).toInt = 0 + (1 * r' 17 + (0)) := lw_rd (g := 14) (j := 424) h3.2.2.1 (List.mem_of_getElem? (i := 6) rfl) (by decide)
    have e7 : (nt_I M' (pl 14) 636).toInt = 0 + (1 * r' 18 + (0)) := lw_rd (g := 14) (j := 636) h3.2.2.1 (List.mem_of_getElem? (i := 7) rfl) (by decide)
    have e8 : (nt_I M' (pl 14) 4).toInt = 0 + (1 * r' 19 + (0)) := lw_rd (g := 14) (j := 4) h3.2.2.1 (List.mem_of_getElem? (i := 8) rfl) (by decide)
    have e9 : (nt_I M' (pl 14) 216).toInt = 0 + (1 * r' 20 + (0)) := lw_rd (g := 14) (j := 216) h3.2.2.1 (List.mem_of_getElem? (i := 9) rfl) (by decide)
    have e10 : (nt_I M' (pl 14) 428).toInt = 0 + (1 * r' 21 + (0)) := lw_rd (g := 14) (j := 428) h3.2.2.1 (List.mem_of_getElem? (i := 10) rfl) (by decide)
    have e11 : (nt_I M' (pl 14) 640).toInt = 0 + (1 * r' 22 + (0)) := lw_rd (g := 14) (j := 640) h3.2.2.1 (List.mem_of_getElem? (i := 11) rfl) (by decide)
    have f0 : (0 : Int) ≤ (-1) + (1 * r' 11 + (0)) := h3.2.2.2.2.1.2 _ (List.mem_of_getElem? (i := 0) rfl)
    have f1 : (0 : Int) ≤ 0 + ((-1) * r' 12 + ((-1) * r' 23 + (1 * r' 24 + (0)))) := h3.2.2.2.2.1.2 _ (List.mem_of_getElem? (i := 1) rfl)
    have f2 : (0 : Int) ≤ 0 + (1 * r' 12 + (1 * r' 23 + ((-1) * r' 24 + (0)))) := h3.2.2.2.2.1.2 _ (List.mem_of_getElem? (i := 2) rfl)
    have f3 : (0 : Int) ≤ (-1) + (1 * r' 23 + (0)) := h3.2.2.2.2.1.2 _ (List.mem_of_getElem? (i := 3) rfl)
    have f4 : (0 : Int) ≤ 100 + ((-1) * r' 23 + (0)) := h3.2.2.2.2.1.2 _ (List.mem_of_getElem? (i := 4) rfl)
    have f5 : (0 : Int) ≤ 200 + ((-1) * r' 12 + ((-1) * r' 23 + (0))) := h3.2.2.2.2.1.2 _ (List.mem_of_getElem? (i := 5) rfl)
    have g11 := hr' 11 (by omega)
    rw [h11] at g11
    have g12 := hr' 12 (by omega)
    rw [h12] at g12
    have g13 := hr' 13 (by omega)
    rw [h13] at g13
    have g14 := hr' 14 (by omega)
    rw [h14] at g14
    have g15 := hr' 15 (by omega)
    rw [h15] at g15
    have g16 := hr' 16 (by omega)
    rw [h16] at g16
    have g17 := hr' 17 (by omega)
    rw [h17] at g17
    have g18 := hr' 18 (by omega)
    rw [h18] at g18
    have g19 := hr' 19 (by omega)
    rw [h19] at g19
    have g20 := hr' 20 (by omega)
    rw [h20] at g20
    have g21 := hr' 21 (by omega)
    rw [h21] at g21
    have g22 := hr' 22 (by omega)
    rw [h22] at g22
    have g23 := hr' 23 (by omega)
    rw [h23] at g23
    exact ⟨y, M', rfl, Or.inr (Or.inr (Or.inr (Or.inr (⟨e0.trans (lw_s g11), by omega, e2.trans (lw_s g13), e3.trans (lw_s g14), e4.trans (lw_s g15), e5.trans (lw_s g16), e6.trans (lw_s g17), e7.trans (lw_s g18), e8.trans (lw_s g19), e9.trans (lw_s g20), e10.trans (lw_s g21), e11.trans (lw_s g22), by omega, by omega, by omega, by omega, by omega, by omega⟩))))⟩
theorem lwd_n_daysR {X : nt_X} {pl : Nat → Nat} {v : Nat → Int} {M : nt_M} {d : Nat} {o : Option Value × nt_M} {n ru : Int32} (hd : 7 ≤ d) (hB : ly_B pl v M) {mk xi : Nat → Int} (hS : ly_S pl mk xi (v 2) M) (hb11 : (0 : Int) ≤ (nt_I M (pl 31) 1).toInt ∧ (nt_I M (pl 31) 1).toInt ≤ 1) (hb12 : (0 : Int) ≤ (nt_I M (pl 31) 2).toInt ∧ (nt_I M (pl 31) 2).toInt ≤ 200) (hb13 : (0 : Int) ≤ (nt_I M (pl 4) 0).toInt ∧ (nt_I M (pl 4) 0).toInt ≤ 4) (hb14 : (0 : Int) ≤ (nt_I M (pl 4) 4).toInt ∧ (nt_I M (pl 4) 4).toInt ≤ 200) (hb23 : (0 : Int) ≤ ru.toInt ∧ ru.toInt ≤ 5) (hc0 : (0 : Int) ≤ -1 + v 2 + (-1) * ru.toInt) (k : nt_ev X d 110 [.ref (pl 16), .int ru, .int n] M o) : ∃ (y : Int32) (M' : nt_M), o = (some (.int y), M') ∧ ((y.toInt = -1 ∧ (nt_I M' (pl 31) 1).toInt = (nt_I M (pl 31) 1).toInt ∧ (nt_I M' (pl 31) 2).toInt = (nt_I M (pl 31) 2).toInt ∧ (nt_I M' (pl 4) 0).toInt = (nt_I M (pl 4) 0).toInt ∧ (nt_I M' (pl 4) 4).toInt = (nt_I M (pl 4) 4).toInt ∧ (nt_I M' (pl 14) 0).toInt = (nt_I M (pl 14) 0).toInt ∧ (nt_I M' (pl 14) 212).toInt = (nt_I M (pl 14) 212).toInt ∧ (nt_I M' (pl 14) 424).toInt = (nt_I M (pl 14) 424).toInt ∧ (nt_I M' (pl 14) 636).toInt = (nt_I M (pl 14) 636).toInt ∧ (nt_I M' (pl 14) 4).toInt = (nt_I M (pl 14) 4).toInt ∧ (nt_I M' (pl 14) 216).toInt = (nt_I M (pl 14) 216).toInt ∧ (nt_I M' (pl 14) 428).toInt = (nt_I M (pl 14) 428).toInt ∧ (nt_I M' (pl 14) 640).toInt = (nt_I M (pl 14) 640).toInt ∧ (0 : Int) ≤ (-1) * v 2 + ru.toInt) ∨ (y.toInt = -1 ∧ (nt_I M' (pl 31) 1).toInt = (nt_I M (pl 31) 1).toInt ∧ (nt_I M' (pl 31) 2).toInt = (nt_I M (pl 31) 2).toInt ∧ (nt_I M' (pl 4) 0).toInt = (nt_I M (pl 4) 0).toInt ∧ (nt_I M' (pl 4) 4).toInt = (nt_I M (pl 4) 4).toInt ∧ (nt_I M' (pl 14) 0).toInt = (nt_I M (pl 14) 0).toInt ∧ (nt_I M' (pl 14) 212).toInt = (nt_I M (pl 14) 212).toInt ∧ (nt_I M' (pl 14) 424).toInt = (nt_I M (pl 14) 424).toInt ∧ (nt_I M' (pl 14) 636).toInt = (nt_I M (pl 14) 636).toInt ∧ (nt_I M' (pl 14) 4).toInt = (nt_I M (pl 14) 4).toInt ∧ (nt_I M' (pl 14) 216).toInt = (nt_I M (pl 14) 216).toInt ∧ (nt_I M' (pl 14) 428).toInt = (nt_I M (pl 14) 428).toInt ∧ (nt_I M' (pl 14) 640).toInt = (nt_I M (pl 14) 640).toInt ∧ (0 : Int) ≤ (-1) * (nt_I M (pl 31) 1).toInt) ∨ (y.toInt = -1 ∧ (nt_I M' (pl 31) 1).toInt = (nt_I M (pl 31) 1).toInt ∧ (nt_I M' (pl 31) 2).toInt = (nt_I M (pl 31) 2).toInt ∧ (nt_I M' (pl 4) 0).toInt = (nt_I M (pl 4) 0).toInt ∧ (nt_I M' (pl 4) 4).toInt = (nt_I M (pl 4) 4).toInt ∧ (nt_I M' (pl 14) 0).toInt = (nt_I M (pl 14) 0).toInt ∧ (nt_I M' (pl 14) 212).toInt = (nt_I M (pl 14) 212).toInt ∧ (nt_I M' (pl 14) 424).toInt = (nt_I M (pl 14) 424).toInt ∧ (nt_I M' (pl 14) 636).toInt = (nt_I M (pl 14) 636).toInt ∧ (nt_I M' (pl 14) 4).toInt = (nt_I M (pl 14) 4).toInt ∧ (nt_I M' (pl 14) 216).toInt = (nt_I M (pl 14) 216).toInt ∧ (nt_I M' (pl 14) 428).toInt = (nt_I M (pl 14) 428).toInt ∧ (nt_I M' (pl 14) 640).toInt = (nt_I M (pl 14) 640).toInt ∧ (0 : Int) ≤ (-1) * n.toInt) ∨ (y.toInt = -1 ∧ (nt_I M' (pl 31) 1).toInt = (nt_I M (pl 31) 1).toInt ∧ (nt_I M' (pl 31) 2).toInt = (nt_I M (pl 31) 2).toInt ∧ (nt_I M' (pl 4) 0).toInt = (nt_I M (pl 4) 0).toInt ∧ (nt_I M' (pl 4) 4).toInt = (nt_I M (pl 4) 4).toInt ∧ (nt_I M' (pl 14) 0).toInt = (nt_I M (pl 14) 0).toInt ∧ (nt_I M' (pl 14) 212).toInt = (nt_I M (pl 14) 212).toInt ∧ (nt_I M' (pl 14) 424).toInt = (nt_I M (pl 14) 424).toInt ∧ (nt_I M' (pl 14) 636).toInt = (nt_I M (pl 14) 636).toInt ∧ (nt_I M' (pl 14) 4).toInt = (nt_I M (pl 14) 4).toInt ∧ (nt_I M' (pl 14) 216).toInt = (nt_I M (pl 14) 216).toInt ∧ (nt_I M' (pl 14) 428).toInt = (nt_I M (pl 14) 428).toInt ∧ (nt_I M' (pl 14) 640).toInt = (nt_I M (pl 14) 640).toInt ∧ (0 : Int) ≤ -101 + n.toInt) ∨ (y.toInt = -1 ∧ (nt_I M' (pl 31) 1).toInt = (nt_I M (pl 31) 1).toInt ∧ (nt_I M' (pl 31) 2).toInt = (nt_I M (pl 31) 2).toInt ∧ (nt_I M' (pl 4) 0).toInt = (nt_I M (pl 4) 0).toInt ∧ (nt_I M' (pl 4) 4).toInt = (nt_I M (pl 4) 4).toInt ∧ (nt_I M' (pl 14) 0).toInt = (nt_I M (pl 14) 0).toInt ∧ (nt_I M' (pl 14) 212).toInt = (nt_I M (pl 14) 212).toInt ∧ (nt_I M' (pl 14) 424).toInt = (nt_I M (pl 14) 424).toInt ∧ (nt_I M' (pl 14) 636).toInt = (nt_I M (pl 14) 636).toInt ∧ (nt_I M' (pl 14) 4).toInt = (nt_I M (pl 14) 4).toInt ∧ (nt_I M' (pl 14) 216).toInt = (nt_I M (pl 14) 216).toInt ∧ (nt_I M' (pl 14) 428).toInt = (nt_I M (pl 14) 428).toInt ∧ (nt_I M' (pl 14) 640).toInt = (nt_I M (pl 14) 640).toInt ∧ (0 : Int) ≤ -201 + (nt_I M (pl 31) 2).toInt + n.toInt) ∨ ((nt_I M' (pl 31) 1).toInt = (nt_I M (pl 31) 1).toInt ∧ (nt_I M' (pl 31) 2).toInt = y.toInt ∧ (nt_I M' (pl 4) 0).toInt = (nt_I M (pl 4) 0).toInt ∧ (nt_I M' (pl 4) 4).toInt = (nt_I M (pl 4) 4).toInt ∧ (nt_I M' (pl 14) 0).toInt = (nt_I M (pl 14) 0).toInt ∧ (nt_I M' (pl 14) 212).toInt = (nt_I M (pl 14) 212).toInt ∧ (nt_I M' (pl 14) 424).toInt = (nt_I M (pl 14) 424).toInt ∧ (nt_I M' (pl 14) 636).toInt = (nt_I M (pl 14) 636).toInt ∧ (nt_I M' (pl 14) 4).toInt = (nt_I M (pl 14) 4).toInt ∧ (nt_I M' (pl 14) 216).toInt = (nt_I M (pl 14) 216).toInt ∧ (nt_I M' (pl 14) 428).toInt = (nt_I M (pl 14) 428).toInt ∧ (nt_I M' (pl 14) 640).toInt = (nt_I M (pl 14) 640).toInt ∧ (0 : Int) ≤ -1 + (nt_I M (pl 31) 1).toInt ∧ (0 : Int) ≤ (-1) * (nt_I M (pl 31) 2).toInt + (-1) * n.toInt + y.toInt ∧ (0 : Int) ≤ (nt_I M (pl 31) 2).toInt + n.toInt + (-1) * y.toInt ∧ (0 : Int) ≤ -1 + n.toInt ∧ (0 : Int) ≤ 100 + (-1) * n.toInt ∧ (0 : Int) ≤ 200 + (-1) * (nt_I M (pl 31) 2).toInt + (-1) * n.toInt)) := by
  obtain ⟨r, hr, h11, h12, h13, h14, h15, h16, h17, h18, h19, h20, h21, h22, h23, h24⟩ : ∃ r : Nat → Int, (∀ s, s < 11 → r s = v s) ∧ r 11 = (nt_I M (pl 31) 1).toInt ∧ r 12 = (nt_I M (pl 31) 2).toInt ∧ r 13 = (nt_I M (pl 4) 0).toInt ∧ r 14 = (nt_I M (pl 4) 4).toInt ∧ r 15 = (nt_I M (pl 14) 0).toInt ∧ r 16 = (nt_I M (pl 14) 212).toInt ∧ r 17 = (nt_I M (pl 14) 424).toInt ∧ r 18 = (nt_I M (pl 14) 636).toInt ∧ r 19 = (nt_I M (pl 14) 4).toInt ∧ r 20 = (nt_I M (pl 14) 216).toInt ∧ r 21 = (nt_I M (pl 14) 428).toInt ∧ r 22 = (nt_I M (pl 14) 640).toInt ∧ r 23 = ru.toInt ∧ r 24 = n.toInt := ⟨fun s => if s = 11 then (nt_I M (pl 31) 1).toInt else if s = 12 then (nt_I M (pl 31) 2).toInt else if s = 13 then (nt_I M (pl 4) 0).toInt else if s = 14 then (nt_I M (pl 4) 4).toInt else if s = 15 then (nt_I M (pl 14) 0).toInt else if s = 16 then (nt_I M (pl 14) 212).toInt else if s = 17 then (nt_I M (pl 14) 424).toInt else if s = 18 then (nt_I M (pl 14) 636).toInt else if s = 19 then (nt_I M (pl 14) 4).toInt else if s = 20 then (nt_I M (pl 14) 216).toInt else if s = 21 then (nt_I M (pl 14) 428).toInt else if s = 22 then (nt_I M (pl 14) 640).toInt else if s = 23 then ru.toInt else if s = 24 then n.toInt else v s, fun s hs => by dsimp only; rw [if_neg (by omega), if_neg (by omega), if_neg (by omega), if_neg (by omega), if_neg (by omega), if_neg (by omega), if_neg (by omega), if_neg (by omega), if_neg (by omega), if_neg (by omega), if_neg (by omega), if_neg (by omega), if_neg (by omega), if_neg (by omega)], rfl, rfl, rfl, rfl, rfl, rfl, rfl, rfl, rfl, rfl, rfl, rfl, rfl, rfl⟩
  obtain ⟨⟨p1, p2, p3, p4⟩, p5, T, p7, p8⟩ := hS
  obtain ⟨b, c1, c2, c3, c4, c5, c6, c7⟩ := p8 (r 23).toNat (by have := h23; omega)
  have hPL : ∀ h, h < 66 → ly_pl pl b h = pl h := fun h hh => ly_pl1 hh
  have hij : sx_ij (sx_KE (sx_tbs, sx_gps) kk_wd_n_daysR) (ly_pl pl b) := ly_pij p1 c2 hB.1
  have hon := ly_app (K := kk_wd_n_daysR) (ed := [(4, 0, 0, 0), (13, 0, 400, 0)]) (ec := [((31, (1, [])), (0, [(11, 1)])), ((31, (2, [])), (0, [(12, 1)])), ((4, (0, [])), (0, [(13, 1)])), ((4, (4, [])), (0, [(14, 1)])), ((14, (0, [])), (0, [(15, 1)])), ((14, (212, [])), (0, [(16, 1)])), ((14, (424, [])), (0, [(17, 1)])), ((14, (636, [])), (0, [(18, 1)])), ((14, (4, [])), (0, [(19, 1)])), ((14, (216, [])), (0, [(20, 1)])), ((14, (428, [])), (0, [(21, 1)])), ((14, (640, [])), (0, [(22, 1)]))]) (er := [((23, (0, [(23, 1)])), 67), ((66, (0, [])), 68)]) rfl hB hPL hr hij (fun h q hq => by rw [ly_pl2 (by omega), show 66 + h - 66 = h from by omega]; exact c6 h q hq) (lw_oiC (g := 31) (j := 1) (by show 31 < 68; decide) (by decide) (by dsimp only; rw [hPL 31 (by decide)]; rw [sx_s_e]; exact h11.symm) (lw_oiC (g := 31) (j := 2) (by show 31 < 68; decide) (by decide) (by dsimp only; rw [hPL 31 (by decide)]; rw [sx_s_e]; exact h12.symm) (lw_oiC (g := 4) (j := 0) (by show 4 < 68; decide) (by decide) (by dsimp only; rw [hPL 4 (by decide)]; rw [sx_s_e]; exact h13.symm) (lw_oiC (g := 4) (j := 4) (by show 4 < 68; decide) (by decide) (by dsimp only; rw [hPL 4 (by decide)]; rw [sx_s_e]; exact h14.symm) (lw_oiC (g := 14) (j := 0) (by show 14 < 68; decide) (by decide) (by dsimp only; rw [hPL 14 (by decide)]; rw [sx_s_e]; exact h15.symm) (lw_oiC (g := 14) (j := 212) (by show 14 < 68; decide) (by decide) (by dsimp only; rw [hPL 14 (by decide)]; rw [sx_s_e]; exact h16.symm) (lw_oiC (g := 14) (j := 424) (by show 14 < 68; decide) (by decide) (by dsimp only; rw [hPL 14 (by decide)]; rw [sx_s_e]; exact h17.symm) (lw_oiC (g := 14) (j := 636) (by show 14 < 68; decide) (by decide) (by dsimp only; rw [hPL 14 (by decide)]; rw [sx_s_e]; exact h18.symm) (lw_oiC (g := 14) (j := 4) (by show 14 < 68; decide) (by decide) (by dsimp only; rw [hPL 14 (by decide)]; rw [sx_s_e]; exact h19.symm) (lw_oiC (g := 14) (j := 216) (by show 14 < 68; decide) (by decide) (by dsimp only; rw [hPL 14 (by decide)]; rw [sx_s_e]; exact h20.symm) (lw_oiC (g := 14) (j := 428) (by show 14 < 68; decide) (by decide) (by dsimp only; rw [hPL 14 (by decide)]; rw [sx_s_e]; exact h21.symm) (lw_oiC (g := 14) (j := 640) (by show 14 < 68; decide) (by decide) (by dsimp only; rw [hPL 14 (by decide)]; rw [sx_s_e]; exact h22.symm) (lw_oiN))))))))))))) (fun q hq => by
    rcases List.mem_cons.mp hq with rfl | hq
    · refine ⟨⟨by show 23 < 68; decide, by show 67 ≤ 68; decide⟩, ?_, ?_⟩
      · dsimp only
        rw [sx_s_e, h23]
        omega
      · dsimp only
        rw [sx_s_e, ly_pl1 (by decide), c1]
        rfl
    · rw [List.mem_singleton.mp hq]
      refine ⟨⟨by show 66 < 68; decide, by show 68 ≤ 68; decide⟩, by dsimp only; rw [sx_c_e]; decide, ?_⟩
      dsimp only
      rw [sx_c_e]
      exact c7) (ly_oba (ly_obr hr (ly_ob hB)) (ly_oba (ly_ob1 (by rw [h11]; exact hb11)) (ly_oba (ly_ob1 (by rw [h12]; exact hb12)) (ly_oba (ly_ob1 (by rw [h13]; exact hb13)) (ly_oba (ly_ob1 (by rw [h14]; exact hb14)) (ly_oba (ly_obI (x := nt_I M (pl 14) 0) h15) (ly_oba (ly_obI (x := nt_I M (pl 14) 212) h16) (ly_oba (ly_obI (x := nt_I M (pl 14) 424) h17) (ly_oba (ly_obI (x := nt_I M (pl 14) 636) h18) (ly_oba (ly_obI (x := nt_I M (pl 14) 4) h19) (ly_oba (ly_obI (x := nt_I M (pl 14) 216) h20) (ly_oba (ly_obI (x := nt_I M (pl 14) 428) h21) (ly_oba (ly_obI (x := nt_I M (pl 14) 640) h22) (ly_oba (ly_ob1 (by rw [h23]; exact hb23)) (ly_obI h24))))))))))))))) (fun q hq => by rw [List.mem_singleton.mp hq]; show (0 : Int) ≤ (-1) + (1 * r 2 + ((-1) * r 23 + (0))); rw [hr 2 (by omega), h23]; have := hc0; omega)
  obtain ⟨p, hp, r', h2, h3⟩ := lw_app (ko_wd_n_daysR X) rfl hd hon (vs := [.ref (pl 16), .int ru, .int n]) ⟨by show Value.ref (pl 16) = .ref ((ly_pl pl b) 16); rw [hPL 16 (by decide)], ⟨ru, rfl, (ly_e1 h23).symm⟩, ⟨n, rfl, (ly_e1 h24).symm⟩, trivial⟩ k
  have hr' : ∀ s, s < 25 → r' s = r s := fun s hs => h3.2.2.2.2.2.1 s hs
  obtain ⟨ov, M'⟩ := o
  rcases List.mem_cons.mp hp with rfl | hp
  · cases ov with
    | none => exact h2.elim
    | some w =>
      obtain ⟨y, rfl, hy⟩ := h2
      have hy : y.toInt = (-1) + 0 := hy
      have e0 : (nt_I M' ((ly_pl pl b) 31) 1).toInt = 0 + (1 * r' 11 + (0)) := lw_rd (g := 31) (j := 1) h3.2.2.1 (List.mem_of_getElem? (i := 0) rfl) (by decide)
      rw [hPL 31 (by decide)] at e0
      have e1 : (nt_I M' ((ly_pl pl b) 31) 2).toInt = 0 + (1 * r' 12 + (0)) := lw_rd (g := 31) (j := 2) h3.2.2.1 (List.mem_of_getElem? (i := 1) rfl) (by decide)
      rw [hPL 31 (by decide)] at e1
      have e2 : (nt_I M' ((ly_pl pl b) 4) 0).toInt = 0 + (1 * r' 13 + (0)) := lw_rd (g := 4) (j := 0) h3.2.2.1 (List.mem_of_getElem? (i := 2) rfl) (by decide)
      rw [hPL 4 (by decide)] at e2
      have e3 : (nt_I M' ((ly_pl pl b) 4) 4).toInt = 0 + (1 * r' 14 + (0)) := lw_rd (g := 4) (j := 4) h3.2.2.1 (List.mem_of_getElem? (i := 3) rfl) (by decide)
      rw [hPL 4 (by decide)] at e3
      have e4 : (nt_I M' ((ly_pl pl b) 14) 0).toInt = 0 + (1 * r' 15 + (0)) := lw_rd (g := 14) (j := 0) h3.2.2.1 (List.mem_of_getElem? (i := 4) rfl) (by decide)
      rw [hPL 14 (by decide)] at e4
      have e5 : (nt_I M' ((ly_pl pl b) 14) 212).toInt = 0 + (1 * r' 16 + (0)) := lw_rd (g := 14) (j := 212) h3.2.2.1 (List.mem_of_getElem? (i := 5) rfl) (by decide)
      rw [hPL 14 (by decide)] at e5
      have e6 : (nt_I M' ((ly_pl pl b) 14) 424).toInt = 0 + (1 * r' 17 + (0)) := lw_rd (g := 14) (j := 424) h3.2.2.1 (List.mem_of_getElem? (i := 6) rfl) (by decide)
      rw [hPL 14 (by decide)] at e6
      have e7 : (nt_I M' ((ly_pl pl b) 14) 636).toInt = 0 + (1 * r' 18 + (0)) := lw_rd (g := 14) (j := 636) h3.2.2.1 (List.mem_of_getElem? (i := 7) rfl) (by decide)
      rw [hPL 14 (by decide)] at e7
      have e8 : (nt_I M' ((ly_pl pl b) 14) 4).toInt = 0 + (1 * r' 19 + (0)) := lw_rd (g := 14) (j := 4) h3.2.2.1 (List.mem_of_getElem? (i := 8) rfl) (by decide)
      rw [hPL 14 (by decide)] at e8
      have e9 : (nt_I M' ((ly_pl pl b) 14) 216).toInt = 0 + (1 * r' 20 + (0)) := lw_rd (g := 14) (j := 216) h3.2.2.1 (List.mem_of_getElem? (i := 9) rfl) (by decide)
      rw [hPL 14 (by decide)] at e9
      have e10 : (nt_I M' ((ly_pl pl b) 14) 428).toInt = 0 + (1 * r' 21 + (0)) := lw_rd (g := 14) (j := 428) h3.2.2.1 (List.mem_of_getElem? (i := 10) rfl) (by decide)
      rw [hPL 14 (by decide)] at e10
      have e11 : (nt_I M' ((ly_pl pl b) 14) 640).toInt = 0 + (1 * r' 22 + (0)) := lw_rd (g := 14) (j := 640) h3.2.2.1 (List.mem_of_getElem? (i := 11) rfl) (by decide)
      rw [hPL 14 (by decide)] at e11
      have f0 : (0 : Int) ≤ 0 + ((-1) * r' 2 + (1 * r' 23 + (0))) := h3.2.2.2.2.1.2 _ (List.mem_of_getElem? (i := 0) rfl)
      have g2 := hr' 2 (by omega)
      rw [hr 2 (by omega)] at g2
      have g11 := hr' 11 (by omega)
      rw [h11] at g11
      have g12 := hr' 12 (by omega)
      rw [h12] at g12
      have g13 := hr' 13 (by omega)
      rw [h13] at g13
      have g14 := hr' 14 (by omega)
      rw [h14] at g14
      have g15 := hr' 15 (by omega)
      rw [h15] at g15
      have g16 := hr' 16 (by omega)
      rw [h16] at g16
      have g17 := hr' 17 (by omega)
      rw [h17] at g17
      have g18 := hr' 18 (by omega)
      rw [h18] at g18
      have g19 := hr' 19 (by omega)
      rw [h19] at g19
      have g20 := hr' 20 (by omega)
      rw [h20] at g20
      have g21 := hr' 21 (by omega)
      rw [h21] at g21
      have g22 := hr' 22 (by omega)
      rw [h22] at g22
      have g23 := hr' 23 (by omega)
      rw [h23] at g23
      exact ⟨y, M', rfl, Or.inl ⟨by omega, e0.trans (lw_s g11), e1.trans (lw_s g12), e2.trans (lw_s g13), e3.trans (lw_s g14), e4.trans (lw_s g15), e5.trans (lw_s g16), e6.trans (lw_s g17), e7.trans (lw_s g18), e8.trans (lw_s g19), e9.trans (lw_s g20), e10.trans (lw_s g21), e11.trans (lw_s g22), by omega⟩⟩
  rcases List.mem_cons.mp hp with rfl | hp
  · cases ov with
    | none => exact h2.elim
    | some w =>
      obtain ⟨y, rfl, hy⟩ := h2
      have hy : y.toInt = (-1) + 0 := hy
      have e0 : (nt_I M' ((ly_pl pl b) 31) 1).toInt = 0 + (1 * r' 11 + (0)) := lw_rd (g := 31) (j := 1) h3.2.2.1 (List.mem_of_getElem? (i := 0) rfl) (by decide)
      rw [hPL 31 (by decide)] at e0
      have e1 : (nt_I M' ((ly_pl pl b) 31) 2).toInt = 0 + (1 * r' 12 + (0)) := lw_rd (g := 31) (j := 2) h3.2.2.1 (List.mem_of_getElem? (i := 1) rfl) (by decide)
      rw [hPL 31 (by decide)] at e1
      have e2 : (nt_I M' ((ly_pl pl b) 4) 0).toInt = 0 + (1 * r' 13 + (0)) := lw_rd (g := 4) (j := 0) h3.2.2.1 (List.mem_of_getElem? (i := 2) rfl) (by decide)
      rw [hPL 4 (by decide)] at e2
      have e3 : (nt_I M' ((ly_pl pl b) 4) 4).toInt = 0 + (1 * r' 14 + (0)) := lw_rd (g := 4) (j := 4) h3.2.2.1 (List.mem_of_getElem? (i := 3) rfl) (by decide)
      rw [hPL 4 (by decide)] at e3
      have e4 : (nt_I M' ((ly_pl pl b) 14) 0).toInt = 0 + (1 * r' 15 + (0)) := lw_rd (g := 14) (j := 0) h3.2.2.1 (List.mem_of_getElem? (i := 4) rfl) (by decide)
      rw [hPL 14 (by decide)] at e4
      have e5 : (nt_I M' ((ly_pl pl b) 14) 212).toInt = 0 + (1 * r' 16 + (0)) := lw_rd (g := 14) (j := 212) h3.2.2.1 (List.mem_of_getElem? (i := 5) rfl) (by decide)
      rw [hPL 14 (by decide)] at e5
      have e6 : (nt_I M' ((ly_pl pl b) 14) 424).toInt = 0 + (1 * r' 17 + (0)) := lw_rd (g := 14) (j := 424) h3.2.2.1 (List.mem_of_getElem? (i := 6) rfl) (by decide)
      rw [hPL 14 (by decide)] at e6
      have e7 : (nt_I M' ((ly_pl pl b) 14) 636).toInt = 0 + (1 * r' 18 + (0)) := lw_rd (g := 14) (j := 636) h3.2.2.1 (List.mem_of_getElem? (i := 7) rfl) (by decide)
      rw [hPL 14 (by decide)] at e7
      have e8 : (nt_I M' ((ly_pl pl b) 14) 4).toInt = 0 + (1 * r' 19 + (0)) := lw_rd (g := 14) (j := 4) h3.2.2.1 (List.mem_of_getElem? (i := 8) rfl) (by decide)
      rw [hPL 14 (by decide)] at e8
      have e9 : (nt_I M' ((ly_pl pl b) 14) 216).toInt = 0 + (1 * r' 20 + (0)) := lw_rd (g := 14) (j := 216) h3.2.2.1 (List.mem_of_getElem? (i := 9) rfl) (by decide)
      rw [hPL 14 (by decide)] at e9
      have e10 : (nt_I M' ((ly_pl pl b) 14) 428).toInt = 0 + (1 * r' 21 + (0)) := lw_rd (g := 14) (j := 428) h3.2.2.1 (List.mem_of_getElem? (i := 10) rfl) (by decide)
      rw [hPL 14 (by decide)] at e10
      have e11 : (nt_I M' ((ly_pl pl b) 14) 640).toInt = 0 + (1 * r' 22 + (0)) := lw_rd (g := 14) (j := 640) h3.2.2.1 (List.mem_of_getElem? (i := 11) rfl) (by decide)
      rw [hPL 14 (by decide)] at e11
      have f0 : (0 : Int) ≤ 0 + ((-1) * r' 11 + (0)) := h3.2.2.2.2.1.2 _ (List.mem_of_getElem? (i := 0) rfl)
      have g11 := hr' 11 (by omega)
      rw [h11] at g11
      have g12 := hr' 12 (by omega)
      rw [h12] at g12
      have g13 := hr' 13 (by omega)
      rw [h13] at g13
      have g14 := hr' 14 (by omega)
      rw [h14] at g14
      have g15 := hr' 15 (by omega)
      rw [h15] at g15
      have g16 := hr' 16 (by omega)
      rw [h16] at g16
      have g17 := hr' 17 (by omega)
      rw [h17] at g17
      have g18 := hr' 18 (by omega)
      rw [h18] at g18
      have g19 := hr' 19 (by omega)
      rw [h19] at g19
      have g20 := hr' 20 (by omega)
      rw [h20] at g20
      have g21 := hr' 21 (by omega)
      rw [h21] at g21
      have g22 := hr' 22 (by omega)
      rw [h22] at g22
      exact ⟨y, M', rfl, Or.inr (Or.inl ⟨by omega, e0.trans (lw_s g11), e1.trans (lw_s g12), e2.trans (lw_s g13), e3.trans (lw_s g14), e4.trans (lw_s g15), e5.trans (lw_s g16), e6.trans (lw_s g17), e7.trans (lw_s g18), e8.trans (lw_s g19), e9.trans (lw_s g20), e10.trans (lw_s g21), e11.trans (lw_s g22), by omega⟩)⟩
  rcases List.mem_cons.mp hp with rfl | hp
  · cases ov with
    | none => exact h2.elim
    | some w =>
      obtain ⟨y, rfl, hy⟩ := h2
      have hy : y.toInt = (-1) + 0 := hy
      have e0 : (nt_I M' ((ly_pl pl b) 31) 1).toInt = 0 + (1 * r' 11 + (0)) := lw_rd (g := 31) (j := 1) h3.2.2.1 (List.mem_of_getElem? (i := 0) rfl) (by decide)
      rw [hPL 31 (by decide)] at e0
      have e1 : (nt_I M' ((ly_pl pl b) 31) 2).toInt = 0 + (1 * r' 12 + (0)) := lw_rd (g := 31) (j := 2) h3.2.2.1 (List.mem_of_getElem? (i := 1) rfl) (by decide)
      rw [hPL 31 (by decide)] at e1
      have e2 : (nt_I M' ((ly_pl pl b) 4) 0).toInt = 0 + (1 * r' 13 + (0)) := lw_rd (g := 4) (j := 0) h3.2.2.1 (List.mem_of_getElem? (i := 2) rfl) (by decide)
      rw [hPL 4 (by decide)] at e2
      have e3 : (nt_I M' ((ly_pl pl b) 4) 4).toInt = 0 + (1 * r' 14 + (0)) := lw_rd (g := 4) (j := 4) h3.2.2.1 (List.mem_of_getElem? (i := 3) rfl) (by decide)
      rw [hPL 4 (by decide)] at e3
      have e4 : (nt_I M' ((ly_pl pl b) 14) 0).toInt = 0 + (1 * r' 15 + (0)) := lw_rd (g := 14) (j := 0) h3.2.2.1 (List.mem_of_getElem? (i := 4) rfl) (by decide)
      rw [hPL 14 (by decide)] at e4
      have e5 : (nt_I M' ((ly_pl pl b) 14) 212).toInt = 0 + (1 * r' 16 + (0)) := lw_rd (g := 14) (j := 212) h3.2.2.1 (List.mem_of_getElem? (i := 5) rfl) (by decide)
      rw [hPL 14 (by decide)] at e5
      have e6 : (nt_I M' ((ly_pl pl b) 14) 424).toInt = 0 + (1 * r' 17 + (0)) := lw_rd (g := 14) (j := 424) h3.2.2.1 (List.mem_of_getElem? (i := 6) rfl) (by decide)
      rw [hPL 14 (by decide)] at e6
      have e7 : (nt_I M' ((ly_pl pl b) 14) 636).toInt = 0 + (1 * r' 18 + (0)) := lw_rd (g := 14) (j := 636) h3.2.2.1 (List.mem_of_getElem? (i := 7) rfl) (by decide)
      rw [hPL 14 (by decide)] at e7
      have e8 : (nt_I M' ((ly_pl pl b) 14) 4).toInt = 0 + (1 * r' 19 + (0)) := lw_rd (g := 14) (j := 4) h3.2.2.1 (List.mem_of_getElem? (i := 8) rfl) (by decide)
      rw [hPL 14 (by decide)] at e8
      have e9 : (nt_I M' ((ly_pl pl b) 14) 216).toInt = 0 + (1 * r' 20 + (0)) := lw_rd (g := 14) (j := 216) h3.2.2.1 (List.mem_of_getElem? (i := 9) rfl) (by decide)
      rw [hPL 14 (by decide)] at e9
      have e10 : (nt_I M' ((ly_pl pl b) 14) 428).toInt = 0 + (1 * r' 21 + (0)) := lw_rd (g := 14) (j := 428) h3.2.2.1 (List.mem_of_getElem? (i := 10) rfl) (by decide)
      rw [hPL 14 (by decide)] at e10
      have e11 : (nt_I M' ((ly_pl pl b) 14) 640).toInt = 0 + (1 * r' 22 + (0)) := lw_rd (g := 14) (j := 640) h3.2.2.1 (List.mem_of_getElem? (i := 11) rfl) (by decide)
      rw [hPL 14 (by decide)] at e11
      have f0 : (0 : Int) ≤ 0 + ((-1) * r' 24 + (0)) := h3.2.2.2.2.1.2 _ (List.mem_of_getElem? (i := 0) rfl)
      have g11 := hr' 11 (by omega)
      rw [h11] at g11
      have g12 := hr' 12 (by omega)
      rw [h12] at g12
      have g13 := hr' 13 (by omega)
      rw [h13] at g13
      have g14 := hr' 14 (by omega)
      rw [h14] at g14
      have g15 := hr' 15 (by omega)
      rw [h15] at g15
      have g16 := hr' 16 (by omega)
      rw [h16] at g16
      have g17 := hr' 17 (by omega)
      rw [h17] at g17
      have g18 := hr' 18 (by omega)
      rw [h18] at g18
      have g19 := hr' 19 (by omega)
      rw [h19] at g19
      have g20 := hr' 20 (by omega)
      rw [h20] at g20
      have g21 := hr' 21 (by omega)
      rw [h21] at g21
      have g22 := hr' 22 (by omega)
      rw [h22] at g22
      have g24 := hr' 24 (by omega)
      rw [h24] at g24
      exact ⟨y, M', rfl, Or.inr (Or.inr (Or.inl ⟨by omega, e0.trans (lw_s g11), e1.trans (lw_s g12), e2.trans (lw_s g13), e3.trans (lw_s g14), e4.trans (lw_s g15), e5.trans (lw_s g16), e6.trans (lw_s g17), e7.trans (lw_s g18), e8.trans (lw_s g19), e9.trans (lw_s g20), e10.trans (lw_s g21), e11.trans (lw_s g22), by omega⟩))⟩
  rcases List.mem_cons.mp hp with rfl | hp
  · cases ov with
    | none => exact h2.elim
    | some w =>
      obtain ⟨y, rfl, hy⟩ := h2
      have hy : y.toInt = (-1) + 0 := hy
      have e0 : (nt_I M' ((ly_pl pl b) 31) 1).toInt = 0 + (1 * r' 11 + (0)) := lw_rd (g := 31) (j := 1) h3.2.2.1 (List.mem_of_getElem? (i := 0) rfl) (by decide)
      rw [hPL 31 (by decide)] at e0
      have e1 : (nt_I M' ((ly_pl pl b) 31) 2).toInt = 0 + (1 * r' 12 + (0)) := lw_rd (g := 31) (j := 2) h3.2.2.1 (List.mem_of_getElem? (i := 1) rfl) (by decide)
      rw [hPL 31 (by decide)] at e1
      have e2 : (nt_I M' ((ly_pl pl b) 4) 0).toInt = 0 + (1 * r' 13 + (0)) := lw_rd (g := 4) (j := 0) h3.2.2.1 (List.mem_of_getElem? (i := 2) rfl) (by decide)
      rw [hPL 4 (by decide)] at e2
      have e3 : (nt_I M' ((ly_pl pl b) 4) 4).toInt = 0 + (1 * r' 14 + (0)) := lw_rd (g := 4) (j := 4) h3.2.2.1 (List.mem_of_getElem? (i := 3) rfl) (by decide)
      rw [hPL 4 (by decide)] at e3
      have e4 : (nt_I M' ((ly_pl pl b) 14) 0).toInt = 0 + (1 * r' 15 + (0)) := lw_rd (g := 14) (j := 0) h3.2.2.1 (List.mem_of_getElem? (i := 4) rfl) (by decide)
      rw [hPL 14 (by decide)] at e4
      have e5 : (nt_I M' ((ly_pl pl b) 14) 212).toInt = 0 + (1 * r' 16 + (0)) := lw_rd (g := 14) (j := 212) h3.2.2.1 (List.mem_of_getElem? (i := 5) rfl) (by decide)
      rw [hPL 14 (by decide)] at e5
      have e6 : (nt_I M' ((ly_pl pl b) 14) 424).toInt = 0 + (1 * r' 17 + (0)) := lw_rd (g := 14) (j := 424) h3.2.2.1 (List.mem_of_getElem? (i := 6) rfl) (by decide)
      rw [hPL 14 (by decide)] at e6
      have e7 : (nt_I M' ((ly_pl pl b) 14) 636).toInt = 0 + (1 * r' 18 + (0)) := lw_rd (g := 14) (j := 636) h3.2.2.1 (List.mem_of_getElem? (i := 7) rfl) (by decide)
      rw [hPL 14 (by decide)] at e7
      have e8 : (nt_I M' ((ly_pl pl b) 14) 4).toInt = 0 + (1 * r' 19 + (0)) := lw_rd (g := 14) (j := 4) h3.2.2.1 (List.mem_of_getElem? (i := 8) rfl) (by decide)
      rw [hPL 14 (by decide)] at e8
      have e9 : (nt_I M' ((ly_pl pl b) 14) 216).toInt = 0 + (1 * r' 20 + (0)) := lw_rd (g := 14) (j := 216) h3.2.2.1 (List.mem_of_getElem? (i := 9) rfl) (by decide)
      rw [hPL 14 (by decide)] at e9
      have e10 : (nt_I M' ((ly_pl pl b) 14) 428).toInt = 0 + (1 * r' 21 + (0)) := lw_rd (g := 14) (j := 428) h3.2.2.1 (List.mem_of_getElem? (i := 10) rfl) (by decide)
      rw [hPL 14 (by decide)] at e10
      have e11 : (nt_I M' ((ly_pl pl b) 14) 640).toInt = 0 + (1 * r' 22 + (0)) := lw_rd (g := 14) (j := 640) h3.2.2.1 (List.mem_of_getElem? (i := 11) rfl) (by decide)
      rw [hPL 14 (by decide)] at e11
      have f0 : (0 : Int) ≤ (-101) + (1 * r' 24 + (0)) := h3.2.2.2.2.1.2 _ (List.mem_of_getElem? (i := 0) rfl)
      have g11 := hr' 11 (by omega)
      rw [h11] at g11
      have g12 := hr' 12 (by omega)
      rw [h12] at g12
      have g13 := hr' 13 (by omega)
      rw [h13] at g13
      have g14 := hr' 14 (by omega)
      rw [h14] at g14
      have g15 := hr' 15 (by omega)
      rw [h15] at g15
      have g16 := hr' 16 (by omega)
      rw [h16] at g16
      have g17 := hr' 17 (by omega)
      rw [h17] at g17
      have g18 := hr' 18 (by omega)
      rw [h18] at g18
      have g19 := hr' 19 (by omega)
      rw [h19] at g19
      have g20 := hr' 20 (by omega)
      rw [h20] at g20
      have g21 := hr' 21 (by omega)
      rw [h21] at g21
      have g22 := hr' 22 (by omega)
      rw [h22] at g22
      have g24 := hr' 24 (by omega)
      rw [h24] at g24
      exact ⟨y, M', rfl, Or.inr (Or.inr (Or.inr (Or.inl ⟨by omega, e0.trans (lw_s g11), e1.trans (lw_s g12), e2.trans (lw_s g13), e3.trans (lw_s g14), e4.trans (lw_s g15), e5.trans (lw_s g16), e6.trans (lw_s g17), e7.trans (lw_s g18), e8.trans (lw_s g19), e9.trans (lw_s g20), e10.trans (lw_s g21), e11.trans (lw_s g22), by omega⟩)))⟩
  rcases List.mem_cons.mp hp with rfl | hp
  · cases ov with
    | none => exact h2.elim
    | some w =>
      obtain ⟨y, rfl, hy⟩ := h2
      have hy : y.toInt = (-1) + 0 := hy
      have e0 : (nt_I M' ((ly_pl pl b) 31) 1).toInt = 0 + (1 * r' 11 + (0)) := lw_rd (g := 31) (j := 1) h3.2.2.1 (List.mem_of_getElem? (i := 0) rfl) (by decide)
      rw [hPL 31 (by decide)] at e0
      have e1 : (nt_I M' ((ly_pl pl b) 31) 2).toInt = 0 + (1 * r' 12 + (0)) := lw_rd (g := 31) (j := 2) h3.2.2.1 (List.mem_of_getElem? (i := 1) rfl) (by decide)
      rw [hPL 31 (by decide)] at e1
      have e2 : (nt_I M' ((ly_pl pl b) 4) 0).toInt = 0 + (1 * r' 13 + (0)) := lw_rd (g := 4) (j := 0) h3.2.2.1 (List.mem_of_getElem? (i := 2) rfl) (by decide)
      rw [hPL 4 (by decide)] at e2
      have e3 : (nt_I M' ((ly_pl pl b) 4) 4).toInt = 0 + (1 * r' 14 + (0)) := lw_rd (g := 4) (j := 4) h3.2.2.1 (List.mem_of_getElem? (i := 3) rfl) (by decide)
      rw [hPL 4 (by decide)] at e3
      have e4 : (nt_I M' ((ly_pl pl b) 14) 0).toInt = 0 + (1 * r' 15 + (0)) := lw_rd (g := 14) (j := 0) h3.2.2.1 (List.mem_of_getElem? (i := 4) rfl) (by decide)
      rw [hPL 14 (by decide)] at e4
      have e5 : (nt_I M' ((ly_pl pl b) 14) 212).toInt = 0 + (1 * r' 16 + (0)) := lw_rd (g := 14) (j := 212) h3.2.2.1 (List.mem_of_getElem? (i := 5) rfl) (by decide)
      rw [hPL 14 (by decide)] at e5
      have e6 : (nt_I M' ((ly_pl pl b) 14) 424).toInt = 0 + (1 * r' 17 + (0)) := lw_rd (g := 14) (j := 424) h3.2.2.1 (List.mem_of_getElem? (i := 6) rfl) (by decide)
      rw [hPL 14 (by decide)] at e6
      have e7 : (nt_I M' ((ly_pl pl b) 14) 636).toInt = 0 + (1 * r' 18 + (0)) := lw_rd (g := 14) (j := 636) h3.2.2.1 (List.mem_of_getElem? (i := 7) rfl) (by decide)
      rw [hPL 14 (by decide)] at e7
      have e8 : (nt_I M' ((ly_pl pl b) 14) 4).toInt = 0 + (1 * r' 19 + (0)) := lw_rd (g := 14) (j := 4) h3.2.2.1 (List.mem_of_getElem? (i := 8) rfl) (by decide)
      rw [hPL 14 (by decide)] at e8
      have e9 : (nt_I M' ((ly_pl pl b) 14) 216).toInt = 0 + (1 * r' 20 + (0)) := lw_rd (g := 14) (j := 216) h3.2.2.1 (List.mem_of_getElem? (i := 9) rfl) (by decide)
      rw [hPL 14 (by decide)] at e9
      have e10 : (nt_I M' ((ly_pl pl b) 14) 428).toInt = 0 + (1 * r' 21 + (0)) := lw_rd (g := 14) (j := 428) h3.2.2.1 (List.mem_of_getElem? (i := 10) rfl) (by decide)
      rw [hPL 14 (by decide)] at e10
      have e11 : (nt_I M' ((ly_pl pl b) 14) 640).toInt = 0 + (1 * r' 22 + (0)) := lw_rd (g := 14) (j := 640) h3.2.2.1 (List.mem_of_getElem? (i := 11) rfl) (by decide)
      rw [hPL 14 (by decide)] at e11
      have f0 : (0 : Int) ≤ (-201) + (1 * r' 12 + (1 * r' 24 + (0))) := h3.2.2.2.2.1.2 _ (List.mem_of_getElem? (i := 0) rfl)
      have g11 := hr' 11 (by omega)
      rw [h11] at g11
      have g12 := hr' 12 (by omega)
      rw [h12] at g12
      have g13 := hr' 13 (by omega)
      rw [h13] at g13
      have g14 := hr' 14 (by omega)
      rw [h14] at g14
      have g15 := hr' 15 (by omega)
      rw [h15] at g15
      have g16 := hr' 16 (by omega)
      rw [h16] at g16
      have g17 := hr' 17 (by omega)
      rw [h17] at g17
      have g18 := hr' 18 (by omega)
      rw [h18] at g18
      have g19 := hr' 19 (by omega)
      rw [h19] at g19
      have g20 := hr' 20 (by omega)
      rw [h20] at g20
      have g21 := hr' 21 (by omega)
      rw [h21] at g21
      have g22 := hr' 22 (by omega)
      rw [h22] at g22
      have g24 := hr' 24 (by omega)
      rw [h24] at g24
      exact ⟨y, M', rfl, Or.inr (Or.inr (Or.inr (Or.inr (Or.inl ⟨by omega, e0.trans (lw_s g11), e1.trans (lw_s g12), e2.trans (lw_s g13), e3.trans (lw_s g14), e4.trans (lw_s g15), e5.trans (lw_s g16), e6.trans (lw_s g17), e7.trans (lw_s g18), e8.trans (lw_s g19), e9.trans (lw_s g20), e10.trans (lw_s g21), e11.trans (lw_s g22), by omega⟩))))⟩
  rw [List.mem_singleton.mp hp] at h2 h3
  cases ov with
  | none => exact h2.elim
  | some w =>
    obtain ⟨y, rfl, hy⟩ := h2
    have hy : y.toInt = 0 + (1 * r' 25 + (0)) := hy
    have e0 : (nt_I M' ((ly_pl pl b) 31) 1).toInt = 0 + (1 * r' 11 + (0)) := lw_rd (g := 31) (j := 1) h3.2.2.1 (List.mem_of_getElem? (i := 0) rfl) (by decide)
    rw [hPL 31 (by decide)] at e0
    have e1 : (nt_I M' ((ly_pl pl b) 31) 2).toInt = 0 + (1 * r' 25 + (0)) := lw_rd (g := 31) (j := 2) h3.2.2.1 (List.mem_of_getElem? (i := 1) rfl) (by decide)
    rw [hPL 31 (by decide)] at e1
    have e2 : (nt_I M' ((ly_pl pl b) 4) 0).toInt = 0 + (1 * r' 13 + (0)) := lw_rd (g := 4) (j := 0) h3.2.2.1 (List.mem_of_getElem? (i := 2) rfl) (by decide)
    rw [hPL 4 (by decide)] at e2
    have e3 : (nt_I M' ((ly_pl pl b) 4) 4).toInt = 0 + (1 * r' 14 + (0)) := lw_rd (g := 4) (j := 4) h3.2.2.1 (List.mem_of_getElem? (i := 3) rfl) (by decide)
    rw [hPL 4 (by decide)] at e3
    have e4 : (nt_I M' ((ly_pl pl b) 14) 0).toInt = 0 + (1 * r' 15 + (0)) := lw_rd (g := 14) (j := 0) h3.2.2.1 (List.mem_of_getElem? (i := 4) rfl) (by decide)
    rw [hPL 14 (by decide)] at e4
    have e5 : (nt_I M' ((ly_pl pl b) 14) 212).toInt = 0 + (1 * r' 16 + (0)) := lw_rd (g := 14) (j := 212) h3.2.2.1 (List.mem_of_getElem? (i := 5) rfl) (by decide)
    rw [hPL 14 (by decide)] at e5
    have e6 : (nt_I M' ((ly_pl pl b) 14) 424).toInt = 0 + (1 * r' 17 + (0)) := lw_rd (g := 14) (j := 424) h3.2.2.1 (List.mem_of_getElem? (i := 6) rfl) (by decide)
    rw [hPL 14 (by decide)] at e6
    have e7 : (nt_I M' ((ly_pl pl b) 14) 636).toInt = 0 + (1 * r' 18 + (0)) := lw_rd (g := 14) (j := 636) h3.2.2.1 (List.mem_of_getElem? (i := 7) rfl) (by decide)
    rw [hPL 14 (by decide)] at e7
    have e8 : (nt_I M' ((ly_pl pl b) 14) 4).toInt = 0 + (1 * r' 19 + (0)) := lw_rd (g := 14) (j := 4) h3.2.2.1 (List.mem_of_getElem? (i := 8) rfl) (by decide)
    rw [hPL 14 (by decide)] at e8
    have e9 : (nt_I M' ((ly_pl pl b) 14) 216).toInt = 0 + (1 * r' 20 + (0)) := lw_rd (g := 14) (j := 216) h3.2.2.1 (List.mem_of_getElem? (i := 9) rfl) (by decide)
    rw [hPL 14 (by decide)] at e9
    have e10 : (nt_I M' ((ly_pl pl b) 14) 428).toInt = 0 + (1 * r' 21 + (0)) := lw_rd (g := 14) (j := 428) h3.2.2.1 (List.mem_of_getElem? (i := 10) rfl) (by decide)
    rw [hPL 14 (by decide)] at e10
    have e11 : (nt_I M' ((ly_pl pl b) 14) 640).toInt = 0 + (1 * r' 22 + (0)) := lw_rd (g := 14) (j := 640) h3.2.2.1 (List.mem_of_getElem? (i := 11) rfl) (by decide)
    rw [hPL 14 (by decide)] at e11
    have f0 : (0 : Int) ≤ (-1) + (1 * r' 11 + (0)) := h3.2.2.2.2.1.2 _ (List.mem_of_getElem? (i := 0) rfl)
    have f1 : (0 : Int) ≤ 0 + ((-1) * r' 12 + ((-1) * r' 24 + (1 * r' 25 + (0)))) := h3.2.2.2.2.1.2 _ (List.mem_of_getElem? (i := 1) rfl)
    have f2 : (0 : Int) ≤ 0 + (1 * r' 12 + (1 * r' 24 + ((-1) * r' 25 + (0)))) := h3.2.2.2.2.1.2 _ (List.mem_of_getElem? (i := 2) rfl)
    have f3 : (0 : Int) ≤ (-1) + (1 * r' 24 + (0)) := h3.2.2.2.2.1.2 _ (List.mem_of_getElem? (i := 3) rfl)
    have f4 : (0 : Int) ≤ 100 + ((-1) * r' 24 + (0)) := h3.2.2.2.2.1.2 _ (List.mem_of_getElem? (i := 4) rfl)
    have f5 : (0 : Int) ≤ 200 + ((-1) * r' 12 + ((-1) * r' 24 + (0))) := h3.2.2.2.2.1.2 _ (List.mem_of_getElem? (i := 5) rfl)
    have g11 := hr' 11 (by omega)
    rw [h11] at g11
    have g12 := hr' 12 (by omega)
    rw [h12] at g12
    have g13 := hr' 13 (by omega)
    rw [h13] at g13
    have g14 := hr' 14 (by omega)
    rw [h14] at g14
    have g15 := hr' 15 (by omega)
    rw [h15] at g15
    have g16 := hr' 16 (by omega)
    rw [h16] at g16
    have g17 := hr' 17 (by omega)
    rw [h17] at g17
    have g18 := hr' 18 (by omega)
    rw [h18] at g18
    have g19 := hr' 19 (by omega)
    rw [h19] at g19
    have g20 := hr' 20 (by omega)
    rw [h20] at g20
    have g21 := hr' 21 (by omega)
    rw [h21] at g21
    have g22 := hr' 22 (by omega)
    rw [h22] at g22
    have g24 := hr' 24 (by omega)
    rw [h24] at g24
    exact ⟨y, M', rfl, Or.inr (Or.inr (Or.inr (Or.inr (Or.inr (⟨e0.trans (lw_s g11), by omega, e2.trans (lw_s g13), e3.trans (lw_s g14), e4.trans (lw_s g15), e5.trans (lw_s g16), e6.trans (lw_s g17), e7.trans (lw_s g18), e8.trans (lw_s g19), e9.trans (lw_s g20), e10.trans (lw_s g21), e11.trans (lw_s g22), by omega, by omega, by omega, by omega, by omega, by omega⟩)))))⟩
theorem lwd_n_daysL {X : nt_X} {pl : Nat → Nat} {v : Nat → Int} {M : nt_M} {d : Nat} {o : Option Value × nt_M} {n ru : Int32} (hd : 1 ≤ d) (hB : ly_B pl v M) (hb11 : (0 : Int) ≤ (nt_I M (pl 31) 1).toInt ∧ (nt_I M (pl 31) 1).toInt ≤ 1) (hb13 : (0 : Int) ≤ (nt_I M (pl 4) 0).toInt ∧ (nt_I M (pl 4) 0).toInt ≤ 4) (hb23 : (-2147483648 : Int) ≤ ru.toInt ∧ ru.toInt ≤ -2) (k : nt_ev X d 110 [.ref (pl 16), .int ru, .int n] M o) : ∃ (y : Int32) (M' : nt_M), o = (some (.int y), M') ∧ ((y.toInt = -1 ∧ (nt_I M' (pl 31) 1).toInt = (nt_I M (pl 31) 1).toInt ∧ (nt_I M' (pl 31) 2).toInt = (nt_I M (pl 31) 2).toInt ∧ (nt_I M' (pl 4) 0).toInt = (nt_I M (pl 4) 0).toInt ∧ (nt_I M' (pl 4) 4).toInt = (nt_I M (pl 4) 4).toInt ∧ (nt_I M' (pl 14) 0).toInt = (nt_I M (pl 14) 0).toInt ∧ (nt_I M' (pl 14) 212).toInt = (nt_I M (pl 14) 212).toInt ∧ (nt_I M' (pl 14) 424).toInt = (nt_I M (pl 14) 424).toInt ∧ (nt_I M' (pl 14) 636).toInt = (nt_I M (pl 14) 636).toInt ∧ (nt_I M' (pl 14) 4).toInt = (nt_I M (pl 14) 4).toInt ∧ (nt_I M' (pl 14) 216).toInt = (nt_I M (pl 14) 216).toInt ∧ (nt_I M' (pl 14) 428).toInt = (nt_I M (pl 14) 428).toInt ∧ (nt_I M' (pl 14) 640).toInt = (nt_I M (pl 14) 640).toInt)) := by
  obtain ⟨r, hr, h11, h12, h13, h14, h15, h16, h17, h18, h19, h20, h21, h22, h23, h24⟩ : ∃ r : Nat → Int, (∀ s, s < 11 → r s = v s) ∧ r 11 = (nt_I M (pl 31) 1).toInt ∧ r 12 = (nt_I M (pl 31) 2).toInt ∧ r 13 = (nt_I M (pl 4) 0).toInt ∧ r 14 = (nt_I M (pl 4) 4).toInt ∧ r 15 = (nt_I M (pl 14) 0).toInt ∧ r 16 = (nt_I M (pl 14) 212).toInt ∧ r 17 = (nt_I M (pl 14) 424).toInt ∧ r 18 = (nt_I M (pl 14) 636).toInt ∧ r 19 = (nt_I M (pl 14) 4).toInt ∧ r 20 = (nt_I M (pl 14) 216).toInt ∧ r 21 = (nt_I M (pl 14) 428).toInt ∧ r 22 = (nt_I M (pl 14) 640).toInt ∧ r 23 = ru.toInt ∧ r 24 = n.toInt := ⟨fun s => if s = 11 then (nt_I M (pl 31) 1).toInt else if s = 12 then (nt_I M (pl 31) 2).toInt else if s = 13 then (nt_I M (pl 4) 0).toInt else if s = 14 then (nt_I M (pl 4) 4).toInt else if s = 15 then (nt_I M (pl 14) 0).toInt else if s = 16 then (nt_I M (pl 14) 212).toInt else if s = 17 then (nt_I M (pl 14) 424).toInt else if s = 18 then (nt_I M (pl 14) 636).toInt else if s = 19 then (nt_I M (pl 14) 4).toInt else if s = 20 then (nt_I M (pl 14) 216).toInt else if s = 21 then (nt_I M (pl 14) 428).toInt else if s = 22 then (nt_I M (pl 14) 640).toInt else if s = 23 then ru.toInt else if s = 24 then n.toInt else v s, fun s hs => by dsimp only; rw [if_neg (by omega), if_neg (by omega), if_neg (by omega), if_neg (by omega), if_neg (by omega), if_neg (by omega), if_neg (by omega), if_neg (by omega), if_neg (by omega), if_neg (by omega), if_neg (by omega), if_neg (by omega), if_neg (by omega), if_neg (by omega)], rfl, rfl, rfl, rfl, rfl, rfl, rfl, rfl, rfl, rfl, rfl, rfl, rfl, rfl⟩
  have hij := ly_ij (K := kk_wd_n_daysL) rfl hB
  have hon := ly_app (K := kk_wd_n_daysL) (ed := []) (ec := [((31, (1, [])), (0, [(11, 1)])), ((31, (2, [])), (0, [(12, 1)])), ((4, (0, [])), (0, [(13, 1)])), ((4, (4, [])), (0, [(14, 1)])), ((14, (0, [])), (0, [(15, 1)])), ((14, (212, [])), (0, [(16, 1)])), ((14, (424, [])), (0, [(17, 1)])), ((14, (636, [])), (0, [(18, 1)])), ((14, (4, [])), (0, [(19, 1)])), ((14, (216, [])), (0, [(20, 1)])), ((14, (428, [])), (0, [(21, 1)])), ((14, (640, [])), (0, [(22, 1)]))]) (er := []) rfl hB (fun _ _ => rfl) hr hij ly_nil (lw_oiC (g := 31) (j := 1) (by show 31 < 66; decide) (by decide) (by dsimp only; rw [sx_s_e]; exact h11.symm) (lw_oiC (g := 31) (j := 2) (by show 31 < 66; decide) (by decide) (by dsimp only; rw [sx_s_e]; exact h12.symm) (lw_oiC (g := 4) (j := 0) (by show 4 < 66; decide) (by decide) (by dsimp only; rw [sx_s_e]; exact h13.symm) (lw_oiC (g := 4) (j := 4) (by show 4 < 66; decide) (by decide) (by dsimp only; rw [sx_s_e]; exact h14.symm) (lw_oiC (g := 14) (j := 0) (by show 14 < 66; decide) (by decide) (by dsimp only; rw [sx_s_e]; exact h15.symm) (lw_oiC (g := 14) (j := 212) (by show 14 < 66; decide) (by decide) (by dsimp only; rw [sx_s_e]; exact h16.symm) (lw_oiC (g := 14) (j := 424) (by show 14 < 66; decide) (by decide) (by dsimp only; rw [sx_s_e]; exact h17.symm) (lw_oiC (g := 14) (j := 636) (by show 14 < 66; decide) (by decide) (by dsimp only; rw [sx_s_e]; exact h18.symm) (lw_oiC (g := 14) (j := 4) (by show 14 < 66; decide) (by decide) (by dsimp only; rw [sx_s_e]; exact h19.symm) (lw_oiC (g := 14) (j := 216) (by show 14 < 66; decide) (by decide) (by dsimp only; rw [sx_s_e]; exact h20.symm) (lw_oiC (g := 14) (j := 428) (by show 14 < 66; decide) (by decide) (by dsimp only; rw [sx_s_e]; exact h21.symm) (lw_oiC (g := 14) (j := 640) (by show 14 < 66; decide) (by decide) (by dsimp only; rw [sx_s_e]; exact h22.symm) (lw_oiN))))))))))))) (fun q hq => by cases hq) (ly_oba (ly_obr hr (ly_ob hB)) (ly_oba (ly_ob1 (by rw [h11]; exact hb11)) (ly_oba (ly_obI (x := nt_I M (pl 31) 2) h12) (ly_oba (ly_ob1 (by rw [h13]; exact hb13)) (ly_oba (ly_obI (x := nt_I M (pl 4) 4) h14) (ly_oba (ly_obI (x := nt_I M (pl 14) 0) h15) (ly_oba (ly_obI (x := nt_I M (pl 14) 212) h16) (ly_oba (ly_obI (x := nt_I M (pl 14) 424) h17) (ly_oba (ly_obI (x := nt_I M (pl 14) 636) h18) (ly_oba (ly_obI (x := nt_I M (pl 14) 4) h19) (ly_oba (ly_obI (x := nt_I M (pl 14) 216) h20) (ly_oba (ly_obI (x := nt_I M (pl 14) 428) h21) (ly_oba (ly_obI (x := nt_I M (pl 14) 640) h22) (ly_oba (ly_ob1 (by rw [h23]; exact hb23)) (ly_obI h24))))))))))))))) ly_oc0
  obtain ⟨p, hp, r', h2, h3⟩ := lw_app (ko_wd_n_daysL X) rfl hd hon (vs := [.ref (pl 16), .int ru, .int n]) ⟨rfl, ⟨ru, rfl, (ly_e1 h23).symm⟩, ⟨n, rfl, (ly_e1 h24).symm⟩, trivial⟩ k
  have hr' : ∀ s, s < 25 → r' s = r s := fun s hs => h3.2.2.2.2.2.1 s hs
  obtain ⟨ov, M'⟩ := o
  rw [List.mem_singleton.mp hp] at h2 h3
  cases ov with
  | none => exact h2.elim
  | some w =>
    obtain ⟨y, rfl, hy⟩ := h2
    have hy : y.toInt = (-1) + 0 := hy
    have e0 : (nt_I M' (pl 31) 1).toInt = 0 + (1 * r' 11 + (0)) := lw_rd (g := 31) (j := 1) h3.2.2.1 (List.mem_of_getElem? (i := 0) rfl) (by decide)
    have e1 : (nt_I M' (pl 31) 2).toInt = 0 + (1 * r' 12 + (0)) := lw_rd (g := 31) (j := 2) h3.2.2.1 (List.mem_of_getElem? (i := 1) rfl) (by decide)
    have e2 : (nt_I M' (pl 4) 0).toInt = 0 + (1 * r' 13 + (0)) := lw_rd (g := 4) (j := 0) h3.2.2.1 (List.mem_of_getElem? (i := 2) rfl) (by decide)
    have e3 : (nt_I M' (pl 4) 4).toInt = 0 + (1 * r' 14 + (0)) := lw_rd (g := 4) (j := 4) h3.2.2.1 (List.mem_of_getElem? (i := 3) rfl) (by decide)
    have e4 : (nt_I M' (pl 14) 0).toInt = 0 + (1 * r' 15 + (0)) := lw_rd (g := 14) (j := 0) h3.2.2.1 (List.mem_of_getElem? (i := 4) rfl) (by decide)
    have e5 : (nt_I M' (pl 14) 212).toInt = 0 + (1 * r' 16 + (0)) := lw_rd (g := 14) (j := 212) h3.2.2.1 (List.mem_of_getElem? (i := 5) rfl) (by decide)
    have e6 : (nt_I M' (pl 14) 424).toInt = 0 + (1 * r' 17 + (0)) := lw_rd (g := 14) (j := 424) h3.2.2.1 (List.mem_of_getElem? (i := 6) rfl) (by decide)
    have e7 : (nt_I M' (pl 14) 636).toInt = 0 + (1 * r' 18 + (0)) := lw_rd (g := 14) (j := 636) h3.2.2.1 (List.mem_of_getElem? (i := 7) rfl) (by decide)
    have e8 : (nt_I M' (pl 14) 4).toInt = 0 + (1 * r' 19 + (0)) := lw_rd (g := 14) (j := 4) h3.2.2.1 (List.mem_of_getElem? (i := 8) rfl) (by decide)
    have e9 : (nt_I M' (pl 14) 216).toInt = 0 + (1 * r' 20 + (0)) := lw_rd (g := 14) (j := 216) h3.2.2.1 (List.mem_of_getElem? (i := 9) rfl) (by decide)
    have e10 : (nt_I M' (pl 14) 428).toInt = 0 + (1 * r' 21 + (0)) := lw_rd (g := 14) (j := 428) h3.2.2.1 (List.mem_of_getElem? (i := 10) rfl) (by decide)
    have e11 : (nt_I M' (pl 14) 640).toInt = 0 + (1 * r' 22 + (0)) := lw_rd (g := 14) (j := 640) h3.2.2.1 (List.mem_of_getElem? (i := 11) rfl) (by decide)
    have g11 := hr' 11 (by omega)
    rw [h11] at g11
    have g12 := hr' 12 (by omega)
    rw [h12] at g12
    have g13 := hr' 13 (by omega)
    rw [h13] at g13
    have g14 := hr' 14 (by omega)
    rw [h14] at g14
    have g15 := hr' 15 (by omega)
    rw [h15] at g15
    have g16 := hr' 16 (by omega)
    rw [h16] at g16
    have g17 := hr' 17 (by omega)
    rw [h17] at g17
    have g18 := hr' 18 (by omega)
    rw [h18] at g18
    have g19 := hr' 19 (by omega)
    rw [h19] at g19
    have g20 := hr' 20 (by omega)
    rw [h20] at g20
    have g21 := hr' 21 (by omega)
    rw [h21] at g21
    have g22 := hr' 22 (by omega)
    rw [h22] at g22
    exact ⟨y, M', rfl, ⟨by omega, e0.trans (lw_s g11), e1.trans (lw_s g12), e2.trans (lw_s g13), e3.trans (lw_s g14), e4.trans (lw_s g15), e5.trans (lw_s g16), e6.trans (lw_s g17), e7.trans (lw_s g18), e8.trans (lw_s g19), e9.trans (lw_s g20), e10.trans (lw_s g21), e11.trans (lw_s g22)⟩⟩
theorem lwd_n_daysH {X : nt_X} {pl : Nat → Nat} {v : Nat → Int} {M : nt_M} {d : Nat} {o : Option Value × nt_M} {n ru : Int32} (hd : 1 ≤ d) (hB : ly_B pl v M) (hb11 : (0 : Int) ≤ (nt_I M (pl 31) 1).toInt ∧ (nt_I M (pl 31) 1).toInt ≤ 1) (hb13 : (0 : Int) ≤ (nt_I M (pl 4) 0).toInt ∧ (nt_I M (pl 4) 0).toInt ≤ 4) (hc0 : (0 : Int) ≤ (-1) * v 2 + ru.toInt) (k : nt_ev X d 110 [.ref (pl 16), .int ru, .int n] M o) : ∃ (y : Int32) (M' : nt_M), o = (some (.int y), M') ∧ ((y.toInt = -1 ∧ (nt_I M' (pl 31) 1).toInt = (nt_I M (pl 31) 1).toInt ∧ (nt_I M' (pl 31) 2).toInt = (nt_I M (pl 31) 2).toInt ∧ (nt_I M' (pl 4) 0).toInt = (nt_I M (pl 4) 0).toInt ∧ (nt_I M' (pl 4) 4).toInt = (nt_I M (pl 4) 4).toInt ∧ (nt_I M' (pl 14) 0).toInt = (nt_I M (pl 14) 0).toInt ∧ (nt_I M' (pl 14) 212).toInt = (nt_I M (pl 14) 212).toInt ∧ (nt_I M' (pl 14) 424).toInt = (nt_I M (pl 14) 424).toInt ∧ (nt_I M' (pl 14) 636).toInt = (nt_I M (pl 14) 636).toInt ∧ (nt_I M' (pl 14) 4).toInt = (nt_I M (pl 14) 4).toInt ∧ (nt_I M' (pl 14) 216).toInt = (nt_I M (pl 14) 216).toInt ∧ (nt_I M' (pl 14) 428).toInt = (nt_I M (pl 14) 428).toInt ∧ (nt_I M' (pl 14) 640).toInt = (nt_I M (pl 14) 640).toInt)) := by
  obtain ⟨r, hr, h11, h12, h13, h14, h15, h16, h17, h18, h19, h20, h21, h22, h23, h24⟩ : ∃ r : Nat → Int, (∀ s, s < 11 → r s = v s) ∧ r 11 = (nt_I M (pl 31) 1).toInt ∧ r 12 = (nt_I M (pl 31) 2).toInt ∧ r 13 = (nt_I M (pl 4) 0).toInt ∧ r 14 = (nt_I M (pl 4) 4).toInt ∧ r 15 = (nt_I M (pl 14) 0).toInt ∧ r 16 = (nt_I M (pl 14) 212).toInt ∧ r 17 = (nt_I M (pl 14) 424).toInt ∧ r 18 = (nt_I M (pl 14) 636).toInt ∧ r 19 = (nt_I M (pl 14) 4).toInt ∧ r 20 = (nt_I M (pl 14) 216).toInt ∧ r 21 = (nt_I M (pl 14) 428).toInt ∧ r 22 = (nt_I M (pl 14) 640).toInt ∧ r 23 = ru.toInt ∧ r 24 = n.toInt := ⟨fun s => if s = 11 then (nt_I M (pl 31) 1).toInt else if s = 12 then (nt_I M (pl 31) 2).toInt else if s = 13 then (nt_I M (pl 4) 0).toInt else if s = 14 then (nt_I M (pl 4) 4).toInt else if s = 15 then (nt_I M (pl 14) 0).toInt else if s = 16 then (nt_I M (pl 14) 212).toInt else if s = 17 then (nt_I M (pl 14) 424).toInt else if s = 18 then (nt_I M (pl 14) 636).toInt else if s = 19 then (nt_I M (pl 14) 4).toInt else if s = 20 then (nt_I M (pl 14) 216).toInt else if s = 21 then (nt_I M (pl 14) 428).toInt else if s = 22 then (nt_I M (pl 14) 640).toInt else if s = 23 then ru.toInt else if s = 24 then n.toInt else v s, fun s hs => by dsimp only; rw [if_neg (by omega), if_neg (by omega), if_neg (by omega), if_neg (by omega), if_neg (by omega), if_neg (by omega), if_neg (by omega), if_neg (by omega), if_neg (by omega), if_neg (by omega), if_neg (by omega), if_neg (by omega), if_neg (by omega), if_neg (by omega)], rfl, rfl, rfl, rfl, rfl, rfl, rfl, rfl, rfl, rfl, rfl, rfl, rfl, rfl⟩
  have hij := ly_ij (K := kk_wd_n_daysH) rfl hB
  have hon := ly_app (K := kk_wd_n_daysH) (ed := []) (ec := [((31, (1, [])), (0, [(11, 1)])), ((31, (2, [])), (0, [(12, 1)])), ((4, (0, [])), (0, [(13, 1)])), ((4, (4, [])), (0, [(14, 1)])), ((14, (0, [])), (0, [(15, 1)])), ((14, (212, [])), (0, [(16, 1)])), ((14, (424, [])), (0, [(17, 1)])), ((14, (636, [])), (0, [(18, 1)])), ((14, (4, [])), (0, [(19, 1)])), ((14, (216, [])), (0, [(20, 1)])), ((14, (428, [])), (0, [(21, 1)])), ((14, (640, [])), (0, [(22, 1)]))]) (er := []) rfl hB (fun _ _ => rfl) hr hij ly_nil (lw_oiC (g := 31) (j := 1) (by show 31 < 66; decide) (by decide) (by dsimp only; rw [sx_s_e]; exact h11.symm) (lw_oiC (g := 31) (j := 2) (by show 31 < 66; decide) (by decide) (by dsimp only; rw [sx_s_e]; exact h12.symm) (lw_oiC (g := 4) (j := 0) (by show 4 < 66; decide) (by decide) (by dsimp only; rw [sx_s_e]; exact h13.symm) (lw_oiC (g := 4) (j := 4) (by show 4 < 66; decide) (by decide) (by dsimp only; rw [sx_s_e]; exact h14.symm) (lw_oiC (g := 14) (j := 0) (by show 14 < 66; decide) (by decide) (by dsimp only; rw [sx_s_e]; exact h15.symm) (lw_oiC (g := 14) (j := 212) (by show 14 < 66; decide) (by decide) (by dsimp only; rw [sx_s_e]; exact h16.symm) (lw_oiC (g := 14) (j := 424) (by show 14 < 66; decide) (by decide) (by dsimp only; rw [sx_s_e]; exact h17.symm) (lw_oiC (g := 14) (j := 636) (by show 14 < 66; decide) (by decide) (by dsimp only; rw [sx_s_e]; exact h18.symm) (lw_oiC (g := 14) (j := 4) (by show 14 < 66; decide) (by decide) (by dsimp only; rw [sx_s_e]; exact h19.symm) (lw_oiC (g := 14) (j := 216) (by show 14 < 66; decide) (by decide) (by dsimp only; rw [sx_s_e]; exact h20.symm) (lw_oiC (g := 14) (j := 428) (by show 14 < 66; decide) (by decide) (by dsimp only; rw [sx_s_e]; exact h21.symm) (lw_oiC (g := 14) (j := 640) (by show 14 < 66; decide) (by decide) (by dsimp only; rw [sx_s_e]; exact h22.symm) (lw_oiN))))))))))))) (fun q hq => by cases hq) (ly_oba (ly_obr hr (ly_ob hB)) (ly_oba (ly_ob1 (by rw [h11]; exact hb11)) (ly_oba (ly_obI (x := nt_I M (pl 31) 2) h12) (ly_oba (ly_ob1 (by rw [h13]; exact hb13)) (ly_oba (ly_obI (x := nt_I M (pl 4) 4) h14) (ly_oba (ly_obI (x := nt_I M (pl 14) 0) h15) (ly_oba (ly_obI (x := nt_I M (pl 14) 212) h16) (ly_oba (ly_obI (x := nt_I M (pl 14) 424) h17) (ly_oba (ly_obI (x := nt_I M (pl 14) 636) h18) (ly_oba (ly_obI (x := nt_I M (pl 14) 4) h19) (ly_oba (ly_obI (x := nt_I M (pl 14) 216) h20) (ly_oba (ly_obI (x := nt_I M (pl 14) 428) h21) (ly_oba (ly_obI (x := nt_I M (pl 14) 640) h22) (ly_oba (ly_obI h23) (ly_obI h24))))))))))))))) (fun q hq => by rw [List.mem_singleton.mp hq]; show (0 : Int) ≤ 0 + ((-1) * r 2 + (1 * r 23 + (0))); rw [hr 2 (by omega), h23]; have := hc0; omega)
  obtain ⟨p, hp, r', h2, h3⟩ := lw_app (ko_wd_n_daysH X) rfl hd hon (vs := [.ref (pl 16), .int ru, .int n]) ⟨rfl, ⟨ru, rfl, (ly_e1 h23).symm⟩, ⟨n, rfl, (ly_e1 h24).symm⟩, trivial⟩ k
  have hr' : ∀ s, s < 25 → r' s = r s := fun s hs => h3.2.2.2.2.2.1 s hs
  obtain ⟨ov, M'⟩ := o
  rw [List.mem_singleton.mp hp] at h2 h3
  cases ov with
  | none => exact h2.elim
  | some w =>
    obtain ⟨y, rfl, hy⟩ := h2
    have hy : y.toInt = (-1) + 0 := hy
    have e0 : (nt_I M' (pl 31) 1).toInt = 0 + (1 * r' 11 + (0)) := lw_rd (g := 31) (j := 1) h3.2.2.1 (List.mem_of_getElem? (i := 0) rfl) (by decide)
    have e1 : (nt_I M' (pl 31) 2).toInt = 0 + (1 * r' 12 + (0)) := lw_rd (g := 31) (j := 2) h3.2.2.1 (List.mem_of_getElem? (i := 1) rfl) (by decide)
    have e2 : (nt_I M' (pl 4) 0).toInt = 0 + (1 * r' 13 + (0)) := lw_rd (g := 4) (j := 0) h3.2.2.1 (List.mem_of_getElem? (i := 2) rfl) (by decide)
    have e3 : (nt_I M' (pl 4) 4).toInt = 0 + (1 * r' 14 + (0)) := lw_rd (g := 4) (j := 4) h3.2.2.1 (List.mem_of_getElem? (i := 3) rfl) (by decide)
    have e4 : (nt_I M' (pl 14) 0).toInt = 0 + (1 * r' 15 + (0)) := lw_rd (g := 14) (j := 0) h3.2.2.1 (List.mem_of_getElem? (i := 4) rfl) (by decide)
    have e5 : (nt_I M' (pl 14) 212).toInt = 0 + (1 * r' 16 + (0)) := lw_rd (g := 14) (j := 212) h3.2.2.1 (List.mem_of_getElem? (i := 5) rfl) (by decide)
    have e6 : (nt_I M' (pl 14) 424).toInt = 0 + (1 * r' 17 + (0)) := lw_rd (g := 14) (j := 424) h3.2.2.1 (List.mem_of_getElem? (i := 6) rfl) (by decide)
    have e7 : (nt_I M' (pl 14) 636).toInt = 0 + (1 * r' 18 + (0)) := lw_rd (g := 14) (j := 636) h3.2.2.1 (List.mem_of_getElem? (i := 7) rfl) (by decide)
    have e8 : (nt_I M' (pl 14) 4).toInt = 0 + (1 * r' 19 + (0)) := lw_rd (g := 14) (j := 4) h3.2.2.1 (List.mem_of_getElem? (i := 8) rfl) (by decide)
    have e9 : (nt_I M' (pl 14) 216).toInt = 0 + (1 * r' 20 + (0)) := lw_rd (g := 14) (j := 216) h3.2.2.1 (List.mem_of_getElem? (i := 9) rfl) (by decide)
    have e10 : (nt_I M' (pl 14) 428).toInt = 0 + (1 * r' 21 + (0)) := lw_rd (g := 14) (j := 428) h3.2.2.1 (List.mem_of_getElem? (i := 10) rfl) (by decide)
    have e11 : (nt_I M' (pl 14) 640).toInt = 0 + (1 * r' 22 + (0)) := lw_rd (g := 14) (j := 640) h3.2.2.1 (List.mem_of_getElem? (i := 11) rfl) (by decide)
    have g11 := hr' 11 (by omega)
    rw [h11] at g11
    have g12 := hr' 12 (by omega)
    rw [h12] at g12
    have g13 := hr' 13 (by omega)
    rw [h13] at g13
    have g14 := hr' 14 (by omega)
    rw [h14] at g14
    have g15 := hr' 15 (by omega)
    rw [h15] at g15
    have g16 := hr' 16 (by omega)
    rw [h16] at g16
    have g17 := hr' 17 (by omega)
    rw [h17] at g17
    have g18 := hr' 18 (by omega)
    rw [h18] at g18
    have g19 := hr' 19 (by omega)
    rw [h19] at g19
    have g20 := hr' 20 (by omega)
    rw [h20] at g20
    have g21 := hr' 21 (by omega)
    rw [h21] at g21
    have g22 := hr' 22 (by omega)
    rw [h22] at g22
    exact ⟨y, M', rfl, ⟨by omega, e0.trans (lw_s g11), e1.trans (lw_s g12), e2.trans (lw_s g13), e3.trans (lw_s g14), e4.trans (lw_s g15), e5.trans (lw_s g16), e6.trans (lw_s g17), e7.trans (lw_s g18), e8.trans (lw_s g19), e9.trans (lw_s g20), e10.trans (lw_s g21), e11.trans (lw_s g22)⟩⟩
theorem lwd_daysN {X : nt_X} {pl : Nat → Nat} {v : Nat → Int} {M : nt_M} {d : Nat} {o : Option Value × nt_M} {n : Int32} (hd : 7 ≤ d) (hB : ly_B pl v M) (hb11 : (0 : Int) ≤ (nt_I M (pl 31) 1).toInt ∧ (nt_I M (pl 31) 1).toInt ≤ 1) (hb12 : (0 : Int) ≤ (nt_I M (pl 31) 2).toInt ∧ (nt_I M (pl 31) 2).toInt ≤ 200) (hb13 : (0 : Int) ≤ (nt_I M (pl 4) 0).toInt ∧ (nt_I M (pl 4) 0).toInt ≤ 4) (hb14 : (0 : Int) ≤ (nt_I M (pl 4) 4).toInt ∧ (nt_I M (pl 4) 4).toInt ≤ 200) (k : nt_ev X d 186 [.ref (pl 0), .int (Int32.ofInt (-1)), .int n] M o) : ∃ (y : Int32) (M' : nt_M), o = (some (.int y), M') ∧ ((y.toInt = -1 ∧ (nt_I M' (pl 31) 1).toInt = (nt_I M (pl 31) 1).toInt ∧ (nt_I M' (pl 31) 2).toInt = (nt_I M (pl 31) 2).toInt ∧ (nt_I M' (pl 4) 0).toInt = (nt_I M (pl 4) 0).toInt ∧ (nt_I M' (pl 4) 4).toInt = (nt_I M (pl 4) 4).toInt ∧ (nt_I M' (pl 14) 0).toInt = (nt_I M (pl 14) 0).toInt ∧ (nt_I M' (pl 14) 212).toInt = (nt_I M (pl 14) 212).toInt ∧ (nt_I M' (pl 14) 424).toInt = (nt_I M (pl 14) 424).toInt ∧ (nt_I M' (pl 14) 636).toInt = (nt_I M (pl 14) 636).toInt ∧ (nt_I M' (pl 14) 4).toInt = (nt_I M (pl 14) 4).toInt ∧ (nt_I M' (pl 14) 216).toInt = (nt_I M (pl 14) 216).toInt ∧ (nt_I M' (pl 14) 428).toInt = (nt_I M (pl 14) 428).toInt ∧ (nt_I M' (pl 14) 640).toInt = (nt_I M (pl 14) 640).toInt ∧ (0 : Int) ≤ (-1) * (nt_I M (pl 4) 0).toInt) ∨ (y.toInt = -1 ∧ (nt_I M' (pl 31) 1).toInt = (nt_I M (pl 31) 1).toInt ∧ (nt_I M' (pl 31) 2).toInt = (nt_I M (pl 31) 2).toInt ∧ (nt_I M' (pl 4) 0).toInt = (nt_I M (pl 4) 0).toInt ∧ (nt_I M' (pl 4) 4).toInt = (nt_I M (pl 4) 4).toInt ∧ (nt_I M' (pl 14) 0).toInt = (nt_I M (pl 14) 0).toInt ∧ (nt_I M' (pl 14) 212).toInt = (nt_I M (pl 14) 212).toInt ∧ (nt_I M' (pl 14) 424).toInt = (nt_I M (pl 14) 424).toInt ∧ (nt_I M' (pl 14) 636).toInt = (nt_I M (pl 14) 636).toInt ∧ (nt_I M' (pl 14) 4).toInt = (nt_I M (pl 14) 4).toInt ∧ (nt_I M' (pl 14) 216).toInt = (nt_I M (pl 14) 216).toInt ∧ (nt_I M' (pl 14) 428).toInt = (nt_I M (pl 14) 428).toInt ∧ (nt_I M' (pl 14) 640).toInt = (nt_I M (pl 14) 640).toInt ∧ (0 : Int) ≤ (-1) * n.toInt) ∨ (y.toInt = -1 ∧ (nt_I M' (pl 31) 1).toInt = (nt_I M (pl 31) 1).toInt ∧ (nt_I M' (pl 31) 2).toInt = (nt_I M (pl 31) 2).toInt ∧ (nt_I M' (pl 4) 0).toInt = (nt_I M (pl 4) 0).toInt ∧ (nt_I M' (pl 4) 4).toInt = (nt_I M (pl 4) 4).toInt ∧ (nt_I M' (pl 14) 0).toInt = (nt_I M (pl 14) 0).toInt ∧ (nt_I M' (pl 14) 212).toInt = (nt_I M (pl 14) 212).toInt ∧ (nt_I M' (pl 14) 424).toInt = (nt_I M (pl 14) 424).toInt ∧ (nt_I M' (pl 14) 636).toInt = (nt_I M (pl 14) 636).toInt ∧ (nt_I M' (pl 14) 4).toInt = (nt_I M (pl 14) 4).toInt ∧ (nt_I M' (pl 14) 216).toInt = (nt_I M (pl 14) 216).toInt ∧ (nt_I M' (pl 14) 428).toInt = (nt_I M (pl 14) 428).toInt ∧ (nt_I M' (pl 14) 640).toInt = (nt_I M (pl 14) 640).toInt ∧ (0 : Int) ≤ -101 + n.toInt) ∨ (y.toInt = -1 ∧ (nt_I M' (pl 31) 1).toInt = (nt_I M (pl 31) 1).toInt ∧ (nt_I M' (pl 31) 2).toInt = (nt_I M (pl 31) 2).toInt ∧ (nt_I M' (pl 4) 0).toInt = (nt_I M (pl 4) 0).toInt ∧ (nt_I M' (pl 4) 4).toInt = (nt_I M (pl 4) 4).toInt ∧ (nt_I M' (pl 14) 0).toInt = (nt_I M (pl 14) 0).toInt ∧ (nt_I M' (pl 14) 212).toInt = (nt_I M (pl 14) 212).toInt ∧ (nt_I M' (pl 14) 424).toInt = (nt_I M (pl 14) 424).toInt ∧ (nt_I M' (pl 14) 636).toInt = (nt_I M (pl 14) 636).toInt ∧ (nt_I M' (pl 14) 4).toInt = (nt_I M (pl 14) 4).toInt ∧ (nt_I M' (pl 14) 216).toInt = (nt_I M (pl 14) 216).toInt ∧ (nt_I M' (pl 14) 428).toInt = (nt_I M (pl 14) 428).toInt ∧ (nt_I M' (pl 14) 640).toInt = (nt_I M (pl 14) 640).toInt ∧ (0 : Int) ≤ -201 + (nt_I M (pl 4) 4).toInt + n.toInt) ∨ ((nt_I M' (pl 31) 1).toInt = (nt_I M (pl 31) 1).toInt ∧ (nt_I M' (pl 31) 2).toInt = (nt_I M (pl 31) 2).toInt ∧ (nt_I M' (pl 4) 0).toInt = (nt_I M (pl 4) 0).toInt ∧ (nt_I M' (pl 4) 4).toInt = y.toInt ∧ (nt_I M' (pl 14) 0).toInt = (nt_I M (pl 14) 0).toInt ∧ (nt_I M' (pl 14) 212).toInt = (nt_I M (pl 14) 212).toInt ∧ (nt_I M' (pl 14) 424).toInt = (nt_I M (pl 14) 424).toInt ∧ (nt_I M' (pl 14) 636).toInt = (nt_I M (pl 14) 636).toInt ∧ (nt_I M' (pl 14) 4).toInt = (nt_I M (pl 14) 4).toInt ∧ (nt_I M' (pl 14) 216).toInt = (nt_I M (pl 14) 216).toInt ∧ (nt_I M' (pl 14) 428).toInt = (nt_I M (pl 14) 428).toInt ∧ (nt_I M' (pl 14) 640).toInt = (nt_I M (pl 14) 640).toInt ∧ (0 : Int) ≤ -1 + (nt_I M (pl 4) 0).toInt ∧ (0 : Int) ≤ (-1) * (nt_I M (pl 4) 4).toInt + (-1) * n.toInt + y.toInt ∧ (0 : Int) ≤ (nt_I M (pl 4) 4).toInt + n.toInt + (-1) * y.toInt ∧ (0 : Int) ≤ -1 + n.toInt ∧ (0 : Int) ≤ 100 + (-1) * n.toInt ∧ (0 : Int) ≤ 200 + (-1) * (nt_I M (pl 4) 4).toInt + (-1) * n.toInt)) := by
  obtain ⟨r, hr, h11, h12, h13, h14, h15, h16, h17, h18, h19, h20, h21, h22, h23⟩ : ∃ r : Nat → Int, (∀ s, s < 11 → r s = v s) ∧ r 11 = (nt_I M (pl 31) 1).toInt ∧ r 12 = (nt_I M (pl 31) 2).toInt ∧ r 13 = (nt_I M (pl 4) 0).toInt ∧ r 14 = (nt_I M (pl 4) 4).toInt ∧ r 15 = (nt_I M (pl 14) 0).toInt ∧ r 16 = (nt_I M (pl 14) 212).toInt ∧ r 17 = (nt_I M (pl 14) 424).toInt ∧ r 18 = (nt_I M (pl 14) 636).toInt ∧ r 19 = (nt_I M (pl 14) 4).toInt ∧ r 20 = (nt_I M (pl 14) 216).toInt ∧ r 21 = (nt_I M (pl 14) 428).toInt ∧ r 22 = (nt_I M (pl 14) 640).toInt ∧ r 23 = n.toInt := ⟨fun s => if s = 11 then (nt_I M (pl 31) 1).toInt else if s = 12 then (nt_I M (pl 31) 2).toInt else if s = 13 then (nt_I M (pl 4) 0).toInt else if s = 14 then (nt_I M (pl 4) 4).toInt else if s = 15 then (nt_I M (pl 14) 0).toInt else if s = 16 then (nt_I M (pl 14) 212).toInt else if s = 17 then (nt_I M (pl 14) 424).toInt else if s = 18 then (nt_I M (pl 14) 636).toInt else if s = 19 then (nt_I M (pl 14) 4).toInt else if s = 20 then (nt_I M (pl 14) 216).toInt else if s = 21 then (nt_I M (pl 14) 428).toInt else if s = 22 then (nt_I M (pl 14) 640).toInt else if s = 23 then n.toInt else v s, fun s hs => by dsimp only; rw [if_neg (by omega), if_neg (by omega), if_neg (by omega), if_neg (by omega), if_neg (by omega), if_neg (by omega), if_neg (by omega), if_neg (by omega), if_neg (by omega), if_neg (by omega), if_neg (by omega), if_neg (by omega), if_neg (by omega)], rfl, rfl, rfl, rfl, rfl, rfl, rfl, rfl, rfl, rfl, rfl, rfl, rfl⟩
  have hij := ly_ij (K := kk_wd_daysN) rfl hB
  have hon := ly_app (K := kk_wd_daysN) (ed := []) (ec := [((31, (1, [])), (0, [(11, 1)])), ((31, (2, [])), (0, [(12, 1)])), ((4, (0, [])), (0, [(13, 1)])), ((4, (4, [])), (0, [(14, 1)])), ((14, (0, [])), (0, [(15, 1)])), ((14, (212, [])), (0, [(16, 1)])), ((14, (424, [])), (0, [(17, 1)])), ((14, (636, [])), (0, [(18, 1)])), ((14, (4, [])), (0, [(19, 1)])), ((14, (216, [])), (0, [(20, 1)])), ((14, (428, [])), (0, [(21, 1)])), ((14, (640, [])), (0, [(22, 1)]))]) (er := []) rfl hB (fun _ _ => rfl) hr hij ly_nil (lw_oiC (g := 31) (j := 1) (by show 31 < 66; decide) (by decide) (by dsimp only; rw [sx_s_e]; exact h11.symm) (lw_oiC (g := 31) (j := 2) (by show 31 < 66; decide) (by decide) (by dsimp only; rw [sx_s_e]; exact h12.symm) (lw_oiC (g := 4) (j := 0) (by show 4 < 66; decide) (by decide) (by dsimp only; rw [sx_s_e]; exact h13.symm) (lw_oiC (g := 4) (j := 4) (by show 4 < 66; decide) (by decide) (by dsimp only; rw [sx_s_e]; exact h14.symm) (lw_oiC (g := 14) (j := 0) (by show 14 < 66; decide) (by decide) (by dsimp only; rw [sx_s_e]; exact h15.symm) (lw_oiC (g := 14) (j := 212) (by show 14 < 66; decide) (by decide) (by dsimp only; rw [sx_s_e]; exact h16.symm) (lw_oiC (g := 14) (j := 424) (by show 14 < 66; decide) (by decide) (by dsimp only; rw [sx_s_e]; exact h17.symm) (lw_oiC (g := 14) (j := 636) (by show 14 < 66; decide) (by decide) (by dsimp only; rw [sx_s_e]; exact h18.symm) (lw_oiC (g := 14) (j := 4) (by show 14 < 66; decide) (by decide) (by dsimp only; rw [sx_s_e]; exact h19.symm) (lw_oiC (g := 14) (j := 216) (by show 14 < 66; decide) (by decide) (by dsimp only; rw [sx_s_e]; exact h20.symm) (lw_oiC (g := 14) (j := 428) (by show 14 < 66; decide) (by decide) (by dsimp only; rw [sx_s_e]; exact h21.symm) (lw_oiC (g := 14) (j := 640) (by show 14 < 66; decide) (by decide) (by dsimp only; rw [sx_s_e]; exact h22.symm) (lw_oiN))))))))))))) (fun q hq => by cases hq) (ly_oba (ly_obr hr (ly_ob hB)) (ly_oba (ly_ob1 (by rw [h11]; exact hb11)) (ly_oba (ly_ob1 (by rw [h12]; exact hb12)) (ly_oba (ly_ob1 (by rw [h13]; exact hb13)) (ly_oba (ly_ob1 (by rw [h14]; exact hb14)) (ly_oba (ly_obI (x := nt_I M (pl 14) 0) h15) (ly_oba (ly_obI (x := nt_I M (pl 14) 212) h16) (ly_oba (ly_obI (x := nt_I M (pl 14) 424) h17) (ly_oba (ly_obI (x := nt_I M (pl 14) 636) h18) (ly_oba (ly_obI (x := nt_I M (pl 14) 4) h19) (ly_oba (ly_obI (x := nt_I M (pl 14) 216) h20) (ly_oba (ly_obI (x := nt_I M (pl 14) 428) h21) (ly_oba (ly_obI (x := nt_I M (pl 14) 640) h22) (ly_obI h23)))))))))))))) ly_oc0
  obtain ⟨p, hp, r', h2, h3⟩ := lw_app (ko_wd_daysN X) rfl hd hon (vs := [.ref (pl 0), .int (Int32.ofInt (-1)), .int n]) ⟨rfl, ⟨_, rfl, by rw [sx_c_e]; decide⟩, ⟨n, rfl, (ly_e1 h23).symm⟩, trivial⟩ k
  have hr' : ∀ s, s < 24 → r' s = r s := fun s hs => h3.2.2.2.2.2.1 s hs
  obtain ⟨ov, M'⟩ := o
  rcases List.mem_cons.mp hp with rfl | hp
  · cases ov with
    | none => exact h2.elim
    | some w =>
      obtain ⟨y, rfl, hy⟩ := h2
      have hy : y.toInt = (-1) + 0 := hy
      have e0 : (nt_I M' (pl 31) 1).toInt = 0 + (1 * r' 11 + (0)) := lw_rd (g := 31) (j := 1) h3.2.2.1 (List.mem_of_getElem? (i := 0) rfl) (by decide)
      have e1 : (nt_I M' (pl 31) 2).toInt = 0 + (1 * r' 12 + (0)) := lw_rd (g := 31) (j := 2) h3.2.2.1 (List.mem_of_getElem? (i := 1) rfl) (by decide)
      have e2 : (nt_I M' (pl 4) 0).toInt = 0 + (1 * r' 13 + (0)) := lw_rd (g := 4) (j := 0) h3.2.2.1 (List.mem_of_getElem? (i := 2) rfl) (by decide)
      have e3 : (nt_I M' (pl 4) 4).toInt = 0 + (1 * r' 14 + (0)) := lw_rd (g := 4) (j := 4) h3.2.2.1 (List.mem_of_getElem? (i := 3) rfl) (by decide)
      have e4 : (nt_I M' (pl 14) 0).toInt = 0 + (1 * r' 15 + (0)) := lw_rd (g := 14) (j := 0) h3.2.2.1 (List.mem_of_getElem? (i := 4) rfl) (by decide)
      have e5 : (nt_I M' (pl 14) 212).toInt = 0 + (1 * r' 16 + (0)) := lw_rd (g := 14) (j := 212) h3.2.2.1 (List.mem_of_getElem? (i := 5) rfl) (by decide)
      have e6 : (nt_I M' (pl 14) 424).toInt = 0 + (1 * r' 17 + (0)) := lw_rd (g := 14) (j := 424) h3.2.2.1 (List.mem_of_getElem? (i := 6) rfl) (by decide)
      have e7 : (nt_I M' (pl 14) 636).toInt = 0 + (1 * r' 18 + (0)) := lw_rd (g := 14) (j := 636) h3.2.2.1 (List.mem_of_getElem? (i := 7) rfl) (by decide)
      have e8 : (nt_I M' (pl 14) 4).toInt = 0 + (1 * r' 19 + (0)) := lw_rd (g := 14) (j := 4) h3.2.2.1 (List.mem_of_getElem? (i := 8) rfl) (by decide)
      have e9 : (nt_I M' (pl 14) 216).toInt = 0 + (1 * r' 20 + (0)) := lw_rd (g := 14) (j := 216) h3.2.2.1 (List.mem_of_getElem? (i := 9) rfl) (by decide)
      have e10 : (nt_I M' (pl 14) 428).toInt = 0 + (1 * r' 21 + (0)) := lw_rd (g := 14) (j := 428) h3.2.2.1 (List.mem_of_getElem? (i := 10) rfl) (by decide)
      have e11 : (nt_I M' (pl 14) 640).toInt = 0 + (1 * r' 22 + (0)) := lw_rd (g := 14) (j := 640) h3.2.2.1 (List.mem_of_getElem? (i := 11) rfl) (by decide)
      have f0 : (0 : Int) ≤ 0 + ((-1) * r' 13 + (0)) := h3.2.2.2.2.1.2 _ (List.mem_of_getElem? (i := 0) rfl)
      have g11 := hr' 11 (by omega)
      rw [h11] at g11
      have g12 := hr' 12 (by omega)
      rw [h12] at g12
      have g13 := hr' 13 (by omega)
      rw [h13] at g13
      have g14 := hr' 14 (by omega)
      rw [h14] at g14
      have g15 := hr' 15 (by omega)
      rw [h15] at g15
      have g16 := hr' 16 (by omega)
      rw [h16] at g16
      have g17 := hr' 17 (by omega)
      rw [h17] at g17
      have g18 := hr' 18 (by omega)
      rw [h18] at g18
      have g19 := hr' 19 (by omega)
      rw [h19] at g19
      have g20 := hr' 20 (by omega)
      rw [h20] at g20
      have g21 := hr' 21 (by omega)
      rw [h21] at g21
      have g22 := hr' 22 (by omega)
      rw [h22] at g22
      exact ⟨y, M', rfl, Or.inl ⟨by omega, e0.trans (lw_s g11), e1.trans (lw_s g12), e2.trans (lw_s g13), e3.trans (lw_s g14), e4.trans (lw_s g15), e5.trans (lw_s g16), e6.trans (lw_s g17), e7.trans (lw_s g18), e8.trans (lw_s g19), e9.trans (lw_s g20), e10.trans (lw_s g21), e11.trans (lw_s g22), by omega⟩⟩
  rcases List.mem_cons.mp hp with rfl | hp
  · cases ov with
    | none => exact h2.elim
    | some w =>
      obtain ⟨y, rfl, hy⟩ := h2
      have hy : y.toInt = (-1) + 0 := hy
      have e0 : (nt_I M' (pl 31) 1).toInt = 0 + (1 * r' 11 + (0)) := lw_rd (g := 31) (j := 1) h3.2.2.1 (List.mem_of_getElem? (i := 0) rfl) (by decide)
      have e1 : (nt_I M' (pl 31) 2).toInt = 0 + (1 * r' 12 + (0)) := lw_rd (g := 31) (j := 2) h3.2.2.1 (List.mem_of_getElem? (i := 1) rfl) (by decide)
      have e2 : (nt_I M' (pl 4) 0).toInt = 0 + (1 * r' 13 + (0)) := lw_rd (g := 4) (j := 0) h3.2.2.1 (List.mem_of_getElem? (i := 2) rfl) (by decide)
      have e3 : (nt_I M' (pl 4) 4).toInt = 0 + (1 * r' 14 + (0)) := lw_rd (g := 4) (j := 4) h3.2.2.1 (List.mem_of_getElem? (i := 3) rfl) (by decide)
      have e4 : (nt_I M' (pl 14) 0).toInt = 0 + (1 * r' 15 + (0)) := lw_rd (g := 14) (j := 0) h3.2.2.1 (List.mem_of_getElem? (i := 4) rfl) (by decide)
      have e5 : (nt_I M' (pl 14) 212).toInt = 0 + (1 * r' 16 + (0)) := lw_rd (g := 14) (j := 212) h3.2.2.1 (List.mem_of_getElem? (i := 5) rfl) (by decide)
      have e6 : (nt_I M' (pl 14) 424).toInt = 0 + (1 * r' 17 + (0)) := lw_rd (g := 14) (j := 424) h3.2.2.1 (List.mem_of_getElem? (i := 6) rfl) (by decide)
      have e7 : (nt_I M' (pl 14) 636).toInt = 0 + (1 * r' 18 + (0)) := lw_rd (g := 14) (j := 636) h3.2.2.1 (List.mem_of_getElem? (i := 7) rfl) (by decide)
      have e8 : (nt_I M' (pl 14) 4).toInt = 0 + (1 * r' 19 + (0)) := lw_rd (g := 14) (j := 4) h3.2.2.1 (List.mem_of_getElem? (i := 8) rfl) (by decide)
      have e9 : (nt_I M' (pl 14) 216).toInt = 0 + (1 * r' 20 + (0)) := lw_rd (g := 14) (j := 216) h3.2.2.1 (List.mem_of_getElem? (i := 9) rfl) (by decide)
      have e10 : (nt_I M' (pl 14) 428).toInt = 0 + (1 * r' 21 + (0)) := lw_rd (g := 14) (j := 428) h3.2.2.1 (List.mem_of_getElem? (i := 10) rfl) (by decide)
      have e11 : (nt_I M' (pl 14) 640).toInt = 0 + (1 * r' 22 + (0)) := lw_rd (g := 14) (j := 640) h3.2.2.1 (List.mem_of_getElem? (i := 11) rfl) (by decide)
      have f0 : (0 : Int) ≤ 0 + ((-1) * r' 23 + (0)) := h3.2.2.2.2.1.2 _ (List.mem_of_getElem? (i := 0) rfl)
      have g11 := hr' 11 (by omega)
      rw [h11] at g11
      have g12 := hr' 12 (by omega)
      rw [h12] at g12
      have g13 := hr' 13 (by omega)
      rw [h13] at g13
      have g14 := hr' 14 (by omega)
      rw [h14] at g14
      have g15 := hr' 15 (by omega)
      rw [h15] at g15
      have g16 := hr' 16 (by omega)
      rw [h16] at g16
      have g17 := hr' 17 (by omega)
      rw [h17] at g17
      have g18 := hr' 18 (by omega)
      rw [h18] at g18
      have g19 := hr' 19 (by omega)
      rw [h19] at g19
      have g20 := hr' 20 (by omega)
      rw [h20] at g20
      have g21 := hr' 21 (by omega)
      rw [h21] at g21
      have g22 := hr' 22 (by omega)
      rw [h22] at g22
      have g23 := hr' 23 (by omega)
      rw [h23] at g23
      exact ⟨y, M', rfl, Or.inr (Or.inl ⟨by omega, e0.trans (lw_s g11), e1.trans (lw_s g12), e2.trans (lw_s g13), e3.trans (lw_s g14), e4.trans (lw_s g15), e5.trans (lw_s g16), e6.trans (lw_s g17), e7.trans (lw_s g18), e8.trans (lw_s g19), e9.trans (lw_s g20), e10.trans (lw_s g21), e11.trans (lw_s g22), by omega⟩)⟩
  rcases List.mem_cons.mp hp with rfl | hp
  · cases ov with
    | none => exact h2.elim
    | some w =>
      obtain ⟨y, rfl, hy⟩ := h2
      have hy : y.toInt = (-1) + 0 := hy
      have e0 : (nt_I M' (pl 31) 1).toInt = 0 + (1 * r' 11 + (0)) := lw_rd (g := 31) (j := 1) h3.2.2.1 (List.mem_of_getElem? (i := 0) rfl) (by decide)
      have e1 : (nt_I M' (pl 31) 2).toInt = 0 + (1 * r' 12 + (0)) := lw_rd (g := 31) (j := 2) h3.2.2.1 (List.mem_of_getElem? (i := 1) rfl) (by decide)
      have e2 : (nt_I M' (pl 4) 0).toInt = 0 + (1 * r' 13 + (0)) := lw_rd (g := 4) (j := 0) h3.2.2.1 (List.mem_of_getElem? (i := 2) rfl) (by decide)
      have e3 : (nt_I M' (pl 4) 4).toInt = 0 + (1 * r' 14 + (0)) := lw_rd (g := 4) (j := 4) h3.2.2.1 (List.mem_of_getElem? (i := 3) rfl) (by decide)
      have e4 : (nt_I M' (pl 14) 0).toInt = 0 + (1 * r' 15 + (0)) := lw_rd (g := 14) (j := 0) h3.2.2.1 (List.mem_of_getElem? (i := 4) rfl) (by decide)
      have e5 : (nt_I M' (pl 14) 212).toInt = 0 + (1 * r' 16 + (0)) := lw_rd (g := 14) (j := 212) h3.2.2.1 (List.mem_of_getElem? (i := 5) rfl) (by decide)
      have e6 : (nt_I M' (pl 14) 424).toInt = 0 + (1 * r' 17 + (0)) := lw_rd (g := 14) (j := 424) h3.2.2.1 (List.mem_of_getElem? (i := 6) rfl) (by decide)
      have e7 : (nt_I M' (pl 14) 636).toInt = 0 + (1 * r' 18 + (0)) := lw_rd (g := 14) (j := 636) h3.2.2.1 (List.mem_of_getElem? (i := 7) rfl) (by decide)
      have e8 : (nt_I M' (pl 14) 4).toInt = 0 + (1 * r' 19 + (0)) := lw_rd (g := 14) (j := 4) h3.2.2.1 (List.mem_of_getElem? (i := 8) rfl) (by decide)
      have e9 : (nt_I M' (pl 14) 216).toInt = 0 + (1 * r' 20 + (0)) := lw_rd (g := 14) (j := 216) h3.2.2.1 (List.mem_of_getElem? (i := 9) rfl) (by decide)
      have e10 : (nt_I M' (pl 14) 428).toInt = 0 + (1 * r' 21 + (0)) := lw_rd (g := 14) (j := 428) h3.2.2.1 (List.mem_of_getElem? (i := 10) rfl) (by decide)
      have e11 : (nt_I M' (pl 14) 640).toInt = 0 + (1 * r' 22 + (0)) := lw_rd (g := 14) (j := 640) h3.2.2.1 (List.mem_of_getElem? (i := 11) rfl) (by decide)
      have f0 : (0 : Int) ≤ (-101) + (1 * r' 23 + (0)) := h3.2.2.2.2.1.2 _ (List.mem_of_getElem? (i := 0) rfl)
      have g11 := hr' 11 (by omega)
      rw [h11] at g11
      have g12 := hr' 12 (by omega)
      rw [h12] at g12
      have g13 := hr' 13 (by omega)
      rw [h13] at g13
      have g14 := hr' 14 (by omega)
      rw [h14] at g14
      have g15 := hr' 15 (by omega)
      rw [h15] at g15
      have g16 := hr' 16 (by omega)
      rw [h16] at g16
      have g17 := hr' 17 (by omega)
      rw [h17] at g17
      have g18 := hr' 18 (by omega)
      rw [h18] at g18
      have g19 := hr' 19 (by omega)
      rw [h19] at g19
      have g20 := hr' 20 (by omega)
      rw [h20] at g20
      have g21 := hr' 21 (by omega)
      rw [h21] at g21
      have g22 := hr' 22 (by omega)
      rw [h22] at g22
      have g23 := hr' 23 (by omega)
      rw [h23] at g23
      exact ⟨y, M', rfl, Or.inr (Or.inr (Or.inl ⟨by omega, e0.trans (lw_s g11), e1.trans (lw_s g12), e2.trans (lw_s g13), e3.trans (lw_s g14), e4.trans (lw_s g15), e5.trans (lw_s g16), e6.trans (lw_s g17), e7.trans (lw_s g18), e8.trans (lw_s g19), e9.trans (lw_s g20), e10.trans (lw_s g21), e11.trans (lw_s g22), by omega⟩))⟩
  rcases List.mem_cons.mp hp with rfl | hp
  · cases ov with
    | none => exact h2.elim
    | some w =>
      obtain ⟨y, rfl, hy⟩ := h2
      have hy : y.toInt = (-1) + 0 := hy
      have e0 : (nt_I M' (pl 31) 1).toInt = 0 + (1 * r' 11 + (0)) := lw_rd (g := 31) (j := 1) h3.2.2.1 (List.mem_of_getElem? (i := 0) rfl) (by decide)
      have e1 : (nt_I M' (pl 31) 2).toInt = 0 + (1 * r' 12 + (0)) := lw_rd (g := 31) (j := 2) h3.2.2.1 (List.mem_of_getElem? (i := 1) rfl) (by decide)
      have e2 : (nt_I M' (pl 4) 0).toInt = 0 + (1 * r' 13 + (0)) := lw_rd (g := 4) (j := 0) h3.2.2.1 (List.mem_of_getElem? (i := 2) rfl) (by decide)
      have e3 : (nt_I M' (pl 4) 4).toInt = 0 + (1 * r' 14 + (0)) := lw_rd (g := 4) (j := 4) h3.2.2.1 (List.mem_of_getElem? (i := 3) rfl) (by decide)
      have e4 : (nt_I M' (pl 14) 0).toInt = 0 + (1 * r' 15 + (0)) := lw_rd (g := 14) (j := 0) h3.2.2.1 (List.mem_of_getElem? (i := 4) rfl) (by decide)
      have e5 : (nt_I M' (pl 14) 212).toInt = 0 + (1 * r' 16 + (0)) := lw_rd (g := 14) (j := 212) h3.2.2.1 (List.mem_of_getElem? (i := 5) rfl) (by decide)
      have e6 : (nt_I M' (pl 14) 424).toInt = 0 + (1 * r' 17 + (0)) := lw_rd (g := 14) (j := 424) h3.2.2.1 (List.mem_of_getElem? (i := 6) rfl) (by decide)
      have e7 : (nt_I M' (pl 14) 636).toInt = 0 + (1 * r' 18 + (0)) := lw_rd (g := 14) (j := 636) h3.2.2.1 (List.mem_of_getElem? (i := 7) rfl) (by decide)
      have e8 : (nt_I M' (pl 14) 4).toInt = 0 + (1 * r' 19 + (0)) := lw_rd (g := 14) (j := 4) h3.2.2.1 (List.mem_of_getElem? (i := 8) rfl) (by decide)
      have e9 : (nt_I M' (pl 14) 216).toInt = 0 + (1 * r' 20 + (0)) := lw_rd (g := 14) (j := 216) h3.2.2.1 (List.mem_of_getElem? (i := 9) rfl) (by decide)
      have e10 : (nt_I M' (pl 14) 428).toInt = 0 + (1 * r' 21 + (0)) := lw_rd (g := 14) (j := 428) h3.2.2.1 (List.mem_of_getElem? (i := 10) rfl) (by decide)
      have e11 : (nt_I M' (pl 14) 640).toInt = 0 + (1 * r' 22 + (0)) := lw_rd (g := 14) (j := 640) h3.2.2.1 (List.mem_of_getElem? (i := 11) rfl) (by decide)
      have f0 : (0 : Int) ≤ (-201) + (1 * r' 14 + (1 * r' 23 + (0))) := h3.2.2.2.2.1.2 _ (List.mem_of_getElem? (i := 0) rfl)
      have g11 := hr' 11 (by omega)
      rw [h11] at g11
      have g12 := hr' 12 (by omega)
      rw [h12] at g12
      have g13 := hr' 13 (by omega)
      rw [h13] at g13
      have g14 := hr' 14 (by omega)
      rw [h14] at g14
      have g15 := hr' 15 (by omega)
      rw [h15] at g15
      have g16 := hr' 16 (by omega)
      rw [h16] at g16
      have g17 := hr' 17 (by omega)
      rw [h17] at g17
      have g18 := hr' 18 (by omega)
      rw [h18] at g18
      have g19 := hr' 19 (by omega)
      rw [h19] at g19
      have g20 := hr' 20 (by omega)
      rw [h20] at g20
      have g21 := hr' 21 (by omega)
      rw [h21] at g21
      have g22 := hr' 22 (by omega)
      rw [h22] at g22
      have g23 := hr' 23 (by omega)
      rw [h23] at g23
      exact ⟨y, M', rfl, Or.inr (Or.inr (Or.inr (Or.inl ⟨by omega, e0.trans (lw_s g11), e1.trans (lw_s g12), e2.trans (lw_s g13), e3.trans (lw_s g14), e4.trans (lw_s g15), e5.trans (lw_s g16), e6.trans (lw_s g17), e7.trans (lw_s g18), e8.trans (lw_s g19), e9.trans (lw_s g20), e10.trans (lw_s g21), e11.trans (lw_s g22), by omega⟩)))⟩
  rw [List.mem_singleton.mp hp] at h2 h3
  cases ov with
  | none => exact h2.elim
  | some w =>
    obtain ⟨y, rfl, hy⟩ := h2
    have hy : y.toInt = 0 + (1 * r' 24 + (0)) := hy
    have e0 : (nt_I M' (pl 31) 1).toInt = 0 + (1 * r' 11 + (0)) := lw_rd (g := 31) (j := 1) h3.2.2.1 (List.mem_of_getElem? (i := 0) rfl) (by decide)
    have e1 : (nt_I M' (pl 31) 2).toInt = 0 + (1 * r' 12 + (0)) := lw_rd (g := 31) (j := 2) h3.2.2.1 (List.mem_of_getElem? (i := 1) rfl) (by decide)
    have e2 : (nt_I M' (pl 4) 0).toInt = 0 + (1 * r' 13 + (0)) := lw_rd (g := 4) (j := 0) h3.2.2.1 (List.mem_of_getElem? (i := 2) rfl) (by decide)
    have e3 : (nt_I M' (pl 4) 4).toInt = 0 + (1 * r' 24 + (0)) := lw_rd (g := 4) (j := 4) h3.2.2.1 (List.mem_of_getElem? (i := 3) rfl) (by decide)
    have e4 : (nt_I M' (pl 14) 0).toInt = 0 + (1 * r' 15 + (0)) := lw_rd (g := 14) (j := 0) h3.2.2.1 (List.mem_of_getElem? (i := 4) rfl) (by decide)
    have e5 : (nt_I M' (pl 14) 212).toInt = 0 + (1 * r' 16 + (0)) := lw_rd (g := 14) (j := 212) h3.2.2.1 (List.mem_of_getElem? (i := 5) rfl) (by decide)
    have e6 : (nt_I M' (pl 14) 424).toInt = 0 + (1 * r' 17 + (0)) := lw_rd (g := 14) (j := 424) h3.2.2.1 (List.mem_of_getElem? (i := 6) rfl) (by decide)
    have e7 : (nt_I M' (pl 14) 636).toInt = 0 + (1 * r' 18 + (0)) := lw_rd (g := 14) (j := 636) h3.2.2.1 (List.mem_of_getElem? (i := 7) rfl) (by decide)
    have e8 : (nt_I M' (pl 14) 4).toInt = 0 + (1 * r' 19 + (0)) := lw_rd (g := 14) (j := 4) h3.2.2.1 (List.mem_of_getElem? (i := 8) rfl) (by decide)
    have e9 : (nt_I M' (pl 14) 216).toInt = 0 + (1 * r' 20 + (0)) := lw_rd (g := 14) (j := 216) h3.2.2.1 (List.mem_of_getElem? (i := 9) rfl) (by decide)
    have e10 : (nt_I M' (pl 14) 428).toInt = 0 + (1 * r' 21 + (0)) := lw_rd (g := 14) (j := 428) h3.2.2.1 (List.mem_of_getElem? (i := 10) rfl) (by decide)
    have e11 : (nt_I M' (pl 14) 640).toInt = 0 + (1 * r' 22 + (0)) := lw_rd (g := 14) (j := 640) h3.2.2.1 (List.mem_of_getElem? (i := 11) rfl) (by decide)
    have f0 : (0 : Int) ≤ (-1) + (1 * r' 13 + (0)) := h3.2.2.2.2.1.2 _ (List.mem_of_getElem? (i := 0) rfl)
    have f1 : (0 : Int) ≤ 0 + ((-1) * r' 14 + ((-1) * r' 23 + (1 * r' 24 + (0)))) := h3.2.2.2.2.1.2 _ (List.mem_of_getElem? (i := 1) rfl)
    have f2 : (0 : Int) ≤ 0 + (1 * r' 14 + (1 * r' 23 + ((-1) * r' 24 + (0)))) := h3.2.2.2.2.1.2 _ (List.mem_of_getElem? (i := 2) rfl)
    have f3 : (0 : Int) ≤ (-1) + (1 * r' 23 + (0)) := h3.2.2.2.2.1.2 _ (List.mem_of_getElem? (i := 3) rfl)
    have f4 : (0 : Int) ≤ 100 + ((-1) * r' 23 + (0)) := h3.2.2.2.2.1.2 _ (List.mem_of_getElem? (i := 4) rfl)
    have f5 : (0 : Int) ≤ 200 + ((-1) * r' 14 + ((-1) * r' 23 + (0))) := h3.2.2.2.2.1.2 _ (List.mem_of_getElem? (i := 5) rfl)
    have g11 := hr' 11 (by omega)
    rw [h11] at g11
    have g12 := hr' 12 (by omega)
    rw [h12] at g12
    have g13 := hr' 13 (by omega)
    rw [h13] at g13
    have g14 := hr' 14 (by omega)
    rw [h14] at g14
    have g15 := hr' 15 (by omega)
    rw [h15] at g15
    have g16 := hr' 16 (by omega)
    rw [h16] at g16
    have g17 := hr' 17 (by omega)
    rw [h17] at g17
    have g18 := hr' 18 (by omega)
    rw [h18] at g18
    have g19 := hr' 19 (by omega)
    rw [h19] at g19
    have g20 := hr' 20 (by omega)
    rw [h20] at g20
    have g21 := hr' 21 (by omega)
    rw [h21] at g21
    have g22 := hr' 22 (by omega)
    rw [h22] at g22
    have g23 := hr' 23 (by omega)
    rw [h23] at g23
    exact ⟨y, M', rfl, Or.inr (Or.inr (Or.inr (Or.inr (⟨e0.trans (lw_s g11), e1.trans (lw_s g12), e2.trans (lw_s g13), by omega, e4.trans (lw_s g15), e5.trans (lw_s g16), e6.trans (lw_s g17), e7.trans (lw_s g18), e8.trans (lw_s g19), e9.trans (lw_s g20), e10.trans (lw_s g21), e11.trans (lw_s g22), by omega, by omega, by omega, by omega, by omega, by omega⟩))))⟩
theorem lwd_daysR {X : nt_X} {pl : Nat → Nat} {v : Nat → Int} {M : nt_M} {d : Nat} {o : Option Value × nt_M} {n ru : Int32} (hd : 9 ≤ d) (hB : ly_B pl v M) (hb11 : (0 : Int) ≤ (nt_I M (pl 31) 1).toInt ∧ (nt_I M (pl 31) 1).toInt ≤ 1) (hb12 : (0 : Int) ≤ (nt_I M (pl 31) 2).toInt ∧ (nt_I M (pl 31) 2).toInt ≤ 200) (hb13 : (0 : Int) ≤ (nt_I M (pl 4) 0).toInt ∧ (nt_I M (pl 4) 0).toInt ≤ 4) (hb14 : (0 : Int) ≤ (nt_I M (pl 4) 4).toInt ∧ (nt_I M (pl 4) 4).toInt ≤ 200) (hb23 : (0 : Int) ≤ (nt_I M (pl 0) 2).toInt ∧ (nt_I M (pl 0) 2).toInt ≤ 6) (hb24 : (0 : Int) ≤ ru.toInt ∧ ru.toInt ≤ 5) (hc0 : (0 : Int) ≤ -1 + (nt_I M (pl 0) 2).toInt + (-1) * ru.toInt) (k : nt_ev X d 186 [.ref (pl 0), .int ru, .int n] M o) : ∃ (y : Int32) (M' : nt_M), o = (some (.int y), M') ∧ ((y.toInt = -1 ∧ (nt_I M' (pl 31) 1).toInt = (nt_I M (pl 31) 1).toInt ∧ (nt_I M' (pl 31) 2).toInt = (nt_I M (pl 31) 2).toInt ∧ (nt_I M' (pl 4) 0).toInt = (nt_I M (pl 4) 0).toInt ∧ (nt_I M' (pl 4) 4).toInt = (nt_I M (pl 4) 4).toInt ∧ (nt_I M' (pl 14) 0).toInt = (nt_I M (pl 14) 0).toInt ∧ (nt_I M' (pl 14) 212).toInt = (nt_I M (pl 14) 212).toInt ∧ (nt_I M' (pl 14) 424).toInt = (nt_I M (pl 14) 424).toInt ∧ (nt_I M' (pl 14) 636).toInt = (nt_I M (pl 14) 636).toInt ∧ (nt_I M' (pl 14) 4).toInt = (nt_I M (pl 14) 4).toInt ∧ (nt_I M' (pl 14) 216).toInt = (nt_I M (pl 14) 216).toInt ∧ (nt_I M' (pl 14) 428).toInt = (nt_I M (pl 14) 428).toInt ∧ (nt_I M' (pl 14) 640).toInt = (nt_I M (pl 14) 640).toInt ∧ (0 : Int) ≤ (-1) * (nt_I M (pl 0) 2).toInt + ru.toInt) ∨ (y.toInt = -1 ∧ (nt_I M' (pl 31) 1).toInt = (nt_I M (pl 31) 1).toInt ∧ (nt_I M' (pl 31) 2).toInt = (nt_I M (pl 31) 2).toInt ∧ (nt_I M' (pl 4) 0).toInt = (nt_I M (pl 4) 0).toInt ∧ (nt_I M' (pl 4) 4).toInt = (nt_I M (pl 4) 4).toInt ∧ (nt_I M' (pl 14) 0).toInt = (nt_I M (pl 14) 0).toInt ∧ (nt_I M' (pl 14) 212).toInt = (nt_I M (pl 14) 212).toInt ∧ (nt_I M' (pl 14) 424).toInt = (nt_I M (pl 14) 424).toInt ∧ (nt_I M' (pl 14) 636).toInt = (nt_I M (pl 14) 636).toInt ∧ (nt_I M' (pl 14) 4).toInt = (nt_I M (pl 14) 4).toInt ∧ (nt_I M' (pl 14) 216).toInt = (nt_I M (pl 14) 216).toInt ∧ (nt_I M' (pl 14) 428).toInt = (nt_I M (pl 14) 428).toInt ∧ (nt_I M' (pl 14) 640).toInt = (nt_I M (pl 14) 640).toInt ∧ (0 : Int) ≤ (-1) * (nt_I M (pl 4) 0).toInt) ∨ (y.toInt = -1 ∧ (nt_I M' (pl 31) 1).toInt = (nt_I M (pl 31) 1).toInt ∧ (nt_I M' (pl 31) 2).toInt = (nt_I M (pl 31) 2).toInt ∧ (nt_I M' (pl 4) 0).toInt = (nt_I M (pl 4) 0).toInt ∧ (nt_I M' (pl 4) 4).toInt = (nt_I M (pl 4) 4).toInt ∧ (nt_I M' (pl 14) 0).toInt = (nt_I M (pl 14) 0).toInt ∧ (nt_I M' (pl 14) 212).toInt = (nt_I M (pl 14) 212).toInt ∧ (nt_I M' (pl 14) 424).toInt = (nt_I M (pl 14) 424).toInt ∧ (nt_I M' (pl 14) 636).toInt = (nt_I M (pl 14) 636).toInt ∧ (nt_I M' (pl 14) 4).toInt = (nt_I M (pl 14) 4).toInt ∧ (nt_I M' (pl 14) 216).toInt = (nt_I M (pl 14) 216).toInt ∧ (nt_I M' (pl 14) 428).toInt = (nt_I M (pl 14) 428).toInt ∧ (nt_I M' (pl 14) 640).toInt = (nt_I M (pl 14) 640).toInt ∧ (0 : Int) ≤ (-1) * n.toInt) ∨ (y.toInt = -1 ∧ (nt_I M' (pl 31) 1).toInt = (nt_I M (pl 31) 1).toInt ∧ (nt_I M' (pl 31) 2).toInt = (nt_I M (pl 31) 2).toInt ∧ (nt_I M' (pl 4) 0).toInt = (nt_I M (pl 4) 0).toInt ∧ (nt_I M' (pl 4) 4).toInt = (nt_I M (pl 4) 4).toInt ∧ (nt_I M' (pl 14) 0).toInt = (nt_I M (pl 14) 0).toInt ∧ (nt_I M' (pl 14) 212).toInt = (nt_I M (pl 14) 212).toInt ∧ (nt_I M' (pl 14) 424).toInt = (nt_I M (pl 14) 424).toInt ∧ (nt_I M' (pl 14) 636).toInt = (nt_I M (pl 14) 636).toInt ∧ (nt_I M' (pl 14) 4).toInt = (nt_I M (pl 14) 4).toInt ∧ (nt_I M' (pl 14) 216).toInt = (nt_I M (pl 14) 216).toInt ∧ (nt_I M' (pl 14) 428).toInt = (nt_I M (pl 14) 428).toInt ∧ (nt_I M' (pl 14) 640).toInt = (nt_I M (pl 14) 640).toInt ∧ (0 : Int) ≤ -101 + n.toInt) ∨ (y.toInt = -1 ∧ (nt_I M' (pl 31) 1).toInt = (nt_I M (pl 31) 1).toInt ∧ (nt_I M' (pl 31) 2).toInt = (nt_I M (pl 31) 2).toInt ∧ (nt_I M' (pl 4) 0).toInt = (nt_I M (pl 4) 0).toInt ∧ (nt_I M' (pl 4) 4).toInt = (nt_I M (pl 4) 4).toInt ∧ (nt_I M' (pl 14) 0).toInt = (nt_I M (pl 14) 0).toInt ∧ (nt_I M' (pl 14) 212).toInt = (nt_I M (pl 14) 212).toInt ∧ (nt_I M' (pl 14) 424).toInt = (nt_I M (pl 14) 424).toInt ∧ (nt_I M' (pl 14) 636).toInt = (nt_I M (pl 14) 636).toInt ∧ (nt_I M' (pl 14) 4).toInt = (nt_I M (pl 14) 4).toInt ∧ (nt_I M' (pl 14) 216).toInt = (nt_I M (pl 14) 216).toInt ∧ (nt_I M' (pl 14) 428).toInt = (nt_I M (pl 14) 428).toInt ∧ (nt_I M' (pl 14) 640).toInt = (nt_I M (pl 14) 640).toInt ∧ (0 : Int) ≤ -201 + (nt_I M (pl 4) 4).toInt + n.toInt) ∨ ((nt_I M' (pl 31) 1).toInt = (nt_I M (pl 31) 1).toInt ∧ (nt_I M' (pl 31) 2).toInt = (nt_I M (pl 31) 2).toInt ∧ (nt_I M' (pl 4) 0).toInt = (nt_I M (pl 4) 0).toInt ∧ (nt_I M' (pl 4) 4).toInt = y.toInt ∧ (nt_I M' (pl 14) 0).toInt = (nt_I M (pl 14) 0).toInt ∧ (nt_I M' (pl 14) 212).toInt = (nt_I M (pl 14) 212).toInt ∧ (nt_I M' (pl 14) 424).toInt = (nt_I M (pl 14) 424).toInt ∧ (nt_I M' (pl 14) 636).toInt = (nt_I M (pl 14) 636).toInt ∧ (nt_I M' (pl 14) 4).toInt = (nt_I M (pl 14) 4).toInt ∧ (nt_I M' (pl 14) 216).toInt = (nt_I M (pl 14) 216).toInt ∧ (nt_I M' (pl 14) 428).toInt = (nt_I M (pl 14) 428).toInt ∧ (nt_I M' (pl 14) 640).toInt = (nt_I M (pl 14) 640).toInt ∧ (0 : Int) ≤ -1 + (nt_I M (pl 4) 0).toInt ∧ (0 : Int) ≤ (-1) * (nt_I M (pl 4) 4).toInt + (-1) * n.toInt + y.toInt ∧ (0 : Int) ≤ (nt_I M (pl 4) 4).toInt + n.toInt + (-1) * y.toInt ∧ (0 : Int) ≤ -1 + n.toInt ∧ (0 : Int) ≤ 100 + (-1) * n.toInt ∧ (0 : Int) ≤ 200 + (-1) * (nt_I M (pl 4) 4).toInt + (-1) * n.toInt)) := by
  obtain ⟨r, hr, h11, h12, h13, h14, h15, h16, h17, h18, h19, h20, h21, h22, h23, h24, h25⟩ : ∃ r : Nat → Int, (∀ s, s < 11 → r s = v s) ∧ r 11 = (nt_I M (pl 31) 1).toInt ∧ r 12 = (nt_I M (pl 31) 2).toInt ∧ r 13 = (nt_I M (pl 4) 0).toInt ∧ r 14 = (nt_I M (pl 4) 4).toInt ∧ r 15 = (nt_I M (pl 14) 0).toInt ∧ r 16 = (nt_I M (pl 14) 212).toInt ∧ r 17 = (nt_I M (pl 14) 424).toInt ∧ r 18 = (nt_I M (pl 14) 636).toInt ∧ r 19 = (nt_I M (pl 14) 4).toInt ∧ r 20 = (nt_I M (pl 14) 216).toInt ∧ r 21 = (nt_I M (pl 14) 428).toInt ∧ r 22 = (nt_I M (pl 14) 640).toInt ∧ r 23 = (nt_I M (pl 0) 2).toInt ∧ r 24 = ru.toInt ∧ r 25 = n.toInt := ⟨fun s => if s = 11 then (nt_I M (pl 31) 1).toInt else if s = 12 then (nt_I M (pl 31) 2).toInt else if s = 13 then (nt_I M (pl 4) 0).toInt else if s = 14 then (nt_I M (pl 4) 4).toInt else if s = 15 then (nt_I M (pl 14) 0).toInt else if s = 16 then (nt_I M (pl 14) 212).toInt else if s = 17 then (nt_I M (pl 14) 424).toInt else if s = 18 then (nt_I M (pl 14) 636).toInt else if s = 19 then (nt_I M (pl 14) 4).toInt else if s = 20 then (nt_I M (pl 14) 216).toInt else if s = 21 then (nt_I M (pl 14) 428).toInt else if s = 22 then (nt_I M (pl 14) 640).toInt else if s = 23 then (nt_I M (pl 0) 2).toInt else if s = 24 then ru.toInt else if s = 25 then n.toInt else v s, fun s hs => by dsimp only; rw [if_neg (by omega), if_neg (by omega), if_neg (by omega), if_neg (by omega), if_neg (by omega), if_neg (by omega), if_neg (by omega), if_neg (by omega), if_neg (by omega), if_neg (by omega), if_neg (by omega), if_neg (by omega), if_neg (by omega), if_neg (by omega), if_neg (by omega)], rfl, rfl, rfl, rfl, rfl, rfl, rfl, rfl, rfl, rfl, rfl, rfl, rfl, rfl, rfl⟩
  have hij := ly_ij (K := kk_wd_daysR) rfl hB
  have hon := ly_app (K := kk_wd_daysR) (ed := []) (ec := [((31, (1, [])), (0, [(11, 1)])), ((31, (2, [])), (0, [(12, 1)])), ((4, (0, [])), (0, [(13, 1)])), ((4, (4, [])), (0, [(14, 1)])), ((14, (0, [])), (0, [(15, 1)])), ((14, (212, [])), (0, [(16, 1)])), ((14, (424, [])), (0, [(17, 1)])), ((14, (636, [])), (0, [(18, 1)])), ((14, (4, [])), (0, [(19, 1)])), ((14, (216, [])), (0, [(20, 1)])), ((14, (428, [])), (0, [(21, 1)])), ((14, (640, [])), (0, [(22, 1)])), ((0, (2, [])), (0, [(23, 1)]))]) (er := []) rfl hB (fun _ _ => rfl) hr hij ly_nil (lw_oiC (g := 31) (j := 1) (by show 31 < 66; decide) (by decide) (by dsimp only; rw [sx_s_e]; exact h11.symm) (lw_oiC (g := 31) (j := 2) (by show 31 < 66; decide) (by decide) (by dsimp only; rw [sx_s_e]; exact h12.symm) (lw_oiC (g := 4) (j := 0) (by show 4 < 66; decide) (by decide) (by dsimp only; rw [sx_s_e]; exact h13.symm) (lw_oiC (g := 4) (j := 4) (by show 4 < 66; decide) (by decide) (by dsimp only; rw [sx_s_e]; exact h14.symm) (lw_oiC (g := 14) (j := 0) (by show 14 < 66; decide) (by decide) (by dsimp only; rw [sx_s_e]; exact h15.symm) (lw_oiC (g := 14) (j := 212) (by show 14 < 66; decide) (by decide) (by dsimp only; rw [sx_s_e]; exact h16.symm) (lw_oiC (g := 14) (j := 424) (by show 14 < 66; decide) (by decide) (by dsimp only; rw [sx_s_e]; exact h17.symm) (lw_oiC (g := 14) (j := 636) (by show 14 < 66; decide) (by decide) (by dsimp only; rw [sx_s_e]; exact h18.symm) (lw_oiC (g := 14) (j := 4) (by show 14 < 66; decide) (by decide) (by dsimp only; rw [sx_s_e]; exact h19.symm) (lw_oiC (g := 14) (j := 216) (by show 14 < 66; decide) (by decide) (by dsimp only; rw [sx_s_e]; exact h20.symm) (lw_oiC (g := 14) (j := 428) (by show 14 < 66; decide) (by decide) (by dsimp only; rw [sx_s_e]; exact h21.symm) (lw_oiC (g := 14) (j := 640) (by show 14 < 66; decide) (by decide) (by dsimp only; rw [sx_s_e]; exact h22.symm) (lw_oiC (g := 0) (j := 2) (by show 0 < 66; decide) (by decide) (by dsimp only; rw [sx_s_e]; exact h23.symm) (lw_oiN)))))))))))))) (fun q hq => by cases hq) (ly_oba (ly_obr hr (ly_ob hB)) (ly_oba (ly_ob1 (by rw [h11]; exact hb11)) (ly_oba (ly_ob1 (by rw [h12]; exact hb12)) (ly_oba (ly_ob1 (by rw [h13]; exact hb13)) (ly_oba (ly_ob1 (by rw [h14]; exact hb14)) (ly_oba (ly_obI (x := nt_I M (pl 14) 0) h15) (ly_oba (ly_obI (x := nt_I M (pl 14) 212) h16) (ly_oba (ly_obI (x := nt_I M (pl 14) 424) h17) (ly_oba (ly_obI (x := nt_I M (pl 14) 636) h18) (ly_oba (ly_obI (x := nt_I M (pl 14) 4) h19) (ly_oba (ly_obI (x := nt_I M (pl 14) 216) h20) (ly_oba (ly_obI (x := nt_I M (pl 14) 428) h21) (ly_oba (ly_obI (x := nt_I M (pl 14) 640) h22) (ly_oba (ly_ob1 (by rw [h23]; exact hb23)) (ly_oba (ly_ob1 (by rw [h24]; exact hb24)) (ly_obI h25)))))))))))))))) (fun q hq => by rw [List.mem_singleton.mp hq]; show (0 : Int) ≤ (-1) + (1 * r 23 + ((-1) * r 24 + (0))); rw [h23, h24]; have := hc0; omega)
  obtain ⟨p, hp, r', h2, h3⟩ := lw_app (ko_wd_daysR X) rfl hd hon (vs := [.ref (pl 0), .int ru, .int n]) ⟨rfl, ⟨ru, rfl, (ly_e1 h24).symm⟩, ⟨n, rfl, (ly_e1 h25).symm⟩, trivial⟩ k
  have hr' : ∀ s, s < 26 → r' s = r s := fun s hs => h3.2.2.2.2.2.1 s hs
  obtain ⟨ov, M'⟩ := o
  rcases List.mem_cons.mp hp with rfl | hp
  · cases ov with
    | none => exact h2.elim
    | some w =>
      obtain ⟨y, rfl, hy⟩ := h2
      have hy : y.toInt = (-1) + 0 := hy
      have e0 : (nt_I M' (pl 31) 1).toInt = 0 + (1 * r' 11 + (0)) := lw_rd (g := 31) (j := 1) h3.2.2.1 (List.mem_of_getElem? (i := 0) rfl) (by decide)
      have e1 : (nt_I M' (pl 31) 2).toInt = 0 + (1 * r' 12 + (0)) := lw_rd (g := 31) (j := 2) h3.2.2.1 (List.mem_of_getElem? (i := 1) rfl) (by decide)
      have e2 : (nt_I M' (pl 4) 0).toInt = 0 + (1 * r' 13 + (0)) := lw_rd (g := 4) (j := 0) h3.2.2.1 (List.mem_of_getElem? (i := 2) rfl) (by decide)
      have e3 : (nt_I M' (pl 4) 4).toInt = 0 + (1 * r' 14 + (0)) := lw_rd (g := 4) (j := 4) h3.2.2.1 (List.mem_of_getElem? (i := 3) rfl) (by decide)
      have e4 : (nt_I M' (pl 14) 0).toInt = 0 + (1 * r' 15 + (0)) := lw_rd (g := 14) (j := 0) h3.2.2.1 (List.mem_of_getElem? (i := 4) rfl) (by decide)
      have e5 : (nt_I M' (pl 14) 212).toInt = 0 + (1 * r' 16 + (0)) := lw_rd (g := 14) (j := 212) h3.2.2.1 (List.mem_of_getElem? (i := 5) rfl) (by decide)
      have e6 : (nt_I M' (pl 14) 424).toInt = 0 + (1 * r' 17 + (0)) := lw_rd (g := 14) (j := 424) h3.2.2.1 (List.mem_of_getElem? (i := 6) rfl) (by decide)
      have e7 : (nt_I M' (pl 14) 636).toInt = 0 + (1 * r' 18 + (0)) := lw_rd (g := 14) (j := 636) h3.2.2.1 (List.mem_of_getElem? (i := 7) rfl) (by decide)
      have e8 : (nt_I M' (pl 14) 4).toInt = 0 + (1 * r' 19 + (0)) := lw_rd (g := 14) (j := 4) h3.2.2.1 (List.mem_of_getElem? (i := 8) rfl) (by decide)
      have e9 : (nt_I M' (pl 14) 216).toInt = 0 + (1 * r' 20 + (0)) := lw_rd (g := 14) (j := 216) h3.2.2.1 (List.mem_of_getElem? (i := 9) rfl) (by decide)
      have e10 : (nt_I M' (pl 14) 428).toInt = 0 + (1 * r' 21 + (0)) := lw_rd (g := 14) (j := 428) h3.2.2.1 (List.mem_of_getElem? (i := 10) rfl) (by decide)
      have e11 : (nt_I M' (pl 14) 640).toInt = 0 + (1 * r' 22 + (0)) := lw_rd (g := 14) (j := 640) h3.2.2.1 (List.mem_of_getElem? (i := 11) rfl) (by decide)
      have f0 : (0 : Int) ≤ 0 + ((-1) * r' 23 + (1 * r' 24 + (0))) := h3.2.2.2.2.1.2 _ (List.mem_of_getElem? (i := 0) rfl)
      have g11 := hr' 11 (by omega)
      rw [h11] at g11
      have g12 := hr' 12 (by omega)
      rw [h12] at g12
      have g13 := hr' 13 (by omega)
      rw [h13] at g13
      have g14 := hr' 14 (by omega)
      rw [h14] at g14
      have g15 := hr' 15 (by omega)
      rw [h15] at g15
      have g16 := hr' 16 (by omega)
      rw [h16] at g16
      have g17 := hr' 17 (by omega)
      rw [h17] at g17
      have g18 := hr' 18 (by omega)
      rw [h18] at g18
      have g19 := hr' 19 (by omega)
      rw [h19] at g19
      have g20 := hr' 20 (by omega)
      rw [h20] at g20
      have g21 := hr' 21 (by omega)
      rw [h21] at g21
      have g22 := hr' 22 (by omega)
      rw [h22] at g22
      have g23 := hr' 23 (by omega)
      rw [h23] at g23
      have g24 := hr' 24 (by omega)
      rw [h24] at g24
      exact ⟨y, M', rfl, Or.inl ⟨by omega, e0.trans (lw_s g11), e1.trans (lw_s g12), e2.trans (lw_s g13), e3.trans (lw_s g14), e4.trans (lw_s g15), e5.trans (lw_s g16), e6.trans (lw_s g17), e7.trans (lw_s g18), e8.trans (lw_s g19), e9.trans (lw_s g20), e10.trans (lw_s g21), e11.trans (lw_s g22), by omega⟩⟩
  rcases List.mem_cons.mp hp with rfl | hp
  · cases ov with
    | none => exact h2.elim
    | some w =>
      obtain ⟨y, rfl, hy⟩ := h2
      have hy : y.toInt = (-1) + 0 := hy
      have e0 : (nt_I M' (pl 31) 1).toInt = 0 + (1 * r' 11 + (0)) := lw_rd (g := 31) (j := 1) h3.2.2.1 (List.mem_of_getElem? (i := 0) rfl) (by decide)
      have e1 : (nt_I M' (pl 31) 2).toInt = 0 + (1 * r' 12 + (0)) := lw_rd (g := 31) (j := 2) h3.2.2.1 (List.mem_of_getElem? (i := 1) rfl) (by decide)
      have e2 : (nt_I M' (pl 4) 0).toInt = 0 + (1 * r' 13 + (0)) := lw_rd (g := 4) (j := 0) h3.2.2.1 (List.mem_of_getElem? (i := 2) rfl) (by decide)
      have e3 : (nt_I M' (pl 4) 4).toInt = 0 + (1 * r' 14 + (0)) := lw_rd (g := 4) (j := 4) h3.2.2.1 (List.mem_of_getElem? (i := 3) rfl) (by decide)
      have e4 : (nt_I M' (pl 14) 0).toInt = 0 + (1 * r' 15 + (0)) := lw_rd (g := 14) (j := 0) h3.2.2.1 (List.mem_of_getElem? (i := 4) rfl) (by decide)
      have e5 : (nt_I M' (pl 14) 212).toInt = 0 + (1 * r' 16 + (0)) := lw_rd (g := 14) (j := 212) h3.2.2.1 (List.mem_of_getElem? (i := 5) rfl) (by decide)
      have e6 : (nt_I M' (pl 14) 424).toInt = 0 + (1 * r' 17 + (0)) := lw_rd (g := 14) (j := 424) h3.2.2.1 (List.mem_of_getElem? (i := 6) rfl) (by decide)
      have e7 : (nt_I M' (pl 14) 636).toInt = 0 + (1 * r' 18 + (0)) := lw_rd (g := 14) (j := 636) h3.2.2.1 (List.mem_of_getElem? (i := 7) rfl) (by decide)
      have e8 : (nt_I M' (pl 14) 4).toInt = 0 + (1 * r' 19 + (0)) := lw_rd (g := 14) (j := 4) h3.2.2.1 (List.mem_of_getElem? (i := 8) rfl) (by decide)
      have e9 : (nt_I M' (pl 14) 216).toInt = 0 + (1 * r' 20 + (0)) := lw_rd (g := 14) (j := 216) h3.2.2.1 (List.mem_of_getElem? (i := 9) rfl) (by decide)
      have e10 : (nt_I M' (pl 14) 428).toInt = 0 + (1 * r' 21 + (0)) := lw_rd (g := 14) (j := 428) h3.2.2.1 (List.mem_of_getElem? (i := 10) rfl) (by decide)
      have e11 : (nt_I M' (pl 14) 640).toInt = 0 + (1 * r' 22 + (0)) := lw_rd (g := 14) (j := 640) h3.2.2.1 (List.mem_of_getElem? (i := 11) rfl) (by decide)
      have f0 : (0 : Int) ≤ 0 + ((-1) * r' 13 + (0)) := h3.2.2.2.2.1.2 _ (List.mem_of_getElem? (i := 0) rfl)
      have g11 := hr' 11 (by omega)
      rw [h11] at g11
      have g12 := hr' 12 (by omega)
      rw [h12] at g12
      have g13 := hr' 13 (by omega)
      rw [h13] at g13
      have g14 := hr' 14 (by omega)
      rw [h14] at g14
      have g15 := hr' 15 (by omega)
      rw [h15] at g15
      have g16 := hr' 16 (by omega)
      rw [h16] at g16
      have g17 := hr' 17 (by omega)
      rw [h17] at g17
      have g18 := hr' 18 (by omega)
      rw [h18] at g18
      have g19 := hr' 19 (by omega)
      rw [h19] at g19
      have g20 := hr' 20 (by omega)
      rw [h20] at g20
      have g21 := hr' 21 (by omega)
      rw [h21] at g21
      have g22 := hr' 22 (by omega)
      rw [h22] at g22
      exact ⟨y, M', rfl, Or.inr (Or.inl ⟨by omega, e0.trans (lw_s g11), e1.trans (lw_s g12), e2.trans (lw_s g13), e3.trans (lw_s g14), e4.trans (lw_s g15), e5.trans (lw_s g16), e6.trans (lw_s g17), e7.trans (lw_s g18), e8.trans (lw_s g19), e9.trans (lw_s g20), e10.trans (lw_s g21), e11.trans (lw_s g22), by omega⟩)⟩
  rcases List.mem_cons.mp hp with rfl | hp
  · cases ov with
    | none => exact h2.elim
    | some w =>
      obtain ⟨y, rfl, hy⟩ := h2
      have hy : y.toInt = (-1) + 0 := hy
      have e0 : (nt_I M' (pl 31) 1).toInt = 0 + (1 * r' 11 + (0)) := lw_rd (g := 31) (j := 1) h3.2.2.1 (List.mem_of_getElem? (i := 0) rfl) (by decide)
      have e1 : (nt_I M' (pl 31) 2).toInt = 0 + (1 * r' 12 + (0)) := lw_rd (g := 31) (j := 2) h3.2.2.1 (List.mem_of_getElem? (i := 1) rfl) (by decide)
      have e2 : (nt_I M' (pl 4) 0).toInt = 0 + (1 * r' 13 + (0)) := lw_rd (g := 4) (j := 0) h3.2.2.1 (List.mem_of_getElem? (i := 2) rfl) (by decide)
      have e3 : (nt_I M' (pl 4) 4).toInt = 0 + (1 * r' 14 + (0)) := lw_rd (g := 4) (j := 4) h3.2.2.1 (List.mem_of_getElem? (i := 3) rfl) (by decide)
      have e4 : (nt_I M' (pl 14) 0).toInt = 0 + (1 * r' 15 + (0)) := lw_rd (g := 14) (j := 0) h3.2.2.1 (List.mem_of_getElem? (i := 4) rfl) (by decide)
      have e5 : (nt_I M' (pl 14) 212).toInt = 0 + (1 * r' 16 + (0)) := lw_rd (g := 14) (j := 212) h3.2.2.1 (List.mem_of_getElem? (i := 5) rfl) (by decide)
      have e6 : (nt_I M' (pl 14) 424).toInt = 0 + (1 * r' 17 + (0)) := lw_rd (g := 14) (j := 424) h3.2.2.1 (List.mem_of_getElem? (i := 6) rfl) (by decide)
      have e7 : (nt_I M' (pl 14) 636).toInt = 0 + (1 * r' 18 + (0)) := lw_rd (g := 14) (j := 636) h3.2.2.1 (List.mem_of_getElem? (i := 7) rfl) (by decide)
      have e8 : (nt_I M' (pl 14) 4).toInt = 0 + (1 * r' 19 + (0)) := lw_rd (g := 14) (j := 4) h3.2.2.1 (List.mem_of_getElem? (i := 8) rfl) (by decide)
      have e9 : (nt_I M' (pl 14) 216).toInt = 0 + (1 * r' 20 + (0)) := lw_rd (g := 14) (j := 216) h3.2.2.1 (List.mem_of_getElem? (i := 9) rfl) (by decide)
      have e10 : (nt_I M' (pl 14) 428).toInt = 0 + (1 * r' 21 + (0)) := lw_rd (g := 14) (j := 428) h3.2.2.1 (List.mem_of_getElem? (i := 10) rfl) (by decide)
      have e11 : (nt_I M' (pl 14) 640).toInt = 0 + (1 * r' 22 + (0)) := lw_rd (g := 14) (j := 640) h3.2.2.1 (List.mem_of_getElem? (i := 11) rfl) (by decide)
      have f0 : (0 : Int) ≤ 0 + ((-1) * r' 25 + (0)) := h3.2.2.2.2.1.2 _ (List.mem_of_getElem? (i := 0) rfl)
      have g11 := hr' 11 (by omega)
      rw [h11] at g11
      have g12 := hr' 12 (by omega)
      rw [h12] at g12
      have g13 := hr' 13 (by omega)
      rw [h13] at g13
      have g14 := hr' 14 (by omega)
      rw [h14] at g14
      have g15 := hr' 15 (by omega)
      rw [h15] at g15
      have g16 := hr' 16 (by omega)
      rw [h16] at g16
      have g17 := hr' 17 (by omega)
      rw [h17] at g17
      have g18 := hr' 18 (by omega)
      rw [h18] at g18
      have g19 := hr' 19 (by omega)
      rw [h19] at g19
      have g20 := hr' 20 (by omega)
      rw [h20] at g20
      have g21 := hr' 21 (by omega)
      rw [h21] at g21
      have g22 := hr' 22 (by omega)
      rw [h22] at g22
      have g25 := hr' 25 (by omega)
      rw [h25] at g25
      exact ⟨y, M', rfl, Or.inr (Or.inr (Or.inl ⟨by omega, e0.trans (lw_s g11), e1.trans (lw_s g12), e2.trans (lw_s g13), e3.trans (lw_s g14), e4.trans (lw_s g15), e5.trans (lw_s g16), e6.trans (lw_s g17), e7.trans (lw_s g18), e8.trans (lw_s g19), e9.trans (lw_s g20), e10.trans (lw_s g21), e11.trans (lw_s g22), by omega⟩))⟩
  rcases List.mem_cons.mp hp with rfl | hp
  · cases ov with
    | none => exact h2.elim
    | some w =>
      obtain ⟨y, rfl, hy⟩ := h2
      have hy : y.toInt = (-1) + 0 := hy
      have e0 : (nt_I M' (pl 31) 1).toInt = 0 + (1 * r' 11 + (0)) := lw_rd (g := 31) (j := 1) h3.2.2.1 (List.mem_of_getElem? (i := 0) rfl) (by decide)
      have e1 : (nt_I M' (pl 31) 2).toInt = 0 + (1 * r' 12 + (0)) := lw_rd (g := 31) (j := 2) h3.2.2.1 (List.mem_of_getElem? (i := 1) rfl) (by decide)
      have e2 : (nt_I M' (pl 4) 0).toInt = 0 + (1 * r' 13 + (0)) := lw_rd (g := 4) (j := 0) h3.2.2.1 (List.mem_of_getElem? (i := 2) rfl) (by decide)
      have e3 : (nt_I M' (pl 4) 4).toInt = 0 + (1 * r' 14 + (0)) := lw_rd (g := 4) (j := 4) h3.2.2.1 (List.mem_of_getElem? (i := 3) rfl) (by decide)
      have e4 : (nt_I M' (pl 14) 0).toInt = 0 + (1 * r' 15 + (0)) := lw_rd (g := 14) (j := 0) h3.2.2.1 (List.mem_of_getElem? (i := 4) rfl) (by decide)
      have e5 : (nt_I M' (pl 14) 212).toInt = 0 + (1 * r' 16 + (0)) := lw_rd (g := 14) (j := 212) h3.2.2.1 (List.mem_of_getElem? (i := 5) rfl) (by decide)
      have e6 : (nt_I M' (pl 14) 424).toInt = 0 + (1 * r' 17 + (0)) := lw_rd (g := 14) (j := 424) h3.2.2.1 (List.mem_of_getElem? (i := 6) rfl) (by decide)
      have e7 : (nt_I M' (pl 14) 636).toInt = 0 + (1 * r' 18 + (0)) := lw_rd (g := 14) (j := 636) h3.2.2.1 (List.mem_of_getElem? (i := 7) rfl) (by decide)
      have e8 : (nt_I M' (pl 14) 4).toInt = 0 + (1 * r' 19 + (0)) := lw_rd (g := 14) (j := 4) h3.2.2.1 (List.mem_of_getElem? (i := 8) rfl) (by decide)
      have e9 : (nt_I M' (pl 14) 216).toInt = 0 + (1 * r' 20 + (0)) := lw_rd (g := 14) (j := 216) h3.2.2.1 (List.mem_of_getElem? (i := 9) rfl) (by decide)
      have e10 : (nt_I M' (pl 14) 428).toInt = 0 + (1 * r' 21 + (0)) := lw_rd (g := 14) (j := 428) h3.2.2.1 (List.mem_of_getElem? (i := 10) rfl) (by decide)
      have e11 : (nt_I M' (pl 14) 640).toInt = 0 + (1 * r' 22 + (0)) := lw_rd (g := 14) (j := 640) h3.2.2.1 (List.mem_of_getElem? (i := 11) rfl) (by decide)
      have f0 : (0 : Int) ≤ (-101) + (1 * r' 25 + (0)) := h3.2.2.2.2.1.2 _ (List.mem_of_getElem? (i := 0) rfl)
      have g11 := hr' 11 (by omega)
      rw [h11] at g11
      have g12 := hr' 12 (by omega)
      rw [h12] at g12
      have g13 := hr' 13 (by omega)
      rw [h13] at g13
      have g14 := hr' 14 (by omega)
      rw [h14] at g14
      have g15 := hr' 15 (by omega)
      rw [h15] at g15
      have g16 := hr' 16 (by omega)
      rw [h16] at g16
      have g17 := hr' 17 (by omega)
      rw [h17] at g17
      have g18 := hr' 18 (by omega)
      rw [h18] at g18
      have g19 := hr' 19 (by omega)
      rw [h19] at g19
      have g20 := hr' 20 (by omega)
      rw [h20] at g20
      have g21 := hr' 21 (by omega)
      rw [h21] at g21
      have g22 := hr' 22 (by omega)
      rw [h22] at g22
      have g25 := hr' 25 (by omega)
      rw [h25] at g25
      exact ⟨y, M', rfl, Or.inr (Or.inr (Or.inr (Or.inl ⟨by omega, e0.trans (lw_s g11), e1.trans (lw_s g12), e2.trans (lw_s g13), e3.trans (lw_s g14), e4.trans (lw_s g15), e5.trans (lw_s g16), e6.trans (lw_s g17), e7.trans (lw_s g18), e8.trans (lw_s g19), e9.trans (lw_s g20), e10.trans (lw_s g21), e11.trans (lw_s g22), by omega⟩)))⟩
  rcases List.mem_cons.mp hp with rfl | hp
  · cases ov with
    | none => exact h2.elim
    | some w =>
      obtain ⟨y, rfl, hy⟩ := h2
      have hy : y.toInt = (-1) + 0 := hy
      have e0 : (nt_I M' (pl 31) 1).toInt = 0 + (1 * r' 11 + (0)) := lw_rd (g := 31) (j := 1) h3.2.2.1 (List.mem_of_getElem? (i := 0) rfl) (by decide)
      have e1 : (nt_I M' (pl 31) 2).toInt = 0 + (1 * r' 12 + (0)) := lw_rd (g := 31) (j := 2) h3.2.2.1 (List.mem_of_getElem? (i := 1) rfl) (by decide)
      have e2 : (nt_I M' (pl 4) 0).toInt = 0 + (1 * r' 13 + (0)) := lw_rd (g := 4) (j := 0) h3.2.2.1 (List.mem_of_getElem? (i := 2) rfl) (by decide)
      have e3 : (nt_I M' (pl 4) 4).toInt = 0 + (1 * r' 14 + (0)) := lw_rd (g := 4) (j := 4) h3.2.2.1 (List.mem_of_getElem? (i := 3) rfl) (by decide)
      have e4 : (nt_I M' (pl 14) 0).toInt = 0 + (1 * r' 15 + (0)) := lw_rd (g := 14) (j := 0) h3.2.2.1 (List.mem_of_getElem? (i := 4) rfl) (by decide)
      have e5 : (nt_I M' (pl 14) 212).toInt = 0 + (1 * r' 16 + (0)) := lw_rd (g := 14) (j := 212) h3.2.2.1 (List.mem_of_getElem? (i := 5) rfl) (by decide)
      have e6 : (nt_I M' (pl 14) 424).toInt = 0 + (1 * r' 17 + (0)) := lw_rd (g := 14) (j := 424) h3.2.2.1 (List.mem_of_getElem? (i := 6) rfl) (by decide)
      have e7 : (nt_I M' (pl 14) 636).toInt = 0 + (1 * r' 18 + (0)) := lw_rd (g := 14) (j := 636) h3.2.2.1 (List.mem_of_getElem? (i := 7) rfl) (by decide)
      have e8 : (nt_I M' (pl 14) 4).toInt = 0 + (1 * r' 19 + (0)) := lw_rd (g := 14) (j := 4) h3.2.2.1 (List.mem_of_getElem? (i := 8) rfl) (by decide)
      have e9 : (nt_I M' (pl 14) 216).toInt = 0 + (1 * r' 20 + (0)) := lw_rd (g := 14) (j := 216) h3.2.2.1 (List.mem_of_getElem? (i := 9) rfl) (by decide)
      have e10 : (nt_I M' (pl 14) 428).toInt = 0 + (1 * r' 21 + (0)) := lw_rd (g := 14) (j := 428) h3.2.2.1 (List.mem_of_getElem? (i := 10) rfl) (by decide)
      have e11 : (nt_I M' (pl 14) 640).toInt = 0 + (1 * r' 22 + (0)) := lw_rd (g := 14) (j := 640) h3.2.2.1 (List.mem_of_getElem? (i := 11) rfl) (by decide)
      have f0 : (0 : Int) ≤ (-201) + (1 * r' 14 + (1 * r' 25 + (0))) := h3.2.2.2.2.1.2 _ (List.mem_of_getElem? (i := 0) rfl)
      have g11 := hr' 11 (by omega)
      rw [h11] at g11
      have g12 := hr' 12 (by omega)
      rw [h12] at g12
      have g13 := hr' 13 (by omega)
      rw [h13] at g13
      have g14 := hr' 14 (by omega)
      rw [h14] at g14
      have g15 := hr' 15 (by omega)
      rw [h15] at g15
      have g16 := hr' 16 (by omega)
      rw [h16] at g16
      have g17 := hr' 17 (by omega)
      rw [h17] at g17
      have g18 := hr' 18 (by omega)
      rw [h18] at g18
      have g19 := hr' 19 (by omega)
      rw [h19] at g19
      have g20 := hr' 20 (by omega)
      rw [h20] at g20
      have g21 := hr' 21 (by omega)
      rw [h21] at g21
      have g22 := hr' 22 (by omega)
      rw [h22] at g22
      have g25 := hr' 25 (by omega)
      rw [h25] at g25
      exact ⟨y, M', rfl, Or.inr (Or.inr (Or.inr (Or.inr (Or.inl ⟨by omega, e0.trans (lw_s g11), e1.trans (lw_s g12), e2.trans (lw_s g13), e3.trans (lw_s g14), e4.trans (lw_s g15), e5.trans (lw_s g16), e6.trans (lw_s g17), e7.trans (lw_s g18), e8.trans (lw_s g19), e9.trans (lw_s g20), e10.trans (lw_s g21), e11.trans (lw_s g22), by omega⟩))))⟩
  rw [List.mem_singleton.mp hp] at h2 h3
  cases ov with
  | none => exact h2.elim
  | some w =>
    obtain ⟨y, rfl, hy⟩ := h2
    have hy : y.toInt = 0 + (1 * r' 26 + (0)) := hy
    have e0 : (nt_I M' (pl 31) 1).toInt = 0 + (1 * r' 11 + (0)) := lw_rd (g := 31) (j := 1) h3.2.2.1 (List.mem_of_getElem? (i := 0) rfl) (by decide)
    have e1 : (nt_I M' (pl 31) 2).toInt = 0 + (1 * r' 12 + (0)) := lw_rd (g := 31) (j := 2) h3.2.2.1 (List.mem_of_getElem? (i := 1) rfl) (by decide)
    have e2 : (nt_I M' (pl 4) 0).toInt = 0 + (1 * r' 13 + (0)) := lw_rd (g := 4) (j := 0) h3.2.2.1 (List.mem_of_getElem? (i := 2) rfl) (by decide)
    have e3 : (nt_I M' (pl 4) 4).toInt = 0 + (1 * r' 26 + (0)) := lw_rd (g := 4) (j := 4) h3.2.2.1 (List.mem_of_getElem? (i := 3) rfl) (by decide)
    have e4 : (nt_I M' (pl 14) 0).toInt = 0 + (1 * r' 15 + (0)) := lw_rd (g := 14) (j := 0) h3.2.2.1 (List.mem_of_getElem? (i := 4) rfl) (by decide)
    have e5 : (nt_I M' (pl 14) 212).toInt = 0 + (1 * r' 16 + (0)) := lw_rd (g := 14) (j := 212) h3.2.2.1 (List.mem_of_getElem? (i := 5) rfl) (by decide)
    have e6 : (nt_I M' (pl 14) 424).toInt = 0 + (1 * r' 17 + (0)) := lw_rd (g := 14) (j := 424) h3.2.2.1 (List.mem_of_getElem? (i := 6) rfl) (by decide)
    have e7 : (nt_I M' (pl 14) 636).toInt = 0 + (1 * r' 18 + (0)) := lw_rd (g := 14) (j := 636) h3.2.2.1 (List.mem_of_getElem? (i := 7) rfl) (by decide)
    have e8 : (nt_I M' (pl 14) 4).toInt = 0 + (1 * r' 19 + (0)) := lw_rd (g := 14) (j := 4) h3.2.2.1 (List.mem_of_getElem? (i := 8) rfl) (by decide)
    have e9 : (nt_I M' (pl 14) 216).toInt = 0 + (1 * r' 20 + (0)) := lw_rd (g := 14) (j := 216) h3.2.2.1 (List.mem_of_getElem? (i := 9) rfl) (by decide)
    have e10 : (nt_I M' (pl 14) 428).toInt = 0 + (1 * r' 21 + (0)) := lw_rd (g := 14) (j := 428) h3.2.2.1 (List.mem_of_getElem? (i := 10) rfl) (by decide)
    have e11 : (nt_I M' (pl 14) 640).toInt = 0 + (1 * r' 22 + (0)) := lw_rd (g := 14) (j := 640) h3.2.2.1 (List.mem_of_getElem? (i := 11) rfl) (by decide)
    have f0 : (0 : Int) ≤ (-1) + (1 * r' 13 + (0)) := h3.2.2.2.2.1.2 _ (List.mem_of_getElem? (i := 0) rfl)
    have f1 : (0 : Int) ≤ 0 + ((-1) * r' 14 + ((-1) * r' 25 + (1 * r' 26 + (0)))) := h3.2.2.2.2.1.2 _ (List.mem_of_getElem? (i := 1) rfl)
    have f2 : (0 : Int) ≤ 0 + (1 * r' 14 + (1 * r' 25 + ((-1) * r' 26 + (0)))) := h3.2.2.2.2.1.2 _ (List.mem_of_getElem? (i := 2) rfl)
    have f3 : (0 : Int) ≤ (-1) + (1 * r' 25 + (0)) := h3.2.2.2.2.1.2 _ (List.mem_of_getElem? (i := 3) rfl)
    have f4 : (0 : Int) ≤ 100 + ((-1) * r' 25 + (0)) := h3.2.2.2.2.1.2 _ (List.mem_of_getElem? (i := 4) rfl)
    have f5 : (0 : Int) ≤ 200 + ((-1) * r' 14 + ((-1) * r' 25 + (0))) := h3.2.2.2.2.1.2 _ (List.mem_of_getElem? (i := 5) rfl)
    have g11 := hr' 11 (by omega)
    rw [h11] at g11
    have g12 := hr' 12 (by omega)
    rw [h12] at g12
    have g13 := hr' 13 (by omega)
    rw [h13] at g13
    have g14 := hr' 14 (by omega)
    rw [h14] at g14
    have g15 := hr' 15 (by omega)
    rw [h15] at g15
    have g16 := hr' 16 (by omega)
    rw [h16] at g16
    have g17 := hr' 17 (by omega)
    rw [h17] at g17
    have g18 := hr' 18 (by omega)
    rw [h18] at g18
    have g19 := hr' 19 (by omega)
    rw [h19] at g19
    have g20 := hr' 20 (by omega)
    rw [h20] at g20
    have g21 := hr' 21 (by omega)
    rw [h21] at g21
    have g22 := hr' 22 (by omega)
    rw [h22] at g22
    have g25 := hr' 25 (by omega)
    rw [h25] at g25
    exact ⟨y, M', rfl, Or.inr (Or.inr (Or.inr (Or.inr (Or.inr (⟨e0.trans (lw_s g11), e1.trans (lw_s g12), e2.trans (lw_s g13), by omega, e4.trans (lw_s g15), e5.trans (lw_s g16), e6.trans (lw_s g17), e7.trans (lw_s g18), e8.trans (lw_s g19), e9.trans (lw_s g20), e10.trans (lw_s g21), e11.trans (lw_s g22), by omega, by omega, by omega, by omega, by omega, by omega⟩)))))⟩
theorem lwd_daysL {X : nt_X} {pl : Nat → Nat} {v : Nat → Int} {M : nt_M} {d : Nat} {o : Option Value × nt_M} {n ru : Int32} (hd : 2 ≤ d) (hB : ly_B pl v M) (hb11 : (0 : Int) ≤ (nt_I M (pl 31) 1).toInt ∧ (nt_I M (pl 31) 1).toInt ≤ 1) (hb13 : (0 : Int) ≤ (nt_I M (pl 4) 0).toInt ∧ (nt_I M (pl 4) 0).toInt ≤ 4) (hb23 : (-2147483648 : Int) ≤ ru.toInt ∧ ru.toInt ≤ -2) (k : nt_ev X d 186 [.ref (pl 0), .int ru, .int n] M o) : ∃ (y : Int32) (M' : nt_M), o = (some (.int y), M') ∧ ((y.toInt = -1 ∧ (nt_I M' (pl 31) 1).toInt = (nt_I M (pl 31) 1).toInt ∧ (nt_I M' (pl 31) 2).toInt = (nt_I M (pl 31) 2).toInt ∧ (nt_I M' (pl 4) 0).toInt = (nt_I M (pl 4) 0).toInt ∧ (nt_I M' (pl 4) 4).toInt = (nt_I M (pl 4) 4).toInt ∧ (nt_I M' (pl 14) 0).toInt = (nt_I M (pl 14) 0).toInt ∧ (nt_I M' (pl 14) 212).toInt = (nt_I M (pl 14) 212).toInt ∧ (nt_I M' (pl 14) 424).toInt = (nt_I M (pl 14) 424).toInt ∧ (nt_I M' (pl 14) 636).toInt = (nt_I M (pl 14) 636).toInt ∧ (nt_I M' (pl 14) 4).toInt = (nt_I M (pl 14) 4).toInt ∧ (nt_I M' (pl 14) 216).toInt = (nt_I M (pl 14) 216).toInt ∧ (nt_I M' (pl 14) 428).toInt = (nt_I M (pl 14) 428).toInt ∧ (nt_I M' (pl 14) 640).toInt = (nt_I M (pl 14) 640).toInt)) := by
  obtain ⟨r, hr, h11, h12, h13, h14, h15, h16, h17, h18, h19, h20, h21, h22, h23, h24⟩ : ∃ r : Nat → Int, (∀ s, s < 11 → r s = v s) ∧ r 11 = (nt_I M (pl 31) 1).toInt ∧ r 12 = (nt_I M (pl 31) 2).toInt ∧ r 13 = (nt_I M (pl 4) 0).toInt ∧ r 14 = (nt_I M (pl 4) 4).toInt ∧ r 15 = (nt_I M (pl 14) 0).toInt ∧ r 16 = (nt_I M (pl 14) 212).toInt ∧ r 17 = (nt_I M (pl 14) 424).toInt ∧ r 18 = (nt_I M (pl 14) 636).toInt ∧ r 19 = (nt_I M (pl 14) 4).toInt ∧ r 20 = (nt_I M (pl 14) 216).toInt ∧ r 21 = (nt_I M (pl 14) 428).toInt ∧ r 22 = (nt_I M (pl 14) 640).toInt ∧ r 23 = ru.toInt ∧ r 24 = n.toInt := ⟨fun s => if s = 11 then (nt_I M (pl 31) 1).toInt else if s = 12 then (nt_I M (pl 31) 2).toInt else if s = 13 then (nt_I M (pl 4) 0).toInt else if s = 14 then (nt_I M (pl 4) 4).toInt else if s = 15 then (nt_I M (pl 14) 0).toInt else if s = 16 then (nt_I M (pl 14) 212).toInt else if s = 17 then (nt_I M (pl 14) 424).toInt else if s = 18 then (nt_I M (pl 14) 636).toInt else if s = 19 then (nt_I M (pl 14) 4).toInt else if s = 20 then (nt_I M (pl 14) 216).toInt else if s = 21 then (nt_I M (pl 14) 428).toInt else if s = 22 then (nt_I M (pl 14) 640).toInt else if s = 23 then ru.toInt else if s = 24 then n.toInt else v s, fun s hs => by dsimp only; rw [if_neg (by omega), if_neg (by omega), if_neg (by omega), if_neg (by omega), if_neg (by omega), if_neg (by omega), if_neg (by omega), if_neg (by omega), if_neg (by omega), if_neg (by omega), if_neg (by omega), if_neg (by omega), if_neg (by omega), if_neg (by omega)], rfl, rfl, rfl, rfl, rfl, rfl, rfl, rfl, rfl, rfl, rfl, rfl, rfl, rfl⟩
  have hij := ly_ij (K := kk_wd_daysL) rfl hB
  have hon := ly_app (K := kk_wd_daysL) (ed := []) (ec := [((31, (1, [])), (0, [(11, 1)])), ((31, (2, [])), (0, [(12, 1)])), ((4, (0, [])), (0, [(13, 1)])), ((4, (4, [])), (0, [(14, 1)])), ((14, (0, [])), (0, [(15, 1)])), ((14, (212, [])), (0, [(16, 1)])), ((14, (424, [])), (0, [(17, 1)])), ((14, (636, [])), (0, [(18, 1)])), ((14, (4, [])), (0, [(19, 1)])), ((14, (216, [])), (0, [(20, 1)])), ((14, (428, [])), (0, [(21, 1)])), ((14, (640, [])), (0, [(22, 1)]))]) (er := []) rfl hB (fun _ _ => rfl) hr hij ly_nil (lw_oiC (g := 31) (j := 1) (by show 31 < 66; decide) (by decide) (by dsimp only; rw [sx_s_e]; exact h11.symm) (lw_oiC (g := 31) (j := 2) (by show 31 < 66; decide) (by decide) (by dsimp only; rw [sx_s_e]; exact h12.symm) (lw_oiC (g := 4) (j := 0) (by show 4 < 66; decide) (by decide) (by dsimp only; rw [sx_s_e]; exact h13.symm) (lw_oiC (g := 4) (j := 4) (by show 4 < 66; decide) (by decide) (by dsimp only; rw [sx_s_e]; exact h14.symm) (lw_oiC (g := 14) (j := 0) (by show 14 < 66; decide) (by decide) (by dsimp only; rw [sx_s_e]; exact h15.symm) (lw_oiC (g := 14) (j := 212) (by show 14 < 66; decide) (by decide) (by dsimp only; rw [sx_s_e]; exact h16.symm) (lw_oiC (g := 14) (j := 424) (by show 14 < 66; decide) (by decide) (by dsimp only; rw [sx_s_e]; exact h17.symm) (lw_oiC (g := 14) (j := 636) (by show 14 < 66; decide) (by decide) (by dsimp only; rw [sx_s_e]; exact h18.symm) (lw_oiC (g := 14) (j := 4) (by show 14 < 66; decide) (by decide) (by dsimp only; rw [sx_s_e]; exact h19.symm) (lw_oiC (g := 14) (j := 216) (by show 14 < 66; decide) (by decide) (by dsimp only; rw [sx_s_e]; exact h20.symm) (lw_oiC (g := 14) (j := 428) (by show 14 < 66; decide) (by decide) (by dsimp only; rw [sx_s_e]; exact h21.symm) (lw_oiC (g := 14) (j := 640) (by show 14 < 66; decide) (by decide) (by dsimp only; rw [sx_s_e]; exact h22.symm) (lw_oiN))))))))))))) (fun q hq => by cases hq) (ly_oba (ly_obr hr (ly_ob hB)) (ly_oba (ly_ob1 (by rw [h11]; exact hb11)) (ly_oba (ly_obI (x := nt_I M (pl 31) 2) h12) (ly_oba (ly_ob1 (by rw [h13]; exact hb13)) (ly_oba (ly_obI (x := nt_I M (pl 4) 4) h14) (ly_oba (ly_obI (x := nt_I M (pl 14) 0) h15) (ly_oba (ly_obI (x := nt_I M (pl 14) 212) h16) (ly_oba (ly_obI (x := nt_I M (pl 14) 424) h17) (ly_oba (ly_obI (x := nt_I M (pl 14) 636) h18) (ly_oba (ly_obI (x := nt_I M (pl 14) 4) h19) (ly_oba (ly_obI (x := nt_I M (pl 14) 216) h20) (ly_oba (ly_obI (x := nt_I M (pl 14) 428) h21) (ly_oba (ly_obI (x := nt_I M (pl 14) 640) h22) (ly_oba (ly_ob1 (by rw [h23]; exact hb23)) (ly_obI h24))))))))))))))) ly_oc0
  obtain ⟨p, hp, r', h2, h3⟩ := lw_app (ko_wd_daysL X) rfl hd hon (vs := [.ref (pl 0), .int ru, .int n]) ⟨rfl, ⟨ru, rfl, (ly_e1 h23).symm⟩, ⟨n, rfl, (ly_e1 h24).symm⟩, trivial⟩ k
  have hr' : ∀ s, s < 25 → r' s = r s := fun s hs => h3.2.2.2.2.2.1 s hs
  obtain ⟨ov, M'⟩ := o
  rw [List.mem_singleton.mp hp] at h2 h3
  cases ov with
  | none => exact h2.elim
  | some w =>
    obtain ⟨y, rfl, hy⟩ := h2
    have hy : y.toInt = (-1) + 0 := hy
    have e0 : (nt_I M' (pl 31) 1).toInt = 0 + (1 * r' 11 + (0)) := lw_rd (g := 31) (j := 1) h3.2.2.1 (List.mem_of_getElem? (i := 0) rfl) (by decide)
    have e1 : (nt_I M' (pl 31) 2).toInt = 0 + (1 * r' 12 + (0)) := lw_rd (g := 31) (j := 2) h3.2.2.1 (List.mem_of_getElem? (i := 1) rfl) (by decide)
    have e2 : (nt_I M' (pl 4) 0).toInt = 0 + (1 * r' 13 + (0)) := lw_rd (g := 4) (j := 0) h3.2.2.1 (List.mem_of_getElem? (i := 2) rfl) (by decide)
    have e3 : (nt_I M' (pl 4) 4).toInt = 0 + (1 * r' 14 + (0)) := lw_rd (g := 4) (j := 4) h3.2.2.1 (List.mem_of_getElem? (i := 3) rfl) (by decide)
    have e4 : (nt_I M' (pl 14) 0).toInt = 0 + (1 * r' 15 + (0)) := lw_rd (g := 14) (j := 0) h3.2.2.1 (List.mem_of_getElem? (i := 4) rfl) (by decide)
    have e5 : (nt_I M' (pl 14) 212).toInt = 0 + (1 * r' 16 + (0)) := lw_rd (g := 14) (j := 212) h3.2.2.1 (List.mem_of_getElem? (i := 5) rfl) (by decide)
    have e6 : (nt_I M' (pl 14) 424).toInt = 0 + (1 * r' 17 + (0)) := lw_rd (g := 14) (j := 424) h3.2.2.1 (List.mem_of_getElem? (i := 6) rfl) (by decide)
    have e7 : (nt_I M' (pl 14) 636).toInt = 0 + (1 * r' 18 + (0)) := lw_rd (g := 14) (j := 636) h3.2.2.1 (List.mem_of_getElem? (i := 7) rfl) (by decide)
    have e8 : (nt_I M' (pl 14) 4).toInt = 0 + (1 * r' 19 + (0)) := lw_rd (g := 14) (j := 4) h3.2.2.1 (List.mem_of_getElem? (i := 8) rfl) (by decide)
    have e9 : (nt_I M' (pl 14) 216).toInt = 0 + (1 * r' 20 + (0)) := lw_rd (g := 14) (j := 216) h3.2.2.1 (List.mem_of_getElem? (i := 9) rfl) (by decide)
    have e10 : (nt_I M' (pl 14) 428).toInt = 0 + (1 * r' 21 + (0)) := lw_rd (g := 14) (j := 428) h3.2.2.1 (List.mem_of_getElem? (i := 10) rfl) (by decide)
    have e11 : (nt_I M' (pl 14) 640).toInt = 0 + (1 * r' 22 + (0)) := lw_rd (g := 14) (j := 640) h3.2.2.1 (List.mem_of_getElem? (i := 11) rfl) (by decide)
    have g11 := hr' 11 (by omega)
    rw [h11] at g11
    have g12 := hr' 12 (by omega)
    rw [h12] at g12
    have g13 := hr' 13 (by omega)
    rw [h13] at g13
    have g14 := hr' 14 (by omega)
    rw [h14] at g14
    have g15 := hr' 15 (by omega)
    rw [h15] at g15
    have g16 := hr' 16 (by omega)
    rw [h16] at g16
    have g17 := hr' 17 (by omega)
    rw [h17] at g17
    have g18 := hr' 18 (by omega)
    rw [h18] at g18
    have g19 := hr' 19 (by omega)
    rw [h19] at g19
    have g20 := hr' 20 (by omega)
    rw [h20] at g20
    have g21 := hr' 21 (by omega)
    rw [h21] at g21
    have g22 := hr' 22 (by omega)
    rw [h22] at g22
    exact ⟨y, M', rfl, ⟨by omega, e0.trans (lw_s g11), e1.trans (lw_s g12), e2.trans (lw_s g13), e3.trans (lw_s g14), e4.trans (lw_s g15), e5.trans (lw_s g16), e6.trans (lw_s g17), e7.trans (lw_s g18), e8.trans (lw_s g19), e9.trans (lw_s g20), e10.trans (lw_s g21), e11.trans (lw_s g22)⟩⟩
theorem lwd_daysH {X : nt_X} {pl : Nat → Nat} {v : Nat → Int} {M : nt_M} {d : Nat} {o : Option Value × nt_M} {n ru : Int32} (hd : 2 ≤ d) (hB : ly_B pl v M) (hb11 : (0 : Int) ≤ (nt_I M (pl 31) 1).toInt ∧ (nt_I M (pl 31) 1).toInt ≤ 1) (hb13 : (0 : Int) ≤ (nt_I M (pl 4) 0).toInt ∧ (nt_I M (pl 4) 0).toInt ≤ 4) (hb23 : (0 : Int) ≤ (nt_I M (pl 0) 2).toInt ∧ (nt_I M (pl 0) 2).toInt ≤ 6) (hb24 : (0 : Int) ≤ ru.toInt ∧ ru.toInt ≤ 2147483647) (hc0 : (0 : Int) ≤ (-1) * (nt_I M (pl 0) 2).toInt + ru.toInt) (k : nt_ev X d 186 [.ref (pl 0), .int ru, .int n] M o) : ∃ (y : Int32) (M' : nt_M), o = (some (.int y), M') ∧ ((y.toInt = -1 ∧ (nt_I M' (pl 31) 1).toInt = (nt_I M (pl 31) 1).toInt ∧ (nt_I M' (pl 31) 2).toInt = (nt_I M (pl 31) 2).toInt ∧ (nt_I M' (pl 4) 0).toInt = (nt_I M (pl 4) 0).toInt ∧ (nt_I M' (pl 4) 4).toInt = (nt_I M (pl 4) 4).toInt ∧ (nt_I M' (pl 14) 0).toInt = (nt_I M (pl 14) 0).toInt ∧ (nt_I M' (pl 14) 212).toInt = (nt_I M (pl 14) 212).toInt ∧ (nt_I M' (pl 14) 424).toInt = (nt_I M (pl 14) 424).toInt ∧ (nt_I M' (pl 14) 636).toInt = (nt_I M (pl 14) 636).toInt ∧ (nt_I M' (pl 14) 4).toInt = (nt_I M (pl 14) 4).toInt ∧ (nt_I M' (pl 14) 216).toInt = (nt_I M (pl 14) 216).toInt ∧ (nt_I M' (pl 14) 428).toInt = (nt_I M (pl 14) 428).toInt ∧ (nt_I M' (pl 14) 640).toInt = (nt_I M (pl 14) 640).toInt)) := by
  obtain ⟨r, hr, h11, h12, h13, h14, h15, h16, h17, h18, h19, h20, h21, h22, h23, h24, h25⟩ : ∃ r : Nat → Int, (∀ s, s < 11 → r s = v s) ∧ r 11 = (nt_I M (pl 31) 1).toInt ∧ r 12 = (nt_I M (pl 31) 2).toInt ∧ r 13 = (nt_I M (pl 4) 0).toInt ∧ r 14 = (nt_I M (pl 4) 4).toInt ∧ r 15 = (nt_I M (pl 14) 0).toInt ∧ r 16 = (nt_I M (pl 14) 212).toInt ∧ r 17 = (nt_I M (pl 14) 424).toInt ∧ r 18 = (nt_I M (pl 14) 636).toInt ∧ r 19 = (nt_I M (pl 14) 4).toInt ∧ r 20 = (nt_I M (pl 14) 216).toInt ∧ r 21 = (nt_I M (pl 14) 428).toInt ∧ r 22 = (nt_I M (pl 14) 640).toInt ∧ r 23 = (nt_I M (pl 0) 2).toInt ∧ r 24 = ru.toInt ∧ r 25 = n.toInt := ⟨fun s => if s = 11 then (nt_I M (pl 31) 1).toInt else if s = 12 then (nt_I M (pl 31) 2).toInt else if s = 13 then (nt_I M (pl 4) 0).toInt else if s = 14 then (nt_I M (pl 4) 4).toInt else if s = 15 then (nt_I M (pl 14) 0).toInt else if s = 16 then (nt_I M (pl 14) 212).toInt else if s = 17 then (nt_I M (pl 14) 424).toInt else if s = 18 then (nt_I M (pl 14) 636).toInt else if s = 19 then (nt_I M (pl 14) 4).toInt else if s = 20 then (nt_I M (pl 14) 216).toInt else if s = 21 then (nt_I M (pl 14) 428).toInt else if s = 22 then (nt_I M (pl 14) 640).toInt else if s = 23 then (nt_I M (pl 0) 2).toInt else if s = 24 then ru.toInt else if s = 25 then n.toInt else v s, fun s hs => by dsimp only; rw [if_neg (by omega), if_neg (by omega), if_neg (by omega), if_neg (by omega), if_neg (by omega), if_neg (by omega), if_neg (by omega), if_neg (by omega), if_neg (by omega), if_neg (by omega), if_neg (by omega), if_neg (by omega), if_neg (by omega), if_neg (by omega), if_neg (by omega)], rfl, rfl, rfl, rfl, rfl, rfl, rfl, rfl, rfl, rfl, rfl, rfl, rfl, rfl, rfl⟩
  have hij := ly_ij (K := kk_wd_daysH) rfl hB
  have hon := ly_app (K := kk_wd_daysH) (ed := []) (ec := [((31, (1, [])), (0, [(11, 1)])), ((31, (2, [])), (0, [(12, 1)])), ((4, (0, [])), (0, [(13, 1)])), ((4, (4, [])), (0, [(14, 1)])), ((14, (0, [])), (0, [(15, 1)])), ((14, (212, [])), (0, [(16, 1)])), ((14, (424, [])), (0, [(17, 1)])), ((14, (636, [])), (0, [(18, 1)])), ((14, (4, [])), (0, [(19, 1)])), ((14, (216, [])), (0, [(20, 1)])), ((14, (428, [])), (0, [(21, 1)])), ((14, (640, [])), (0, [(22, 1)])), ((0, (2, [])), (0, [(23, 1)]))]) (er := []) rfl hB (fun _ _ => rfl) hr hij ly_nil (lw_oiC (g := 31) (j := 1) (by show 31 < 66; decide) (by decide) (by dsimp only; rw [sx_s_e]; exact h11.symm) (lw_oiC (g := 31) (j := 2) (by show 31 < 66; decide) (by decide) (by dsimp only; rw [sx_s_e]; exact h12.symm) (lw_oiC (g := 4) (j := 0) (by show 4 < 66; decide) (by decide) (by dsimp only; rw [sx_s_e]; exact h13.symm) (lw_oiC (g := 4) (j := 4) (by show 4 < 66; decide) (by decide) (by dsimp only; rw [sx_s_e]; exact h14.symm) (lw_oiC (g := 14) (j := 0) (by show 14 < 66; decide) (by decide) (by dsimp only; rw [sx_s_e]; exact h15.symm) (lw_oiC (g := 14) (j := 212) (by show 14 < 66; decide) (by decide) (by dsimp only; rw [sx_s_e]; exact h16.symm) (lw_oiC (g := 14) (j := 424) (by show 14 < 66; decide) (by decide) (by dsimp only; rw [sx_s_e]; exact h17.symm) (lw_oiC (g := 14) (j := 636) (by show 14 < 66; decide) (by decide) (by dsimp only; rw [sx_s_e]; exact h18.symm) (lw_oiC (g := 14) (j := 4) (by show 14 < 66; decide) (by decide) (by dsimp only; rw [sx_s_e]; exact h19.symm) (lw_oiC (g := 14) (j := 216) (by show 14 < 66; decide) (by decide) (by dsimp only; rw [sx_s_e]; exact h20.symm) (lw_oiC (g := 14) (j := 428) (by show 14 < 66; decide) (by decide) (by dsimp only; rw [sx_s_e]; exact h21.symm) (lw_oiC (g := 14) (j := 640) (by show 14 < 66; decide) (by decide) (by dsimp only; rw [sx_s_e]; exact h22.symm) (lw_oiC (g := 0) (j := 2) (by show 0 < 66; decide) (by decide) (by dsimp only; rw [sx_s_e]; exact h23.symm) (lw_oiN)))))))))))))) (fun q hq => by cases hq) (ly_oba (ly_obr hr (ly_ob hB)) (ly_oba (ly_ob1 (by rw [h11]; exact hb11)) (ly_oba (ly_obI (x := nt_I M (pl 31) 2) h12) (ly_oba (ly_ob1 (by rw [h13]; exact hb13)) (ly_oba (ly_obI (x := nt_I M (pl 4) 4) h14) (ly_oba (ly_obI (x := nt_I M (pl 14) 0) h15) (ly_oba (ly_obI (x := nt_I M (pl 14) 212) h16) (ly_oba (ly_obI (x := nt_I M (pl 14) 424) h17) (ly_oba (ly_obI (x := nt_I M (pl 14) 636) h18) (ly_oba (ly_obI (x := nt_I M (pl 14) 4) h19) (ly_oba (ly_obI (x := nt_I M (pl 14) 216) h20) (ly_oba (ly_obI (x := nt_I M (pl 14) 428) h21) (ly_oba (ly_obI (x := nt_I M (pl 14) 640) h22) (ly_oba (ly_ob1 (by rw [h23]; exact hb23)) (ly_oba (ly_ob1 (by rw [h24]; exact hb24)) (ly_obI h25)))))))))))))))) (fun q hq => by rw [List.mem_singleton.mp hq]; show (0 : Int) ≤ 0 + ((-1) * r 23 + (1 * r 24 + (0))); rw [h23, h24]; have := hc0; omega)
  obtain ⟨p, hp, r', h2, h3⟩ := lw_app (ko_wd_daysH X) rfl hd hon (vs := [.ref (pl 0), .int ru, .int n]) ⟨rfl, ⟨ru, rfl, (ly_e1 h24).symm⟩, ⟨n, rfl, (ly_e1 h25).symm⟩, trivial⟩ k
  have hr' : ∀ s, s < 26 → r' s = r s := fun s hs => h3.2.2.2.2.2.1 s hs
  obtain ⟨ov, M'⟩ := o
  rw [List.mem_singleton.mp hp] at h2 h3
  cases ov with
  | none => exact h2.elim
  | some w =>
    obtain ⟨y, rfl, hy⟩ := h2
    have hy : y.toInt = (-1) + 0 := hy
    have e0 : (nt_I M' (pl 31) 1).toInt = 0 + (1 * r' 11 + (0)) := lw_rd (g := 31) (j := 1) h3.2.2.1 (List.mem_of_getElem? (i := 0) rfl) (by decide)
    have e1 : (nt_I M' (pl 31) 2).toInt = 0 + (1 * r' 12 + (0)) := lw_rd (g := 31) (j := 2) h3.2.2.1 (List.mem_of_getElem? (i := 1) rfl) (by decide)
    have e2 : (nt_I M' (pl 4) 0).toInt = 0 + (1 * r' 13 + (0)) := lw_rd (g := 4) (j := 0) h3.2.2.1 (List.mem_of_getElem? (i := 2) rfl) (by decide)
    have e3 : (nt_I M' (pl 4) 4).toInt = 0 + (1 * r' 14 + (0)) := lw_rd (g := 4) (j := 4) h3.2.2.1 (List.mem_of_getElem? (i := 3) rfl) (by decide)
    have e4 : (nt_I M' (pl 14) 0).toInt = 0 + (1 * r' 15 + (0)) := lw_rd (g := 14) (j := 0) h3.2.2.1 (List.mem_of_getElem? (i := 4) rfl) (by decide)
    have e5 : (nt_I M' (pl 14) 212).toInt = 0 + (1 * r' 16 + (0)) := lw_rd (g := 14) (j := 212) h3.2.2.1 (List.mem_of_getElem? (i := 5) rfl) (by decide)
    have e6 : (nt_I M' (pl 14) 424).toInt = 0 + (1 * r' 17 + (0)) := lw_rd (g := 14) (j := 424) h3.2.2.1 (List.mem_of_getElem? (i := 6) rfl) (by decide)
    have e7 : (nt_I M' (pl 14) 636).toInt = 0 + (1 * r' 18 + (0)) := lw_rd (g := 14) (j := 636) h3.2.2.1 (List.mem_of_getElem? (i := 7) rfl) (by decide)
    have e8 : (nt_I M' (pl 14) 4).toInt = 0 + (1 * r' 19 + (0)) := lw_rd (g := 14) (j := 4) h3.2.2.1 (List.mem_of_getElem? (i := 8) rfl) (by decide)
    have e9 : (nt_I M' (pl 14) 216).toInt = 0 + (1 * r' 20 + (0)) := lw_rd (g := 14) (j := 216) h3.2.2.1 (List.mem_of_getElem? (i := 9) rfl) (by decide)
    have e10 : (nt_I M' (pl 14) 428).toInt = 0 + (1 * r' 21 + (0)) := lw_rd (g := 14) (j := 428) h3.2.2.1 (List.mem_of_getElem? (i := 10) rfl) (by decide)
    have e11 : (nt_I M' (pl 14) 640).toInt = 0 + (1 * r' 22 + (0)) := lw_rd (g := 14) (j := 640) h3.2.2.1 (List.mem_of_getElem? (i := 11) rfl) (by decide)
    have g11 := hr' 11 (by omega)
    rw [h11] at g11
    have g12 := hr' 12 (by omega)
    rw [h12] at g12
    have g13 := hr' 13 (by omega)
    rw [h13] at g13
    have g14 := hr' 14 (by omega)
    rw [h14] at g14
    have g15 := hr' 15 (by omega)
    rw [h15] at g15
    have g16 := hr' 16 (by omega)
    rw [h16] at g16
    have g17 := hr' 17 (by omega)
    rw [h17] at g17
    have g18 := hr' 18 (by omega)
    rw [h18] at g18
    have g19 := hr' 19 (by omega)
    rw [h19] at g19
    have g20 := hr' 20 (by omega)
    rw [h20] at g20
    have g21 := hr' 21 (by omega)
    rw [h21] at g21
    have g22 := hr' 22 (by omega)
    rw [h22] at g22
    exact ⟨y, M', rfl, ⟨by omega, e0.trans (lw_s g11), e1.trans (lw_s g12), e2.trans (lw_s g13), e3.trans (lw_s g14), e4.trans (lw_s g15), e5.trans (lw_s g16), e6.trans (lw_s g17), e7.trans (lw_s g18), e8.trans (lw_s g19), e9.trans (lw_s g20), e10.trans (lw_s g21), e11.trans (lw_s g22)⟩⟩
theorem lwd_aheadN {X : nt_X} {pl : Nat → Nat} {v : Nat → Int} {M : nt_M} {d : Nat} {o : Option Value × nt_M} {b0 b1 : Int32} (hd : 7 ≤ d) (hB : ly_B pl v M) (hb11 : (0 : Int) ≤ (nt_I M (pl 31) 1).toInt ∧ (nt_I M (pl 31) 1).toInt ≤ 1) (hb13 : (0 : Int) ≤ (nt_I M (pl 4) 0).toInt ∧ (nt_I M (pl 4) 0).toInt ≤ 4) (k : nt_ev X d 226 [.ref (pl 0), .int (Int32.ofInt (-1)), .int b0, .int b1] M o) : ∃ (y : Int32) (M' : nt_M), o = (some (.int y), M') ∧ (((nt_I M' (pl 31) 1).toInt = (nt_I M (pl 31) 1).toInt ∧ (nt_I M' (pl 31) 2).toInt = (nt_I M (pl 31) 2).toInt ∧ (nt_I M' (pl 4) 0).toInt = (nt_I M (pl 4) 0).toInt ∧ (nt_I M' (pl 4) 4).toInt = (nt_I M (pl 4) 4).toInt ∧ (nt_I M' (pl 14) 0).toInt = (nt_I M (pl 14) 0).toInt ∧ (nt_I M' (pl 14) 212).toInt = (nt_I M (pl 14) 212).toInt ∧ (nt_I M' (pl 14) 424).toInt = (nt_I M (pl 14) 424).toInt ∧ (nt_I M' (pl 14) 636).toInt = (nt_I M (pl 14) 636).toInt ∧ (nt_I M' (pl 14) 4).toInt = (nt_I M (pl 14) 4).toInt ∧ (nt_I M' (pl 14) 216).toInt = (nt_I M (pl 14) 216).toInt ∧ (nt_I M' (pl 14) 428).toInt = (nt_I M (pl 14) 428).toInt ∧ (nt_I M' (pl 14) 640).toInt = (nt_I M (pl 14) 640).toInt)) := by
  obtain ⟨r, hr, h11, h12, h13, h14, h15, h16, h17, h18, h19, h20, h21, h22, h23, h24⟩ : ∃ r : Nat → Int, (∀ s, s < 11 → r s = v s) ∧ r 11 = (nt_I M (pl 31) 1).toInt ∧ r 12 = (nt_I M (pl 31) 2).toInt ∧ r 13 = (nt_I M (pl 4) 0).toInt ∧ r 14 = (nt_I M (pl 4) 4).toInt ∧ r 15 = (nt_I M (pl 14) 0).toInt ∧ r 16 = (nt_I M (pl 14) 212).toInt ∧ r 17 = (nt_I M (pl 14) 424).toInt ∧ r 18 = (nt_I M (pl 14) 636).toInt ∧ r 19 = (nt_I M (pl 14) 4).toInt ∧ r 20 = (nt_I M (pl 14) 216).toInt ∧ r 21 = (nt_I M (pl 14) 428).toInt ∧ r 22 = (nt_I M (pl 14) 640).toInt ∧ r 23 = b0.toInt ∧ r 24 = b1.toInt := ⟨fun s => if s = 11 then (nt_I M (pl 31) 1).toInt else if s = 12 then (nt_I M (pl 31) 2).toInt else if s = 13 then (nt_I M (pl 4) 0).toInt else if s = 14 then (nt_I M (pl 4) 4).toInt else if s = 15 then (nt_I M (pl 14) 0).toInt else if s = 16 then (nt_I M (pl 14) 212).toInt else if s = 17 then (nt_I M (pl 14) 424).toInt else if s = 18 then (nt_I M (pl 14) 636).toInt else if s = 19 then (nt_I M (pl 14) 4).toInt else if s = 20 then (nt_I M (pl 14) 216).toInt else if s = 21 then (nt_I M (pl 14) 428).toInt else if s = 22 then (nt_I M (pl 14) 640).toInt else if s = 23 then b0.toInt else if s = 24 then b1.toInt else v s, fun s hs => by dsimp only; rw [if_neg (by omega), if_neg (by omega), if_neg (by omega), if_neg (by omega), if_neg (by omega), if_neg (by omega), if_neg (by omega), if_neg (by omega), if_neg (by omega), if_neg (by omega), if_neg (by omega), if_neg (by omega), if_neg (by omega), if_neg (by omega)], rfl, rfl, rfl, rfl, rfl, rfl, rfl, rfl, rfl, rfl, rfl, rfl, rfl, rfl⟩
  have hij := ly_ij (K := kk_wd_aheadN) rfl hB
  have hon := ly_app (K := kk_wd_aheadN) (ed := []) (ec := [((31, (1, [])), (0, [(11, 1)])), ((31, (2, [])), (0, [(12, 1)])), ((4, (0, [])), (0, [(13, 1)])), ((4, (4, [])), (0, [(14, 1)])), ((14, (0, [])), (0, [(15, 1)])), ((14, (212, [])), (0, [(16, 1)])), ((14, (424, [])), (0, [(17, 1)])), ((14, (636, [])), (0, [(18, 1)])), ((14, (4, [])), (0, [(19, 1)])), ((14, (216, [])), (0, [(20, 1)])), ((14, (428, [])), (0, [(21, 1)])), ((14, (640, [])), (0, [(22, 1)]))]) (er := []) rfl hB (fun _ _ => rfl) hr hij ly_nil (lw_oiC (g := 31) (j := 1) (by show 31 < 66; decide) (by decide) (by dsimp only; rw [sx_s_e]; exact h11.symm) (lw_oiC (g := 31) (j := 2) (by show 31 < 66; decide) (by decide) (by dsimp only; rw [sx_s_e]; exact h12.symm) (lw_oiC (g := 4) (j := 0) (by show 4 < 66; decide) (by decide) (by dsimp only; rw [sx_s_e]; exact h13.symm) (lw_oiC (g := 4) (j := 4) (by show 4 < 66; decide) (by decide) (by dsimp only; rw [sx_s_e]; exact h14.symm) (lw_oiC (g := 14) (j := 0) (by show 14 < 66; decide) (by decide) (by dsimp only; rw [sx_s_e]; exact h15.symm) (lw_oiC (g := 14) (j := 212) (by show 14 < 66; decide) (by decide) (by dsimp only; rw [sx_s_e]; exact h16.symm) (lw_oiC (g := 14) (j := 424) (by show 14 < 66; decide) (by decide) (by dsimp only; rw [sx_s_e]; exact h17.symm) (lw_oiC (g := 14) (j := 636) (by show 14 < 66; decide) (by decide) (by dsimp only; rw [sx_s_e]; exact h18.symm) (lw_oiC (g := 14) (j := 4) (by show 14 < 66; decide) (by decide) (by dsimp only; rw [sx_s_e]; exact h19.symm) (lw_oiC (g := 14) (j := 216) (by show 14 < 66; decide) (by decide) (by dsimp only; rw [sx_s_e]; exact h20.symm) (lw_oiC (g := 14) (j := 428) (by show 14 < 66; decide) (by decide) (by dsimp only; rw [sx_s_e]; exact h21.symm) (lw_oiC (g := 14) (j := 640) (by show 14 < 66; decide) (by decide) (by dsimp only; rw [sx_s_e]; exact h22.symm) (lw_oiN))))))))))))) (fun q hq => by cases hq) (ly_oba (ly_obr hr (ly_ob hB)) (ly_oba (ly_ob1 (by rw [h11]; exact hb11)) (ly_oba (ly_obI (x := nt_I M (pl 31) 2) h12) (ly_oba (ly_ob1 (by rw [h13]; exact hb13)) (ly_oba (ly_obI (x := nt_I M (pl 4) 4) h14) (ly_oba (ly_obI (x := nt_I M (pl 14) 0) h15) (ly_oba (ly_obI (x := nt_I M (pl 14) 212) h16) (ly_oba (ly_obI (x := nt_I M (pl 14) 424) h17) (ly_oba (ly_obI (x := nt_I M (pl 14) 636) h18) (ly_oba (ly_obI (x := nt_I M (pl 14) 4) h19) (ly_oba (ly_obI (x := nt_I M (pl 14) 216) h20) (ly_oba (ly_obI (x := nt_I M (pl 14) 428) h21) (ly_oba (ly_obI (x := nt_I M (pl 14) 640) h22) (ly_oba (ly_obI h23) (ly_obI h24))))))))))))))) ly_oc0
  obtain ⟨p, hp, r', h2, h3⟩ := lw_app (ko_wd_aheadN X) rfl hd hon (vs := [.ref (pl 0), .int (Int32.ofInt (-1)), .int b0, .int b1]) ⟨rfl, ⟨_, rfl, by rw [sx_c_e]; decide⟩, ⟨b0, rfl, (ly_e1 h23).symm⟩, ⟨b1, rfl, (ly_e1 h24).symm⟩, trivial⟩ k
  have hr' : ∀ s, s < 25 → r' s = r s := fun s hs => h3.2.2.2.2.2.1 s hs
  obtain ⟨ov, M'⟩ := o
  rw [List.mem_singleton.mp hp] at h2 h3
  cases ov with
  | none => exact h2.elim
  | some w =>
    obtain ⟨y, rfl, hy⟩ := h2
    have hy : y.toInt = 0 + (1 * r' 25 + (0)) := hy
    have e0 : (nt_I M' (pl 31) 1).toInt = 0 + (1 * r' 11 + (0)) := lw_rd (g := 31) (j := 1) h3.2.2.1 (List.mem_of_getElem? (i := 0) rfl) (by decide)
    have e1 : (nt_I M' (pl 31) 2).toInt = 0 + (1 * r' 12 + (0)) := lw_rd (g := 31) (j := 2) h3.2.2.1 (List.mem_of_getElem? (i := 1) rfl) (by decide)
    have e2 : (nt_I M' (pl 4) 0).toInt = 0 + (1 * r' 13 + (0)) := lw_rd (g := 4) (j := 0) h3.2.2.1 (List.mem_of_getElem? (i := 2) rfl) (by decide)
    have e3 : (nt_I M' (pl 4) 4).toInt = 0 + (1 * r' 14 + (0)) := lw_rd (g := 4) (j := 4) h3.2.2.1 (List.mem_of_getElem? (i := 3) rfl) (by decide)
    have e4 : (nt_I M' (pl 14) 0).toInt = 0 + (1 * r' 15 + (0)) := lw_rd (g := 14) (j := 0) h3.2.2.1 (List.mem_of_getElem? (i := 4) rfl) (by decide)
    have e5 : (nt_I M' (pl 14) 212).toInt = 0 + (1 * r' 16 + (0)) := lw_rd (g := 14) (j := 212) h3.2.2.1 (List.mem_of_getElem? (i := 5) rfl) (by decide)
    have e6 : (nt_I M' (pl 14) 424).toInt = 0 + (1 * r' 17 + (0)) := lw_rd (g := 14) (j := 424) h3.2.2.1 (List.mem_of_getElem? (i := 6) rfl) (by decide)
    have e7 : (nt_I M' (pl 14) 636).toInt = 0 + (1 * r' 18 + (0)) := lw_rd (g := 14) (j := 636) h3.2.2.1 (List.mem_of_getElem? (i := 7) rfl) (by decide)
    have e8 : (nt_I M' (pl 14) 4).toInt = 0 + (1 * r' 19 + (0)) := lw_rd (g := 14) (j := 4) h3.2.2.1 (List.mem_of_getElem? (i := 8) rfl) (by decide)
    have e9 : (nt_I M' (pl 14) 216).toInt = 0 + (1 * r' 20 + (0)) := lw_rd (g := 14) (j := 216) h3.2.2.1 (List.mem_of_getElem? (i := 9) rfl) (by decide)
    have e10 : (nt_I M' (pl 14) 428).toInt = 0 + (1 * r' 21 + (0)) := lw_rd (g := 14) (j := 428) h3.2.2.1 (List.mem_of_getElem? (i := 10) rfl) (by decide)
    have e11 : (nt_I M' (pl 14) 640).toInt = 0 + (1 * r' 22 + (0)) := lw_rd (g := 14) (j := 640) h3.2.2.1 (List.mem_of_getElem? (i := 11) rfl) (by decide)
    have g11 := hr' 11 (by omega)
    rw [h11] at g11
    have g12 := hr' 12 (by omega)
    rw [h12] at g12
    have g13 := hr' 13 (by omega)
    rw [h13] at g13
    have g14 := hr' 14 (by omega)
    rw [h14] at g14
    have g15 := hr' 15 (by omega)
    rw [h15] at g15
    have g16 := hr' 16 (by omega)
    rw [h16] at g16
    have g17 := hr' 17 (by omega)
    rw [h17] at g17
    have g18 := hr' 18 (by omega)
    rw [h18] at g18
    have g19 := hr' 19 (by omega)
    rw [h19] at g19
    have g20 := hr' 20 (by omega)
    rw [h20] at g20
    have g21 := hr' 21 (by omega)
    rw [h21] at g21
    have g22 := hr' 22 (by omega)
    rw [h22] at g22
    exact ⟨y, M', rfl, ⟨e0.trans (lw_s g11), e1.trans (lw_s g12), e2.trans (lw_s g13), e3.trans (lw_s g14), e4.trans (lw_s g15), e5.trans (lw_s g16), e6.trans (lw_s g17), e7.trans (lw_s g18), e8.trans (lw_s g19), e9.trans (lw_s g20), e10.trans (lw_s g21), e11.trans (lw_s g22)⟩⟩
theorem lwd_aheadL {X : nt_X} {pl : Nat → Nat} {v : Nat → Int} {M : nt_M} {d : Nat} {o : Option Value × nt_M} {b0 b1 ru : Int32} (hd : 2 ≤ d) (hB : ly_B pl v M) (hb11 : (0 : Int) ≤ (nt_I M (pl 31) 1).toInt ∧ (nt_I M (pl 31) 1).toInt ≤ 1) (hb13 : (0 : Int) ≤ (nt_I M (pl 4) 0).toInt ∧ (nt_I M (pl 4) 0).toInt ≤ 4) (hb23 : (-2147483648 : Int) ≤ ru.toInt ∧ ru.toInt ≤ -2) (k : nt_ev X d 226 [.ref (pl 0), .int ru, .int b0, .int b1] M o) : ∃ (y : Int32) (M' : nt_M), o = (some (.int y), M') ∧ (((nt_I M' (pl 31) 1).toInt = (nt_I M (pl 31) 1).toInt ∧ (nt_I M' (pl 31) 2).toInt = (nt_I M (pl 31) 2).toInt ∧ (nt_I M' (pl 4) 0).toInt = (nt_I M (pl 4) 0).toInt ∧ (nt_I M' (pl 4) 4).toInt = (nt_I M (pl 4) 4).toInt ∧ (nt_I M' (pl 14) 0).toInt = (nt_I M (pl 14) 0).toInt ∧ (nt_I M' (pl 14) 212).toInt = (nt_I M (pl 14) 212).toInt ∧ (nt_I M' (pl 14) 424).toInt = (nt_I M (pl 14) 424).toInt ∧ (nt_I M' (pl 14) 636).toInt = (nt_I M (pl 14) 636).toInt ∧ (nt_I M' (pl 14) 4).toInt = (nt_I M (pl 14) 4).toInt ∧ (nt_I M' (pl 14) 216).toInt = (nt_I M (pl 14) 216).toInt ∧ (nt_I M' (pl 14) 428).toInt = (nt_I M (pl 14) 428).toInt ∧ (nt_I M' (pl 14) 640).toInt = (nt_I M (pl 14) 640).toInt)) := by
  obtain ⟨r, hr, h11, h12, h13, h14, h15, h16, h17, h18, h19, h20, h21, h22, h23, h24, h25⟩ : ∃ r : Nat → Int, (∀ s, s < 11 → r s = v s) ∧ r 11 = (nt_I M (pl 31) 1).toInt ∧ r 12 = (nt_I M (pl 31) 2).toInt ∧ r 13 = (nt_I M (pl 4) 0).toInt ∧ r 14 = (nt_I M (pl 4) 4).toInt ∧ r 15 = (nt_I M (pl 14) 0).toInt ∧ r 16 = (nt_I M (pl 14) 212).toInt ∧ r 17 = (nt_I M (pl 14) 424).toInt ∧ r 18 = (nt_I M (pl 14) 636).toInt ∧ r 19 = (nt_I M (pl 14) 4).toInt ∧ r 20 = (nt_I M (pl 14) 216).toInt ∧ r 21 = (nt_I M (pl 14) 428).toInt ∧ r 22 = (nt_I M (pl 14) 640).toInt ∧ r 23 = ru.toInt ∧ r 24 = b0.toInt ∧ r 25 = b1.toInt := ⟨fun s => if s = 11 then (nt_I M (pl 31) 1).toInt else if s = 12 then (nt_I M (pl 31) 2).toInt else if s = 13 then (nt_I M (pl 4) 0).toInt else if s = 14 then (nt_I M (pl 4) 4).toInt else if s = 15 then (nt_I M (pl 14) 0).toInt else if s = 16 then (nt_I M (pl 14) 212).toInt else if s = 17 then (nt_I M (pl 14) 424).toInt else if s = 18 then (nt_I M (pl 14) 636).toInt else if s = 19 then (nt_I M (pl 14) 4).toInt else if s = 20 then (nt_I M (pl 14) 216).toInt else if s = 21 then (nt_I M (pl 14) 428).toInt else if s = 22 then (nt_I M (pl 14) 640).toInt else if s = 23 then ru.toInt else if s = 24 then b0.toInt else if s = 25 then b1.toInt else v s, fun s hs => by dsimp only; rw [if_neg (by omega), if_neg (by omega), if_neg (by omega), if_neg (by omega), if_neg (by omega), if_neg (by omega), if_neg (by omega), if_neg (by omega), if_neg (by omega), if_neg (by omega), if_neg (by omega), if_neg (by omega), if_neg (by omega), if_neg (by omega), if_neg (by omega)], rfl, rfl, rfl, rfl, rfl, rfl, rfl, rfl, rfl, rfl, rfl, rfl, rfl, rfl, rfl⟩
  have hij := ly_ij (K := kk_wd_aheadL) rfl hB
  have hon := ly_app (K := kk_wd_aheadL) (ed := []) (ec := [((31, (1, [])), (0, [(11, 1)])), ((31, (2, [])), (0, [(12, 1)])), ((4, (0, [])), (0, [(13, 1)])), ((4, (4, [])), (0, [(14, 1)])), ((14, (0, [])), (0, [(15, 1)])), ((14, (212, [])), (0, [(16, 1)])), ((14, (424, [])), (0, [(17, 1)])), ((14, (636, [])), (0, [(18, 1)])), ((14, (4, [])), (0, [(19, 1)])), ((14, (216, [])), (0, [(20, 1)])), ((14, (428, [])), (0, [(21, 1)])), ((14, (640, [])), (0, [(22, 1)]))]) (er := []) rfl hB (fun _ _ => rfl) hr hij ly_nil (lw_oiC (g := 31) (j := 1) (by show 31 < 66; decide) (by decide) (by dsimp only; rw [sx_s_e]; exact h11.symm) (lw_oiC (g := 31) (j := 2) (by show 31 < 66; decide) (by decide) (by dsimp only; rw [sx_s_e]; exact h12.symm) (lw_oiC (g := 4) (j := 0) (by show 4 < 66; decide) (by decide) (by dsimp only; rw [sx_s_e]; exact h13.symm) (lw_oiC (g := 4) (j := 4) (by show 4 < 66; decide) (by decide) (by dsimp only; rw [sx_s_e]; exact h14.symm) (lw_oiC (g := 14) (j := 0) (by show 14 < 66; decide) (by decide) (by dsimp only; rw [sx_s_e]; exact h15.symm) (lw_oiC (g := 14) (j := 212) (by show 14 < 66; decide) (by decide) (by dsimp only; rw [sx_s_e]; exact h16.symm) (lw_oiC (g := 14) (j := 424) (by show 14 < 66; decide) (by decide) (by dsimp only; rw [sx_s_e]; exact h17.symm) (lw_oiC (g := 14) (j := 636) (by show 14 < 66; decide) (by decide) (by dsimp only; rw [sx_s_e]; exact h18.symm) (lw_oiC (g := 14) (j := 4) (by show 14 < 66; decide) (by decide) (by dsimp only; rw [sx_s_e]; exact h19.symm) (lw_oiC (g := 14) (j := 216) (by show 14 < 66; decide) (by decide) (by dsimp only; rw [sx_s_e]; exact h20.symm) (lw_oiC (g := 14) (j := 428) (by show 14 < 66; decide) (by decide) (by dsimp only; rw [sx_s_e]; exact h21.symm) (lw_oiC (g := 14) (j := 640) (by show 14 < 66; decide) (by decide) (by dsimp only; rw [sx_s_e]; exact h22.symm) (lw_oiN))))))))))))) (fun q hq => by cases hq) (ly_oba (ly_obr hr (ly_ob hB)) (ly_oba (ly_ob1 (by rw [h11]; exact hb11)) (ly_oba (ly_obI (x := nt_I M (pl 31) 2) h12) (ly_oba (ly_ob1 (by rw [h13]; exact hb13)) (ly_oba (ly_obI (x := nt_I M (pl 4) 4) h14) (ly_oba (ly_obI (x := nt_I M (pl 14) 0) h15) (ly_oba (ly_obI (x := nt_I M (pl 14) 212) h16) (ly_oba (ly_obI (x := nt_I M (pl 14) 424) h17) (ly_oba (ly_obI (x := nt_I M (pl 14) 636) h18) (ly_oba (ly_obI (x := nt_I M (pl 14) 4) h19) (ly_oba (ly_obI (x := nt_I M (pl 14) 216) h20) (ly_oba (ly_obI (x := nt_I M (pl 14) 428) h21) (ly_oba (ly_obI (x := nt_I M (pl 14) 640) h22) (ly_oba (ly_ob1 (by rw [h23]; exact hb23)) (ly_oba (ly_obI h24) (ly_obI h25)))))))))))))))) ly_oc0
  obtain ⟨p, hp, r', h2, h3⟩ := lw_app (ko_wd_aheadL X) rfl hd hon (vs := [.ref (pl 0), .int ru, .int b0, .int b1]) ⟨rfl, ⟨ru, rfl, (ly_e1 h23).symm⟩, ⟨b0, rfl, (ly_e1 h24).symm⟩, ⟨b1, rfl, (ly_e1 h25).symm⟩, trivial⟩ k
  have hr' : ∀ s, s < 26 → r' s = r s := fun s hs => h3.2.2.2.2.2.1 s hs
  obtain ⟨ov, M'⟩ := o
  rw [List.mem_singleton.mp hp] at h2 h3
  cases ov with
  | none => exact h2.elim
  | some w =>
    obtain ⟨y, rfl, hy⟩ := h2
    have hy : y.toInt = 0 + (1 * r' 26 + (0)) := hy
    have e0 : (nt_I M' (pl 31) 1).toInt = 0 + (1 * r' 11 + (0)) := lw_rd (g := 31) (j := 1) h3.2.2.1 (List.mem_of_getElem? (i := 0) rfl) (by decide)
    have e1 : (nt_I M' (pl 31) 2).toInt = 0 + (1 * r' 12 + (0)) := lw_rd (g := 31) (j := 2) h3.2.2.1 (List.mem_of_getElem? (i := 1) rfl) (by decide)
    have e2 : (nt_I M' (pl 4) 0).toInt = 0 + (1 * r' 13 + (0)) := lw_rd (g := 4) (j := 0) h3.2.2.1 (List.mem_of_getElem? (i := 2) rfl) (by decide)
    have e3 : (nt_I M' (pl 4) 4).toInt = 0 + (1 * r' 14 + (0)) := lw_rd (g := 4) (j := 4) h3.2.2.1 (List.mem_of_getElem? (i := 3) rfl) (by decide)
    have e4 : (nt_I M' (pl 14) 0).toInt = 0 + (1 * r' 15 + (0)) := lw_rd (g := 14) (j := 0) h3.2.2.1 (List.mem_of_getElem? (i := 4) rfl) (by decide)
    have e5 : (nt_I M' (pl 14) 212).toInt = 0 + (1 * r' 16 + (0)) := lw_rd (g := 14) (j := 212) h3.2.2.1 (List.mem_of_getElem? (i := 5) rfl) (by decide)
    have e6 : (nt_I M' (pl 14) 424).toInt = 0 + (1 * r' 17 + (0)) := lw_rd (g := 14) (j := 424) h3.2.2.1 (List.mem_of_getElem? (i := 6) rfl) (by decide)
    have e7 : (nt_I M' (pl 14) 636).toInt = 0 + (1 * r' 18 + (0)) := lw_rd (g := 14) (j := 636) h3.2.2.1 (List.mem_of_getElem? (i := 7) rfl) (by decide)
    have e8 : (nt_I M' (pl 14) 4).toInt = 0 + (1 * r' 19 + (0)) := lw_rd (g := 14) (j := 4) h3.2.2.1 (List.mem_of_getElem? (i := 8) rfl) (by decide)
    have e9 : (nt_I M' (pl 14) 216).toInt = 0 + (1 * r' 20 + (0)) := lw_rd (g := 14) (j := 216) h3.2.2.1 (List.mem_of_getElem? (i := 9) rfl) (by decide)
    have e10 : (nt_I M' (pl 14) 428).toInt = 0 + (1 * r' 21 + (0)) := lw_rd (g := 14) (j := 428) h3.2.2.1 (List.mem_of_getElem? (i := 10) rfl) (by decide)
    have e11 : (nt_I M' (pl 14) 640).toInt = 0 + (1 * r' 22 + (0)) := lw_rd (g := 14) (j := 640) h3.2.2.1 (List.mem_of_getElem? (i := 11) rfl) (by decide)
    have g11 := hr' 11 (by omega)
    rw [h11] at g11
    have g12 := hr' 12 (by omega)
    rw [h12] at g12
    have g13 := hr' 13 (by omega)
    rw [h13] at g13
    have g14 := hr' 14 (by omega)
    rw [h14] at g14
    have g15 := hr' 15 (by omega)
    rw [h15] at g15
    have g16 := hr' 16 (by omega)
    rw [h16] at g16
    have g17 := hr' 17 (by omega)
    rw [h17] at g17
    have g18 := hr' 18 (by omega)
    rw [h18] at g18
    have g19 := hr' 19 (by omega)
    rw [h19] at g19
    have g20 := hr' 20 (by omega)
    rw [h20] at g20
    have g21 := hr' 21 (by omega)
    rw [h21] at g21
    have g22 := hr' 22 (by omega)
    rw [h22] at g22
    exact ⟨y, M', rfl, ⟨e0.trans (lw_s g11), e1.trans (lw_s g12), e2.trans (lw_s g13), e3.trans (lw_s g14), e4.trans (lw_s g15), e5.trans (lw_s g16), e6.trans (lw_s g17), e7.trans (lw_s g18), e8.trans (lw_s g19), e9.trans (lw_s g20), e10.trans (lw_s g21), e11.trans (lw_s g22)⟩⟩
theorem lwd_aheadH {X : nt_X} {pl : Nat → Nat} {v : Nat → Int} {M : nt_M} {d : Nat} {o : Option Value × nt_M} {b0 b1 ru : Int32} (hd : 7 ≤ d) (hB : ly_B pl v M) (hb11 : (0 : Int) ≤ (nt_I M (pl 31) 1).toInt ∧ (nt_I M (pl 31) 1).toInt ≤ 1) (hb13 : (0 : Int) ≤ (nt_I M (pl 4) 0).toInt ∧ (nt_I M (pl 4) 0).toInt ≤ 4) (hb23 : (0 : Int) ≤ (nt_I M (pl 0) 2).toInt ∧ (nt_I M (pl 0) 2).toInt ≤ 6) (hc0 : (0 : Int) ≤ (-1) * (nt_I M (pl 0) 2).toInt + ru.toInt) (k : nt_ev X d 226 [.ref (pl 0), .int ru, .int b0, .int b1] M o) : ∃ (y : Int32) (M' : nt_M), o = (some (.int y), M') ∧ (((nt_I M' (pl 31) 1).toInt = (nt_I M (pl 31) 1).toInt ∧ (nt_I M' (pl 31) 2).toInt = (nt_I M (pl 31) 2).toInt ∧ (nt_I M' (pl 4) 0).toInt = (nt_I M (pl 4) 0).toInt ∧ (nt_I M' (pl 4) 4).toInt = (nt_I M (pl 4) 4).toInt ∧ (nt_I M' (pl 14) 0).toInt = (nt_I M (pl 14) 0).toInt ∧ (nt_I M' (pl 14) 212).toInt = (nt_I M (pl 14) 212).toInt ∧ (nt_I M' (pl 14) 424).toInt = (nt_I M (pl 14) 424).toInt ∧ (nt_I M' (pl 14) 636).toInt = (nt_I M (pl 14) 636).toInt ∧ (nt_I M' (pl 14) 4).toInt = (nt_I M (pl 14) 4).toInt ∧ (nt_I M' (pl 14) 216).toInt = (nt_I M (pl 14) 216).toInt ∧ (nt_I M' (pl 14) 428).toInt = (nt_I M (pl 14) 428).toInt ∧ (nt_I M' (pl 14) 640).toInt = (nt_I M (pl 14) 640).toInt)) := by
  obtain ⟨r, hr, h11, h12, h13, h14, h15, h16, h17, h18, h19, h20, h21, h22, h23, h24, h25, h26⟩ : ∃ r : Nat → Int, (∀ s, s < 11 → r s = v s) ∧ r 11 = (nt_I M (pl 31) 1).toInt ∧ r 12 = (nt_I M (pl 31) 2).toInt ∧ r 13 = (nt_I M (pl 4) 0).toInt ∧ r 14 = (nt_I M (pl 4) 4).toInt ∧ r 15 = (nt_I M (pl 14) 0).toInt ∧ r 16 = (nt_I M (pl 14) 212).toInt ∧ r 17 = (nt_I M (pl 14) 424).toInt ∧ r 18 = (nt_I M (pl 14) 636).toInt ∧ r 19 = (nt_I M (pl 14) 4).toInt ∧ r 20 = (nt_I M (pl 14) 216).toInt ∧ r 21 = (nt_I M (pl 14) 428).toInt ∧ r 22 = (nt_I M (pl 14) 640).toInt ∧ r 23 = (nt_I M (pl 0) 2).toInt ∧ r 24 = ru.toInt ∧ r 25 = b0.toInt ∧ r 26 = b1.toInt := ⟨fun s => if s = 11 then (nt_I M (pl 31) 1).toInt else if s = 12 then (nt_I M (pl 31) 2).toInt else if s = 13 then (nt_I M (pl 4) 0).toInt else if s = 14 then (nt_I M (pl 4) 4).toInt else if s = 15 then (nt_I M (pl 14) 0).toInt else if s = 16 then (nt_I M (pl 14) 212).toInt else if s = 17 then (nt_I M (pl 14) 424).toInt else if s = 18 then (nt_I M (pl 14) 636).toInt else if s = 19 then (nt_I M (pl 14) 4).toInt else if s = 20 then (nt_I M (pl 14) 216).toInt else if s = 21 then (nt_I M (pl 14) 428).toInt else if s = 22 then (nt_I M (pl 14) 640).toInt else if s = 23 then (nt_I M (pl 0) 2).toInt else if s = 24 then ru.toInt else if s = 25 then b0.toInt else if s = 26 then b1.toInt else v s, fun s hs => by dsimp only; rw [if_neg (by omega), if_neg (by omega), if_neg (by omega), if_neg (by omega), if_neg (by omega), if_neg (by omega), if_neg (by omega), if_neg (by omega), if_neg (by omega), if_neg (by omega), if_neg (by omega), if_neg (by omega), if_neg (by omega), if_neg (by omega), if_neg (by omega), if_neg (by omega)], rfl, rfl, rfl, rfl, rfl, rfl, rfl, rfl, rfl, rfl, rfl, rfl, rfl, rfl, rfl, rfl⟩
  have hij := ly_ij (K := kk_wd_aheadH) rfl hB
  have hon := ly_app (K := kk_wd_aheadH) (ed := []) (ec := [((31, (1, [])), (0, [(11, 1)])), ((31, (2, [])), (0, [(12, 1)])), ((4, (0, [])), (0, [(13, 1)])), ((4, (4, [])), (0, [(14, 1)])), ((14, (0, [])), (0, [(15, 1)])), ((14, (212, [])), (0, [(16, 1)])), ((14, (424, [])), (0, [(17, 1)])), ((14, (636, [])), (0, [(18, 1)])), ((14, (4, [])), (0, [(19, 1)])), ((14, (216, [])), (0, [(20, 1)])), ((14, (428, [])), (0, [(21, 1)])), ((14, (640, [])), (0, [(22, 1)])), ((0, (2, [])), (0, [(23, 1)]))]) (er := []) rfl hB (fun _ _ => rfl) hr hij ly_nil (lw_oiC (g := 31) (j := 1) (by show 31 < 66; decide) (by decide) (by dsimp only; rw [sx_s_e]; exact h11.symm) (lw_oiC (g := 31) (j := 2) (by show 31 < 66; decide) (by decide) (by dsimp only; rw [sx_s_e]; exact h12.symm) (lw_oiC (g := 4) (j := 0) (by show 4 < 66; decide) (by decide) (by dsimp only; rw [sx_s_e]; exact h13.symm) (lw_oiC (g := 4) (j := 4) (by show 4 < 66; decide) (by decide) (by dsimp only; rw [sx_s_e]; exact h14.symm) (lw_oiC (g := 14) (j := 0) (by show 14 < 66; decide) (by decide) (by dsimp only; rw [sx_s_e]; exact h15.symm) (lw_oiC (g := 14) (j := 212) (by show 14 < 66; decide) (by decide) (by dsimp only; rw [sx_s_e]; exact h16.symm) (lw_oiC (g := 14) (j := 424) (by show 14 < 66; decide) (by decide) (by dsimp only; rw [sx_s_e]; exact h17.symm) (lw_oiC (g := 14) (j := 636) (by show 14 < 66; decide) (by decide) (by dsimp only; rw [sx_s_e]; exact h18.symm) (lw_oiC (g := 14) (j := 4) (by show 14 < 66; decide) (by decide) (by dsimp only; rw [sx_s_e]; exact h19.symm) (lw_oiC (g := 14) (j := 216) (by show 14 < 66; decide) (by decide) (by dsimp only; rw [sx_s_e]; exact h20.symm) (lw_oiC (g := 14) (j := 428) (by show 14 < 66; decide) (by decide) (by dsimp only; rw [sx_s_e]; exact h21.symm) (lw_oiC (g := 14) (j := 640) (by show 14 < 66; decide) (by decide) (by dsimp only; rw [sx_s_e]; exact h22.symm) (lw_oiC (g := 0) (j := 2) (by show 0 < 66; decide) (by decide) (by dsimp only; rw [sx_s_e]; exact h23.symm) (lw_oiN)))))))))))))) (fun q hq => by cases hq) (ly_oba (ly_obr hr (ly_ob hB)) (ly_oba (ly_ob1 (by rw [h11]; exact hb11)) (ly_oba (ly_obI (x := nt_I M (pl 31) 2) h12) (ly_oba (ly_ob1 (by rw [h13]; exact hb13)) (ly_oba (ly_obI (x := nt_I M (pl 4) 4) h14) (ly_oba (ly_obI (x := nt_I M (pl 14) 0) h15) (ly_oba (ly_obI (x := nt_I M (pl 14) 212) h16) (ly_oba (ly_obI (x := nt_I M (pl 14) 424) h17) (ly_oba (ly_obI (x := nt_I M (pl 14) 636) h18) (ly_oba (ly_obI (x := nt_I M (pl 14) 4) h19) (ly_oba (ly_obI (x := nt_I M (pl 14) 216) h20) (ly_oba (ly_obI (x := nt_I M (pl 14) 428) h21) (ly_oba (ly_obI (x := nt_I M (pl 14) 640) h22) (ly_oba (ly_ob1 (by rw [h23]; exact hb23)) (ly_oba (ly_obI h24) (ly_oba (ly_obI h25) (ly_obI h26))))))))))))))))) (fun q hq => by rw [List.mem_singleton.mp hq]; show (0 : Int) ≤ 0 + ((-1) * r 23 + (1 * r 24 + (0))); rw [h23, h24]; have := hc0; omega)
  obtain ⟨p, hp, r', h2, h3⟩ := lw_app (ko_wd_aheadH X) rfl hd hon (vs := [.ref (pl 0), .int ru, .int b0, .int b1]) ⟨rfl, ⟨ru, rfl, (ly_e1 h24).symm⟩, ⟨b0, rfl, (ly_e1 h25).symm⟩, ⟨b1, rfl, (ly_e1 h26).symm⟩, trivial⟩ k
  have hr' : ∀ s, s < 27 → r' s = r s := fun s hs => h3.2.2.2.2.2.1 s hs
  obtain ⟨ov, M'⟩ := o
  rw [List.mem_singleton.mp hp] at h2 h3
  cases ov with
  | none => exact h2.elim
  | some w =>
    obtain ⟨y, rfl, hy⟩ := h2
    have hy : y.toInt = 0 + (1 * r' 27 + (0)) := hy
    have e0 : (nt_I M' (pl 31) 1).toInt = 0 + (1 * r' 11 + (0)) := lw_rd (g := 31) (j := 1) h3.2.2.1 (List.mem_of_getElem? (i := 0) rfl) (by decide)
    have e1 : (nt_I M' (pl 31) 2).toInt = 0 + (1 * r' 12 + (0)) := lw_rd (g := 31) (j := 2) h3.2.2.1 (List.mem_of_getElem? (i := 1) rfl) (by decide)
    have e2 : (nt_I M' (pl 4) 0).toInt = 0 + (1 * r' 13 + (0)) := lw_rd (g := 4) (j := 0) h3.2.2.1 (List.mem_of_getElem? (i := 2) rfl) (by decide)
    have e3 : (nt_I M' (pl 4) 4).toInt = 0 + (1 * r' 14 + (0)) := lw_rd (g := 4) (j := 4) h3.2.2.1 (List.mem_of_getElem? (i := 3) rfl) (by decide)
    have e4 : (nt_I M' (pl 14) 0).toInt = 0 + (1 * r' 15 + (0)) := lw_rd (g := 14) (j := 0) h3.2.2.1 (List.mem_of_getElem? (i := 4) rfl) (by decide)
    have e5 : (nt_I M' (pl 14) 212).toInt = 0 + (1 * r' 16 + (0)) := lw_rd (g := 14) (j := 212) h3.2.2.1 (List.mem_of_getElem? (i := 5) rfl) (by decide)
    have e6 : (nt_I M' (pl 14) 424).toInt = 0 + (1 * r' 17 + (0)) := lw_rd (g := 14) (j := 424) h3.2.2.1 (List.mem_of_getElem? (i := 6) rfl) (by decide)
    have e7 : (nt_I M' (pl 14) 636).toInt = 0 + (1 * r' 18 + (0)) := lw_rd (g := 14) (j := 636) h3.2.2.1 (List.mem_of_getElem? (i := 7) rfl) (by decide)
    have e8 : (nt_I M' (pl 14) 4).toInt = 0 + (1 * r' 19 + (0)) := lw_rd (g := 14) (j := 4) h3.2.2.1 (List.mem_of_getElem? (i := 8) rfl) (by decide)
    have e9 : (nt_I M' (pl 14) 216).toInt = 0 + (1 * r' 20 + (0)) := lw_rd (g := 14) (j := 216) h3.2.2.1 (List.mem_of_getElem? (i := 9) rfl) (by decide)
    have e10 : (nt_I M' (pl 14) 428).toInt = 0 + (1 * r' 21 + (0)) := lw_rd (g := 14) (j := 428) h3.2.2.1 (List.mem_of_getElem? (i := 10) rfl) (by decide)
    have e11 : (nt_I M' (pl 14) 640).toInt = 0 + (1 * r' 22 + (0)) := lw_rd (g := 14) (j := 640) h3.2.2.1 (List.mem_of_getElem? (i := 11) rfl) (by decide)
    have g11 := hr' 11 (by omega)
    rw [h11] at g11
    have g12 := hr' 12 (by omega)
    rw [h12] at g12
    have g13 := hr' 13 (by omega)
    rw [h13] at g13
    have g14 := hr' 14 (by omega)
    rw [h14] at g14
    have g15 := hr' 15 (by omega)
    rw [h15] at g15
    have g16 := hr' 16 (by omega)
    rw [h16] at g16
    have g17 := hr' 17 (by omega)
    rw [h17] at g17
    have g18 := hr' 18 (by omega)
    rw [h18] at g18
    have g19 := hr' 19 (by omega)
    rw [h19] at g19
    have g20 := hr' 20 (by omega)
    rw [h20] at g20
    have g21 := hr' 21 (by omega)
    rw [h21] at g21
    have g22 := hr' 22 (by omega)
    rw [h22] at g22
    exact ⟨y, M', rfl, ⟨e0.trans (lw_s g11), e1.trans (lw_s g12), e2.trans (lw_s g13), e3.trans (lw_s g14), e4.trans (lw_s g15), e5.trans (lw_s g16), e6.trans (lw_s g17), e7.trans (lw_s g18), e8.trans (lw_s g19), e9.trans (lw_s g20), e10.trans (lw_s g21), e11.trans (lw_s g22)⟩⟩
theorem lwd_aheadR {X : nt_X} {pl : Nat → Nat} {v : Nat → Int} {M : nt_M} {d : Nat} {o : Option Value × nt_M} {b0 b1 ru : Int32} (hd : 9 ≤ d) (hB : ly_B pl v M) (hb11 : (0 : Int) ≤ (nt_I M (pl 31) 1).toInt ∧ (nt_I M (pl 31) 1).toInt ≤ 1) (hb13 : (0 : Int) ≤ (nt_I M (pl 4) 0).toInt ∧ (nt_I M (pl 4) 0).toInt ≤ 4) (hb23 : (0 : Int) ≤ (nt_I M (pl 0) 2).toInt ∧ (nt_I M (pl 0) 2).toInt ≤ 6) (hb24 : (0 : Int) ≤ ru.toInt ∧ ru.toInt ≤ 5) (hc0 : (0 : Int) ≤ -1 + (nt_I M (pl 0) 2).toInt + (-1) * ru.toInt) (k : nt_ev X d 226 [.ref (pl 0), .int ru, .int b0, .int b1] M o) : ∃ (y : Int32) (M' : nt_M), o = (some (.int y), M') ∧ (((nt_I M' (pl 31) 1).toInt = (nt_I M (pl 31) 1).toInt ∧ (nt_I M' (pl 31) 2).toInt = (nt_I M (pl 31) 2).toInt ∧ (nt_I M' (pl 4) 0).toInt = (nt_I M (pl 4) 0).toInt ∧ (nt_I M' (pl 4) 4).toInt = (nt_I M (pl 4) 4).toInt ∧ (nt_I M' (pl 14) 0).toInt = (nt_I M (pl 14) 0).toInt ∧ (nt_I M' (pl 14) 212).toInt = (nt_I M (pl 14) 212).toInt ∧ (nt_I M' (pl 14) 424).toInt = (nt_I M (pl 14) 424).toInt ∧ (nt_I M' (pl 14) 636).toInt = (nt_I M (pl 14) 636).toInt ∧ (nt_I M' (pl 14) 4).toInt = (nt_I M (pl 14) 4).toInt ∧ (nt_I M' (pl 14) 216).toInt = (nt_I M (pl 14) 216).toInt ∧ (nt_I M' (pl 14) 428).toInt = (nt_I M (pl 14) 428).toInt ∧ (nt_I M' (pl 14) 640).toInt = (nt_I M (pl 14) 640).toInt)) := by
  obtain ⟨r, hr, h11, h12, h13, h14, h15, h16, h17, h18, h19, h20, h21, h22, h23, h24, h25, h26⟩ : ∃ r : Nat → Int, (∀ s, s < 11 → r s = v s) ∧ r 11 = (nt_I M (pl 31) 1).toInt ∧ r 12 = (nt_I M (pl 31) 2).toInt ∧ r 13 = (nt_I M (pl 4) 0).toInt ∧ r 14 = (nt_I M (pl 4) 4).toInt ∧ r 15 = (nt_I M (pl 14) 0).toInt ∧ r 16 = (nt_I M (pl 14) 212).toInt ∧ r 17 = (nt_I M (pl 14) 424).toInt ∧ r 18 = (nt_I M (pl 14) 636).toInt ∧ r 19 = (nt_I M (pl 14) 4).toInt ∧ r 20 = (nt_I M (pl 14) 216).toInt ∧ r 21 = (nt_I M (pl 14) 428).toInt ∧ r 22 = (nt_I M (pl 14) 640).toInt ∧ r 23 = (nt_I M (pl 0) 2).toInt ∧ r 24 = ru.toInt ∧ r 25 = b0.toInt ∧ r 26 = b1.toInt := ⟨fun s => if s = 11 then (nt_I M (pl 31) 1).toInt else if s = 12 then (nt_I M (pl 31) 2).toInt else if s = 13 then (nt_I M (pl 4) 0).toInt else if s = 14 then (nt_I M (pl 4) 4).toInt else if s = 15 then (nt_I M (pl 14) 0).toInt else if s = 16 then (nt_I M (pl 14) 212).toInt else if s = 17 then (nt_I M (pl 14) 424).toInt else if s = 18 then (nt_I M (pl 14) 636).toInt else if s = 19 then (nt_I M (pl 14) 4).toInt else if s = 20 then (nt_I M (pl 14) 216).toInt else if s = 21 then (nt_I M (pl 14) 428).toInt else if s = 22 then (nt_I M (pl 14) 640).toInt else if s = 23 then (nt_I M (pl 0) 2).toInt else if s = 24 then ru.toInt else if s = 25 then b0.toInt else if s = 26 then b1.toInt else v s, fun s hs => by dsimp only; rw [if_neg (by omega), if_neg (by omega), if_neg (by omega), if_neg (by omega), if_neg (by omega), if_neg (by omega), if_neg (by omega), if_neg (by omega), if_neg (by omega), if_neg (by omega), if_neg (by omega), if_neg (by omega), if_neg (by omega), if_neg (by omega), if_neg (by omega), if_neg (by omega)], rfl, rfl, rfl, rfl, rfl, rfl, rfl, rfl, rfl, rfl, rfl, rfl, rfl, rfl, rfl, rfl⟩
  have hij := ly_ij (K := kk_wd_aheadR) rfl hB
  have hon := ly_app (K := kk_wd_aheadR) (ed := []) (ec := [((31, (1, [])), (0, [(11, 1)])), ((31, (2, [])), (0, [(12, 1)])), ((4, (0, [])), (0, [(13, 1)])), ((4, (4, [])), (0, [(14, 1)])), ((14, (0, [])), (0, [(15, 1)])), ((14, (212, [])), (0, [(16, 1)])), ((14, (424, [])), (0, [(17, 1)])), ((14, (636, [])), (0, [(18, 1)])), ((14, (4, [])), (0, [(19, 1)])), ((14, (216, [])), (0, [(20, 1)])), ((14, (428, [])), (0, [(21, 1)])), ((14, (640, [])), (0, [(22, 1)])), ((0, (2, [])), (0, [(23, 1)]))]) (er := []) rfl hB (fun _ _ => rfl) hr hij ly_nil (lw_oiC (g := 31) (j := 1) (by show 31 < 66; decide) (by decide) (by dsimp only; rw [sx_s_e]; exact h11.symm) (lw_oiC (g := 31) (j := 2) (by show 31 < 66; decide) (by decide) (by dsimp only; rw [sx_s_e]; exact h12.symm) (lw_oiC (g := 4) (j := 0) (by show 4 < 66; decide) (by decide) (by dsimp only; rw [sx_s_e]; exact h13.symm) (lw_oiC (g := 4) (j := 4) (by show 4 < 66; decide) (by decide) (by dsimp only; rw [sx_s_e]; exact h14.symm) (lw_oiC (g := 14) (j := 0) (by show 14 < 66; decide) (by decide) (by dsimp only; rw [sx_s_e]; exact h15.symm) (lw_oiC (g := 14) (j := 212) (by show 14 < 66; decide) (by decide) (by dsimp only; rw [sx_s_e]; exact h16.symm) (lw_oiC (g := 14) (j := 424) (by show 14 < 66; decide) (by decide) (by dsimp only; rw [sx_s_e]; exact h17.symm) (lw_oiC (g := 14) (j := 636) (by show 14 < 66; decide) (by decide) (by dsimp only; rw [sx_s_e]; exact h18.symm) (lw_oiC (g := 14) (j := 4) (by show 14 < 66; decide) (by decide) (by dsimp only; rw [sx_s_e]; exact h19.symm) (lw_oiC (g := 14) (j := 216) (by show 14 < 66; decide) (by decide) (by dsimp only; rw [sx_s_e]; exact h20.symm) (lw_oiC (g := 14) (j := 428) (by show 14 < 66; decide) (by decide) (by dsimp only; rw [sx_s_e]; exact h21.symm) (lw_oiC (g := 14) (j := 640) (by show 14 < 66; decide) (by decide) (by dsimp only; rw [sx_s_e]; exact h22.symm) (lw_oiC (g := 0) (j := 2) (by show 0 < 66; decide) (by decide) (by dsimp only; rw [sx_s_e]; exact h23.symm) (lw_oiN)))))))))))))) (fun q hq => by cases hq) (ly_oba (ly_obr hr (ly_ob hB)) (ly_oba (ly_ob1 (by rw [h11]; exact hb11)) (ly_oba (ly_obI (x := nt_I M (pl 31) 2) h12) (ly_oba (ly_ob1 (by rw [h13]; exact hb13)) (ly_oba (ly_obI (x := nt_I M (pl 4) 4) h14) (ly_oba (ly_obI (x := nt_I M (pl 14) 0) h15) (ly_oba (ly_obI (x := nt_I M (pl 14) 212) h16) (ly_oba (ly_obI (x := nt_I M (pl 14) 424) h17) (ly_oba (ly_obI (x := nt_I M (pl 14) 636) h18) (ly_oba (ly_obI (x := nt_I M (pl 14) 4) h19) (ly_oba (ly_obI (x := nt_I M (pl 14) 216) h20) (ly_oba (ly_obI (x := nt_I M (pl 14) 428) h21) (ly_oba (ly_obI (x := nt_I M (pl 14) 640) h22) (ly_oba (ly_ob1 (by rw [h23]; exact hb23)) (ly_oba (ly_ob1 (by rw [h24]; exact hb24)) (ly_oba (ly_obI h25) (ly_obI h26))))))))))))))))) (fun q hq => by rw [List.mem_singleton.mp hq]; show (0 : Int) ≤ (-1) + (1 * r 23 + ((-1) * r 24 + (0))); rw [h23, h24]; have := hc0; omega)
  obtain ⟨p, hp, r', h2, h3⟩ := lw_app (ko_wd_aheadR X) rfl hd hon (vs := [.ref (pl 0), .int ru, .int b0, .int b1]) ⟨rfl, ⟨ru, rfl, (ly_e1 h24).symm⟩, ⟨b0, rfl, (ly_e1 h25).symm⟩, ⟨b1, rfl, (ly_e1 h26).symm⟩, trivial⟩ k
  have hr' : ∀ s, s < 27 → r' s = r s := fun s hs => h3.2.2.2.2.2.1 s hs
  obtain ⟨ov, M'⟩ := o
  rw [List.mem_singleton.mp hp] at h2 h3
  cases ov with
  | none => exact h2.elim
  | some w =>
    obtain ⟨y, rfl, hy⟩ := h2
    have hy : y.toInt = 0 + (1 * r' 27 + (0)) := hy
    have e0 : (nt_I M' (pl 31) 1).toInt = 0 + (1 * r' 11 + (0)) := lw_rd (g := 31) (j := 1) h3.2.2.1 (List.mem_of_getElem? (i := 0) rfl) (by decide)
    have e1 : (nt_I M' (pl 31) 2).toInt = 0 + (1 * r' 12 + (0)) := lw_rd (g := 31) (j := 2) h3.2.2.1 (List.mem_of_getElem? (i := 1) rfl) (by decide)
    have e2 : (nt_I M' (pl 4) 0).toInt = 0 + (1 * r' 13 + (0)) := lw_rd (g := 4) (j := 0) h3.2.2.1 (List.mem_of_getElem? (i := 2) rfl) (by decide)
    have e3 : (nt_I M' (pl 4) 4).toInt = 0 + (1 * r' 14 + (0)) := lw_rd (g := 4) (j := 4) h3.2.2.1 (List.mem_of_getElem? (i := 3) rfl) (by decide)
    have e4 : (nt_I M' (pl 14) 0).toInt = 0 + (1 * r' 15 + (0)) := lw_rd (g := 14) (j := 0) h3.2.2.1 (List.mem_of_getElem? (i := 4) rfl) (by decide)
    have e5 : (nt_I M' (pl 14) 212).toInt = 0 + (1 * r' 16 + (0)) := lw_rd (g := 14) (j := 212) h3.2.2.1 (List.mem_of_getElem? (i := 5) rfl) (by decide)
    have e6 : (nt_I M' (pl 14) 424).toInt = 0 + (1 * r' 17 + (0)) := lw_rd (g := 14) (j := 424) h3.2.2.1 (List.mem_of_getElem? (i := 6) rfl) (by decide)
    have e7 : (nt_I M' (pl 14) 636).toInt = 0 + (1 * r' 18 + (0)) := lw_rd (g := 14) (j := 636) h3.2.2.1 (List.mem_of_getElem? (i := 7) rfl) (by decide)
    have e8 : (nt_I M' (pl 14) 4).toInt = 0 + (1 * r' 19 + (0)) := lw_rd (g := 14) (j := 4) h3.2.2.1 (List.mem_of_getElem? (i := 8) rfl) (by decide)
    have e9 : (nt_I M' (pl 14) 216).toInt = 0 + (1 * r' 20 + (0)) := lw_rd (g := 14) (j := 216) h3.2.2.1 (List.mem_of_getElem? (i := 9) rfl) (by decide)
    have e10 : (nt_I M' (pl 14) 428).toInt = 0 + (1 * r' 21 + (0)) := lw_rd (g := 14) (j := 428) h3.2.2.1 (List.mem_of_getElem? (i := 10) rfl) (by decide)
    have e11 : (nt_I M' (pl 14) 640).toInt = 0 + (1 * r' 22 + (0)) := lw_rd (g := 14) (j := 640) h3.2.2.1 (List.mem_of_getElem? (i := 11) rfl) (by decide)
    have g11 := hr' 11 (by omega)
    rw [h11] at g11
    have g12 := hr' 12 (by omega)
    rw [h12] at g12
    have g13 := hr' 13 (by omega)
    rw [h13] at g13
    have g14 := hr' 14 (by omega)
    rw [h14] at g14
    have g15 := hr' 15 (by omega)
    rw [h15] at g15
    have g16 := hr' 16 (by omega)
    rw [h16] at g16
    have g17 := hr' 17 (by omega)
    rw [h17] at g17
    have g18 := hr' 18 (by omega)
    rw [h18] at g18
    have g19 := hr' 19 (by omega)
    rw [h19] at g19
    have g20 := hr' 20 (by omega)
    rw [h20] at g20
    have g21 := hr' 21 (by omega)
    rw [h21] at g21
    have g22 := hr' 22 (by omega)
    rw [h22] at g22
    exact ⟨y, M', rfl, ⟨e0.trans (lw_s g11), e1.trans (lw_s g12), e2.trans (lw_s g13), e3.trans (lw_s g14), e4.trans (lw_s g15), e5.trans (lw_s g16), e6.trans (lw_s g17), e7.trans (lw_s g18), e8.trans (lw_s g19), e9.trans (lw_s g20), e10.trans (lw_s g21), e11.trans (lw_s g22)⟩⟩
theorem lwd_n_aheadN {X : nt_X} {pl : Nat → Nat} {v : Nat → Int} {M : nt_M} {d : Nat} {o : Option Value × nt_M} {b0 b1 : Int32} (hd : 5 ≤ d) (hB : ly_B pl v M) (hb11 : (0 : Int) ≤ (nt_I M (pl 31) 1).toInt ∧ (nt_I M (pl 31) 1).toInt ≤ 1) (hb13 : (0 : Int) ≤ (nt_I M (pl 4) 0).toInt ∧ (nt_I M (pl 4) 0).toInt ≤ 4) (k : nt_ev X d 123 [.ref (pl 16), .int (Int32.ofInt (-1)), .int b0, .int b1] M o) : ∃ (y : Int32) (M' : nt_M), o = (some (.int y), M') ∧ (((nt_I M' (pl 31) 1).toInt = (nt_I M (pl 31) 1).toInt ∧ (nt_I M' (pl 31) 2).toInt = (nt_I M (pl 31) 2).toInt ∧ (nt_I M' (pl 4) 0).toInt = (nt_I M (pl 4) 0).toInt ∧ (nt_I M' (pl 4) 4).toInt = (nt_I M (pl 4) 4).toInt ∧ (nt_I M' (pl 14) 0).toInt = (nt_I M (pl 14) 0).toInt ∧ (nt_I M' (pl 14) 212).toInt = (nt_I M (pl 14) 212).toInt ∧ (nt_I M' (pl 14) 424).toInt = (nt_I M (pl 14) 424).toInt ∧ (nt_I M' (pl 14) 636).toInt = (nt_I M (pl 14) 636).toInt ∧ (nt_I M' (pl 14) 4).toInt = (nt_I M (pl 14) 4).toInt ∧ (nt_I M' (pl 14) 216).toInt = (nt_I M (pl 14) 216).toInt ∧ (nt_I M' (pl 14) 428).toInt = (nt_I M (pl 14) 428).toInt ∧ (nt_I M' (pl 14) 640).toInt = (nt_I M (pl 14) 640).toInt)) := by
  obtain ⟨r, hr, h11, h12, h13, h14, h15, h16, h17, h18, h19, h20, h21, h22, h23, h24⟩ : ∃ r : Nat → Int, (∀ s, s < 11 → r s = v s) ∧ r 11 = (nt_I M (pl 31) 1).toInt ∧ r 12 = (nt_I M (pl 31) 2).toInt ∧ r 13 = (nt_I M (pl 4) 0).toInt ∧ r 14 = (nt_I M (pl 4) 4).toInt ∧ r 15 = (nt_I M (pl 14) 0).toInt ∧ r 16 = (nt_I M (pl 14) 212).toInt ∧ r 17 = (nt_I M (pl 14) 424).toInt ∧ r 18 = (nt_I M (pl 14) 636).toInt ∧ r 19 = (nt_I M (pl 14) 4).toInt ∧ r 20 = (nt_I M (pl 14) 216).toInt ∧ r 21 = (nt_I M (pl 14) 428).toInt ∧ r 22 = (nt_I M (pl 14) 640).toInt ∧ r 23 = b0.toInt ∧ r 24 = b1.toInt := ⟨fun s => if s = 11 then (nt_I M (pl 31) 1).toInt else if s = 12 then (nt_I M (pl 31) 2).toInt else if s = 13 then (nt_I M (pl 4) 0).toInt else if s = 14 then (nt_I M (pl 4) 4).toInt else if s = 15 then (nt_I M (pl 14) 0).toInt else if s = 16 then (nt_I M (pl 14) 212).toInt else if s = 17 then (nt_I M (pl 14) 424).toInt else if s = 18 then (nt_I M (pl 14) 636).toInt else if s = 19 then (nt_I M (pl 14) 4).toInt else if s = 20 then (nt_I M (pl 14) 216).toInt else if s = 21 then (nt_I M (pl 14) 428).toInt else if s = 22 then (nt_I M (pl 14) 640).toInt else if s = 23 then b0.toInt else if s = 24 then b1.toInt else v s, fun s hs => by dsimp only; rw [if_neg (by omega), if_neg (by omega), if_neg (by omega), if_neg (by omega), if_neg (by omega), if_neg (by omega), if_neg (by omega), if_neg (by omega), if_neg (by omega), if_neg (by omega), if_neg (by omega), if_neg (by omega), if_neg (by omega), if_neg (by omega)], rfl, rfl, rfl, rfl, rfl, rfl, rfl, rfl, rfl, rfl, rfl, rfl, rfl, rfl⟩
  have hij := ly_ij (K := kk_wd_n_aheadN) rfl hB
  have hon := ly_app (K := kk_wd_n_aheadN) (ed := []) (ec := [((31, (1, [])), (0, [(11, 1)])), ((31, (2, [])), (0, [(12, 1)])), ((4, (0, [])), (0, [(13, 1)])), ((4, (4, [])), (0, [(14, 1)])), ((14, (0, [])), (0, [(15, 1)])), ((14, (212, [])), (0, [(16, 1)])), ((14, (424, [])), (0, [(17, 1)])), ((14, (636, [])), (0, [(18, 1)])), ((14, (4, [])), (0, [(19, 1)])), ((14, (216, [])), (0, [(20, 1)])), ((14, (428, [])), (0, [(21, 1)])), ((14, (640, [])), (0, [(22, 1)]))]) (er := []) rfl hB (fun _ _ => rfl) hr hij ly_nil (lw_oiC (g := 31) (j := 1) (by show 31 < 66; decide) (by decide) (by dsimp only; rw [sx_s_e]; exact h11.symm) (lw_oiC (g := 31) (j := 2) (by show 31 < 66; decide) (by decide) (by dsimp only; rw [sx_s_e]; exact h12.symm) (lw_oiC (g := 4) (j := 0) (by show 4 < 66; decide) (by decide) (by dsimp only; rw [sx_s_e]; exact h13.symm) (lw_oiC (g := 4) (j := 4) (by show 4 < 66; decide) (by decide) (by dsimp only; rw [sx_s_e]; exact h14.symm) (lw_oiC (g := 14) (j := 0) (by show 14 < 66; decide) (by decide) (by dsimp only; rw [sx_s_e]; exact h15.symm) (lw_oiC (g := 14) (j := 212) (by show 14 < 66; decide) (by decide) (by dsimp only; rw [sx_s_e]; exact h16.symm) (lw_oiC (g := 14) (j := 424) (by show 14 < 66; decide) (by decide) (by dsimp only; rw [sx_s_e]; exact h17.symm) (lw_oiC (g := 14) (j := 636) (by show 14 < 66; decide) (by decide) (by dsimp only; rw [sx_s_e]; exact h18.symm) (lw_oiC (g := 14) (j := 4) (by show 14 < 66; decide) (by decide) (by dsimp only; rw [sx_s_e]; exact h19.symm) (lw_oiC (g := 14) (j := 216) (by show 14 < 66; decide) (by decide) (by dsimp only; rw [sx_s_e]; exact h20.symm) (lw_oiC (g := 14) (j := 428) (by show 14 < 66; decide) (by decide) (by dsimp only; rw [sx_s_e]; exact h21.symm) (lw_oiC (g := 14) (j := 640) (by show 14 < 66; decide) (by decide) (by dsimp only; rw [sx_s_e]; exact h22.symm) (lw_oiN))))))))))))) (fun q hq => by cases hq) (ly_oba (ly_obr hr (ly_ob hB)) (ly_oba (ly_ob1 (by rw [h11]; exact hb11)) (ly_oba (ly_obI (x := nt_I M (pl 31) 2) h12) (ly_oba (ly_ob1 (by rw [h13]; exact hb13)) (ly_oba (ly_obI (x := nt_I M (pl 4) 4) h14) (ly_oba (ly_obI (x := nt_I M (pl 14) 0) h15) (ly_oba (ly_obI (x := nt_I M (pl 14) 212) h16) (ly_oba (ly_obI (x := nt_I M (pl 14) 424) h17) (ly_oba (ly_obI (x := nt_I M (pl 14) 636) h18) (ly_oba (ly_obI (x := nt_I M (pl 14) 4) h19) (ly_oba (ly_obI (x := nt_I M (pl 14) 216) h20) (ly_oba (ly_obI (x := nt_I M (pl 14) 428) h21) (ly_oba (ly_obI (x := nt_I M (pl 14) 640) h22) (ly_oba (ly_obI h23) (ly_obI h24))))))))))))))) ly_oc0
  obtain ⟨p, hp, r', h2, h3⟩ := lw_app (ko_wd_n_aheadN X) rfl hd hon (vs := [.ref (pl 16), .int (Int32.ofInt (-1)), .int b0, .int b1]) ⟨rfl, ⟨_, rfl, by rw [sx_c_e]; decide⟩, ⟨b0, rfl, (ly_e1 h23).symm⟩, ⟨b1, rfl, (ly_e1 h24).symm⟩, trivial⟩ k
  have hr' : ∀ s, s < 25 → r' s = r s := fun s hs => h3.2.2.2.2.2.1 s hs
  obtain ⟨ov, M'⟩ := o
  rw [List.mem_singleton.mp hp] at h2 h3
  cases ov with
  | none => exact h2.elim
  | some w =>
    obtain ⟨y, rfl, hy⟩ := h2
    have hy : y.toInt = 0 + (1 * r' 25 + (0)) := hy
    have e0 : (nt_I M' (pl 31) 1).toInt = 0 + (1 * r' 11 + (0)) := lw_rd (g := 31) (j := 1) h3.2.2.1 (List.mem_of_getElem? (i := 0) rfl) (by decide)
    have e1 : (nt_I M' (pl 31) 2).toInt = 0 + (1 * r' 12 + (0)) := lw_rd (g := 31) (j := 2) h3.2.2.1 (List.mem_of_getElem? (i := 1) rfl) (by decide)
    have e2 : (nt_I M' (pl 4) 0).toInt = 0 + (1 * r' 13 + (0)) := lw_rd (g := 4) (j := 0) h3.2.2.1 (List.mem_of_getElem? (i := 2) rfl) (by decide)
    have e3 : (nt_I M' (pl 4) 4).toInt = 0 + (1 * r' 14 + (0)) := lw_rd (g := 4) (j := 4) h3.2.2.1 (List.mem_of_getElem? (i := 3) rfl) (by decide)
    have e4 : (nt_I M' (pl 14) 0).toInt = 0 + (1 * r' 15 + (0)) := lw_rd (g := 14) (j := 0) h3.2.2.1 (List.mem_of_getElem? (i := 4) rfl) (by decide)
    have e5 : (nt_I M' (pl 14) 212).toInt = 0 + (1 * r' 16 + (0)) := lw_rd (g := 14) (j := 212) h3.2.2.1 (List.mem_of_getElem? (i := 5) rfl) (by decide)
    have e6 : (nt_I M' (pl 14) 424).toInt = 0 + (1 * r' 17 + (0)) := lw_rd (g := 14) (j := 424) h3.2.2.1 (List.mem_of_getElem? (i := 6) rfl) (by decide)
    have e7 : (nt_I M' (pl 14) 636).toInt = 0 + (1 * r' 18 + (0)) := lw_rd (g := 14) (j := 636) h3.2.2.1 (List.mem_of_getElem? (i := 7) rfl) (by decide)
    have e8 : (nt_I M' (pl 14) 4).toInt = 0 + (1 * r' 19 + (0)) := lw_rd (g := 14) (j := 4) h3.2.2.1 (List.mem_of_getElem? (i := 8) rfl) (by decide)
    have e9 : (nt_I M' (pl 14) 216).toInt = 0 + (1 * r' 20 + (0)) := lw_rd (g := 14) (j := 216) h3.2.2.1 (List.mem_of_getElem? (i := 9) rfl) (by decide)
    have e10 : (nt_I M' (pl 14) 428).toInt = 0 + (1 * r' 21 + (0)) := lw_rd (g := 14) (j := 428) h3.2.2.1 (List.mem_of_getElem? (i := 10) rfl) (by decide)
    have e11 : (nt_I M' (pl 14) 640).toInt = 0 + (1 * r' 22 + (0)) := lw_rd (g := 14) (j := 640) h3.2.2.1 (List.mem_of_getElem? (i := 11) rfl) (by decide)
    have g11 := hr' 11 (by omega)
    rw [h11] at g11
    have g12 := hr' 12 (by omega)
    rw [h12] at g12
    have g13 := hr' 13 (by omega)
    rw [h13] at g13
    have g14 := hr' 14 (by omega)
    rw [h14] at g14
    have g15 := hr' 15 (by omega)
    rw [h15] at g15
    have g16 := hr' 16 (by omega)
    rw [h16] at g16
    have g17 := hr' 17 (by omega)
    rw [h17] at g17
    have g18 := hr' 18 (by omega)
    rw [h18] at g18
    have g19 := hr' 19 (by omega)
    rw [h19] at g19
    have g20 := hr' 20 (by omega)
    rw [h20] at g20
    have g21 := hr' 21 (by omega)
    rw [h21] at g21
    have g22 := hr' 22 (by omega)
    rw [h22] at g22
    exact ⟨y, M', rfl, ⟨e0.trans (lw_s g11), e1.trans (lw_s g12), e2.trans (lw_s g13), e3.trans (lw_s g14), e4.trans (lw_s g15), e5.trans (lw_s g16), e6.trans (lw_s g17), e7.trans (lw_s g18), e8.trans (lw_s g19), e9.trans (lw_s g20), e10.trans (lw_s g21), e11.trans (lw_s g22)⟩⟩
theorem lwd_n_aheadL {X : nt_X} {pl : Nat → Nat} {v : Nat → Int} {M : nt_M} {d : Nat} {o : Option Value × nt_M} {b0 b1 ru : Int32} (hd : 1 ≤ d) (hB : ly_B pl v M) (hb11 : (0 : Int) ≤ (nt_I M (pl 31) 1).toInt ∧ (nt_I M (pl 31) 1).toInt ≤ 1) (hb13 : (0 : Int) ≤ (nt_I M (pl 4) 0).toInt ∧ (nt_I M (pl 4) 0).toInt ≤ 4) (hb23 : (-2147483648 : Int) ≤ ru.toInt ∧ ru.toInt ≤ -2) (k : nt_ev X d 123 [.ref (pl 16), .int ru, .int b0, .int b1] M o) : ∃ (y : Int32) (M' : nt_M), o = (some (.int y), M') ∧ (((nt_I M' (pl 31) 1).toInt = (nt_I M (pl 31) 1).toInt ∧ (nt_I M' (pl 31) 2).toInt = (nt_I M (pl 31) 2).toInt ∧ (nt_I M' (pl 4) 0).toInt = (nt_I M (pl 4) 0).toInt ∧ (nt_I M' (pl 4) 4).toInt = (nt_I M (pl 4) 4).toInt ∧ (nt_I M' (pl 14) 0).toInt = (nt_I M (pl 14) 0).toInt ∧ (nt_I M' (pl 14) 212).toInt = (nt_I M (pl 14) 212).toInt ∧ (nt_I M' (pl 14) 424).toInt = (nt_I M (pl 14) 424).toInt ∧ (nt_I M' (pl 14) 636).toInt = (nt_I M (pl 14) 636).toInt ∧ (nt_I M' (pl 14) 4).toInt = (nt_I M (pl 14) 4).toInt ∧ (nt_I M' (pl 14) 216).toInt = (nt_I M (pl 14) 216).toInt ∧ (nt_I M' (pl 14) 428).toInt = (nt_I M (pl 14) 428).toInt ∧ (nt_I M' (pl 14) 640).toInt = (nt_I M (pl 14) 640).toInt)) := by
  obtain ⟨r, hr, h11, h12, h13, h14, h15, h16, h17, h18, h19, h20, h21, h22, h23, h24, h25⟩ : ∃ r : Nat → Int, (∀ s, s < 11 → r s = v s) ∧ r 11 = (nt_I M (pl 31) 1).toInt ∧ r 12 = (nt_I M (pl 31) 2).toInt ∧ r 13 = (nt_I M (pl 4) 0).toInt ∧ r 14 = (nt_I M (pl 4) 4).toInt ∧ r 15 = (nt_I M (pl 14) 0).toInt ∧ r 16 = (nt_I M (pl 14) 212).toInt ∧ r 17 = (nt_I M (pl 14) 424).toInt ∧ r 18 = (nt_I M (pl 14) 636).toInt ∧ r 19 = (nt_I M (pl 14) 4).toInt ∧ r 20 = (nt_I M (pl 14) 216).toInt ∧ r 21 = (nt_I M (pl 14) 428).toInt ∧ r 22 = (nt_I M (pl 14) 640).toInt ∧ r 23 = ru.toInt ∧ r 24 = b0.toInt ∧ r 25 = b1.toInt := ⟨fun s => if s = 11 then (nt_I M (pl 31) 1).toInt else if s = 12 then (nt_I M (pl 31) 2).toInt else if s = 13 then (nt_I M (pl 4) 0).toInt else if s = 14 then (nt_I M (pl 4) 4).toInt else if s = 15 then (nt_I M (pl 14) 0).toInt else if s = 16 then (nt_I M (pl 14) 212).toInt else if s = 17 then (nt_I M (pl 14) 424).toInt else if s = 18 then (nt_I M (pl 14) 636).toInt else if s = 19 then (nt_I M (pl 14) 4).toInt else if s = 20 then (nt_I M (pl 14) 216).toInt else if s = 21 then (nt_I M (pl 14) 428).toInt else if s = 22 then (nt_I M (pl 14) 640).toInt else if s = 23 then ru.toInt else if s = 24 then b0.toInt else if s = 25 then b1.toInt else v s, fun s hs => by dsimp only; rw [if_neg (by omega), if_neg (by omega), if_neg (by omega), if_neg (by omega), if_neg (by omega), if_neg (by omega), if_neg (by omega), if_neg (by omega), if_neg (by omega), if_neg (by omega), if_neg (by omega), if_neg (by omega), if_neg (by omega), if_neg (by omega), if_neg (by omega)], rfl, rfl, rfl, rfl, rfl, rfl, rfl, rfl, rfl, rfl, rfl, rfl, rfl, rfl, rfl⟩
  have hij := ly_ij (K := kk_wd_n_aheadL) rfl hB
  have hon := ly_app (K := kk_wd_n_aheadL) (ed := []) (ec := [((31, (1, [])), (0, [(11, 1)])), ((31, (2, [])), (0, [(12, 1)])), ((4, (0, [])), (0, [(13, 1)])), ((4, (4, [])), (0, [(14, 1)])), ((14, (0, [])), (0, [(15, 1)])), ((14, (212, [])), (0, [(16, 1)])), ((14, (424, [])), (0, [(17, 1)])), ((14, (636, [])), (0, [(18, 1)])), ((14, (4, [])), (0, [(19, 1)])), ((14, (216, [])), (0, [(20, 1)])), ((14, (428, [])), (0, [(21, 1)])), ((14, (640, [])), (0, [(22, 1)]))]) (er := []) rfl hB (fun _ _ => rfl) hr hij ly_nil (lw_oiC (g := 31) (j := 1) (by show 31 < 66; decide) (by decide) (by dsimp only; rw [sx_s_e]; exact h11.symm) (lw_oiC (g := 31) (j := 2) (by show 31 < 66; decide) (by decide) (by dsimp only; rw [sx_s_e]; exact h12.symm) (lw_oiC (g := 4) (j := 0) (by show 4 < 66; decide) (by decide) (by dsimp only; rw [sx_s_e]; exact h13.symm) (lw_oiC (g := 4) (j := 4) (by show 4 < 66; decide) (by decide) (by dsimp only; rw [sx_s_e]; exact h14.symm) (lw_oiC (g := 14) (j := 0) (by show 14 < 66; decide) (by decide) (by dsimp only; rw [sx_s_e]; exact h15.symm) (lw_oiC (g := 14) (j := 212) (by show 14 < 66; decide) (by decide) (by dsimp only; rw [sx_s_e]; exact h16.symm) (lw_oiC (g := 14) (j := 424) (by show 14 < 66; decide) (by decide) (by dsimp only; rw [sx_s_e]; exact h17.symm) (lw_oiC (g := 14) (j := 636) (by show 14 < 66; decide) (by decide) (by dsimp only; rw [sx_s_e]; exact h18.symm) (lw_oiC (g := 14) (j := 4) (by show 14 < 66; decide) (by decide) (by dsimp only; rw [sx_s_e]; exact h19.symm) (lw_oiC (g := 14) (j := 216) (by show 14 < 66; decide) (by decide) (by dsimp only; rw [sx_s_e]; exact h20.symm) (lw_oiC (g := 14) (j := 428) (by show 14 < 66; decide) (by decide) (by dsimp only; rw [sx_s_e]; exact h21.symm) (lw_oiC (g := 14) (j := 640) (by show 14 < 66; decide) (by decide) (by dsimp only; rw [sx_s_e]; exact h22.symm) (lw_oiN))))))))))))) (fun q hq => by cases hq) (ly_oba (ly_obr hr (ly_ob hB)) (ly_oba (ly_ob1 (by rw [h11]; exact hb11)) (ly_oba (ly_obI (x := nt_I M (pl 31) 2) h12) (ly_oba (ly_ob1 (by rw [h13]; exact hb13)) (ly_oba (ly_obI (x := nt_I M (pl 4) 4) h14) (ly_oba (ly_obI (x := nt_I M (pl 14) 0) h15) (ly_oba (ly_obI (x := nt_I M (pl 14) 212) h16) (ly_oba (ly_obI (x := nt_I M (pl 14) 424) h17) (ly_oba (ly_obI (x := nt_I M (pl 14) 636) h18) (ly_oba (ly_obI (x := nt_I M (pl 14) 4) h19) (ly_oba (ly_obI (x := nt_I M (pl 14) 216) h20) (ly_oba (ly_obI (x := nt_I M (pl 14) 428) h21) (ly_oba (ly_obI (x := nt_I M (pl 14) 640) h22) (ly_oba (ly_ob1 (by rw [h23]; exact hb23)) (ly_oba (ly_obI h24) (ly_obI h25)))))))))))))))) ly_oc0
  obtain ⟨p, hp, r', h2, h3⟩ := lw_app (ko_wd_n_aheadL X) rfl hd hon (vs := [.ref (pl 16), .int ru, .int b0, .int b1]) ⟨rfl, ⟨ru, rfl, (ly_e1 h23).symm⟩, ⟨b0, rfl, (ly_e1 h24).symm⟩, ⟨b1, rfl, (ly_e1 h25).symm⟩, trivial⟩ k
  have hr' : ∀ s, s < 26 → r' s = r s := fun s hs => h3.2.2.2.2.2.1 s hs
  obtain ⟨ov, M'⟩ := o
  rw [List.mem_singleton.mp hp] at h2 h3
  cases ov with
  | none => exact h2.elim
  | some w =>
    obtain ⟨y, rfl, hy⟩ := h2
    have hy : y.toInt = 0 + (1 * r' 26 + (0)) := hy
    have e0 : (nt_I M' (pl 31) 1).toInt = 0 + (1 * r' 11 + (0)) := lw_rd (g := 31) (j := 1) h3.2.2.1 (List.mem_of_getElem? (i := 0) rfl) (by decide)
    have e1 : (nt_I M' (pl 31) 2).toInt = 0 + (1 * r' 12 + (0)) := lw_rd (g := 31) (j := 2) h3.2.2.1 (List.mem_of_getElem? (i := 1) rfl) (by decide)
    have e2 : (nt_I M' (pl 4) 0).toInt = 0 + (1 * r' 13 + (0)) := lw_rd (g := 4) (j := 0) h3.2.2.1 (List.mem_of_getElem? (i := 2) rfl) (by decide)
    have e3 : (nt_I M' (pl 4) 4).toInt = 0 + (1 * r' 14 + (0)) := lw_rd (g := 4) (j := 4) h3.2.2.1 (List.mem_of_getElem? (i := 3) rfl) (by decide)
    have e4 : (nt_I M' (pl 14) 0).toInt = 0 + (1 * r' 15 + (0)) := lw_rd (g := 14) (j := 0) h3.2.2.1 (List.mem_of_getElem? (i := 4) rfl) (by decide)
    have e5 : (nt_I M' (pl 14) 212).toInt = 0 + (1 * r' 16 + (0)) := lw_rd (g := 14) (j := 212) h3.2.2.1 (List.mem_of_getElem? (i := 5) rfl) (by decide)
    have e6 : (nt_I M' (pl 14) 424).toInt = 0 + (1 * r' 17 + (0)) := lw_rd (g := 14) (j := 424) h3.2.2.1 (List.mem_of_getElem? (i := 6) rfl) (by decide)
    have e7 : (nt_I M' (pl 14) 636).toInt = 0 + (1 * r' 18 + (0)) := lw_rd (g := 14) (j := 636) h3.2.2.1 (List.mem_of_getElem? (i := 7) rfl) (by decide)
    have e8 : (nt_I M' (pl 14) 4).toInt = 0 + (1 * r' 19 + (0)) := lw_rd (g := 14) (j := 4) h3.2.2.1 (List.mem_of_getElem? (i := 8) rfl) (by decide)
    have e9 : (nt_I M' (pl 14) 216).toInt = 0 + (1 * r' 20 + (0)) := lw_rd (g := 14) (j := 216) h3.2.2.1 (List.mem_of_getElem? (i := 9) rfl) (by decide)
    have e10 : (nt_I M' (pl 14) 428).toInt = 0 + (1 * r' 21 + (0)) := lw_rd (g := 14) (j := 428) h3.2.2.1 (List.mem_of_getElem? (i := 10) rfl) (by decide)
    have e11 : (nt_I M' (pl 14) 640).toInt = 0 + (1 * r' 22 + (0)) := lw_rd (g := 14) (j := 640) h3.2.2.1 (List.mem_of_getElem? (i := 11) rfl) (by decide)
    have g11 := hr' 11 (by omega)
    rw [h11] at g11
    have g12 := hr' 12 (by omega)
    rw [h12] at g12
    have g13 := hr' 13 (by omega)
    rw [h13] at g13
    have g14 := hr' 14 (by omega)
    rw [h14] at g14
    have g15 := hr' 15 (by omega)
    rw [h15] at g15
    have g16 := hr' 16 (by omega)
    rw [h16] at g16
    have g17 := hr' 17 (by omega)
    rw [h17] at g17
    have g18 := hr' 18 (by omega)
    rw [h18] at g18
    have g19 := hr' 19 (by omega)
    rw [h19] at g19
    have g20 := hr' 20 (by omega)
    rw [h20] at g20
    have g21 := hr' 21 (by omega)
    rw [h21] at g21
    have g22 := hr' 22 (by omega)
    rw [h22] at g22
    exact ⟨y, M', rfl, ⟨e0.trans (lw_s g11), e1.trans (lw_s g12), e2.trans (lw_s g13), e3.trans (lw_s g14), e4.trans (lw_s g15), e5.trans (lw_s g16), e6.trans (lw_s g17), e7.trans (lw_s g18), e8.trans (lw_s g19), e9.trans (lw_s g20), e10.trans (lw_s g21), e11.trans (lw_s g22)⟩⟩
theorem lwd_n_aheadH {X : nt_X} {pl : Nat → Nat} {v : Nat → Int} {M : nt_M} {d : Nat} {o : Option Value × nt_M} {b0 b1 ru : Int32} (hd : 1 ≤ d) (hB : ly_B pl v M) (hb11 : (0 : Int) ≤ (nt_I M (pl 31) 1).toInt ∧ (nt_I M (pl 31) 1).toInt ≤ 1) (hb13 : (0 : Int) ≤ (nt_I M (pl 4) 0).toInt ∧ (nt_I M (pl 4) 0).toInt ≤ 4) (hc0 : (0 : Int) ≤ (-1) * v 2 + ru.toInt) (k : nt_ev X d 123 [.ref (pl 16), .int ru, .int b0, .int b1] M o) : ∃ (y : Int32) (M' : nt_M), o = (some (.int y), M') ∧ (((nt_I M' (pl 31) 1).toInt = (nt_I M (pl 31) 1).toInt ∧ (nt_I M' (pl 31) 2).toInt = (nt_I M (pl 31) 2).toInt ∧ (nt_I M' (pl 4) 0).toInt = (nt_I M (pl 4) 0).toInt ∧ (nt_I M' (pl 4) 4).toInt = (nt_I M (pl 4) 4).toInt ∧ (nt_I M' (pl 14) 0).toInt = (nt_I M (pl 14) 0).toInt ∧ (nt_I M' (pl 14) 212).toInt = (nt_I M (pl 14) 212).toInt ∧ (nt_I M' (pl 14) 424).toInt = (nt_I M (pl 14) 424).toInt ∧ (nt_I M' (pl 14) 636).toInt = (nt_I M (pl 14) 636).toInt ∧ (nt_I M' (pl 14) 4).toInt = (nt_I M (pl 14) 4).toInt ∧ (nt_I M' (pl 14) 216).toInt = (nt_I M (pl 14) 216).toInt ∧ (nt_I M' (pl 14) 428).toInt = (nt_I M (pl 14) 428).toInt ∧ (nt_I M' (pl 14) 640).toInt = (nt_I M (pl 14) 640).toInt)) := by
  obtain ⟨r, hr, h11, h12, h13, h14, h15, h16, h17, h18, h19, h20, h21, h22, h23, h24, h25⟩ : ∃ r : Nat → Int, (∀ s, s < 11 → r s = v s) ∧ r 11 = (nt_I M (pl 31) 1).toInt ∧ r 12 = (nt_I M (pl 31) 2).toInt ∧ r 13 = (nt_I M (pl 4) 0).toInt ∧ r 14 = (nt_I M (pl 4) 4).toInt ∧ r 15 = (nt_I M (pl 14) 0).toInt ∧ r 16 = (nt_I M (pl 14) 212).toInt ∧ r 17 = (nt_I M (pl 14) 424).toInt ∧ r 18 = (nt_I M (pl 14) 636).toInt ∧ r 19 = (nt_I M (pl 14) 4).toInt ∧ r 20 = (nt_I M (pl 14) 216).toInt ∧ r 21 = (nt_I M (pl 14) 428).toInt ∧ r 22 = (nt_I M (pl 14) 640).toInt ∧ r 23 = ru.toInt ∧ r 24 = b0.toInt ∧ r 25 = b1.toInt := ⟨fun s => if s = 11 then (nt_I M (pl 31) 1).toInt else if s = 12 then (nt_I M (pl 31) 2).toInt else if s = 13 then (nt_I M (pl 4) 0).toInt else if s = 14 then (nt_I M (pl 4) 4).toInt else if s = 15 then (nt_I M (pl 14) 0).toInt else if s = 16 then (nt_I M (pl 14) 212).toInt else if s = 17 then (nt_I M (pl 14) 424).toInt else if s = 18 then (nt_I M (pl 14) 636).toInt else if s = 19 then (nt_I M (pl 14) 4).toInt else if s = 20 then (nt_I M (pl 14) 216).toInt else if s = 21 then (nt_I M (pl 14) 428).toInt else if s = 22 then (nt_I M (pl 14) 640).toInt else if s = 23 then ru.toInt else if s = 24 then b0.toInt else if s = 25 then b1.toInt else v s, fun s hs => by dsimp only; rw [if_neg (by omega), if_neg (by omega), if_neg (by omega), if_neg (by omega), if_neg (by omega), if_neg (by omega), if_neg (by omega), if_neg (by omega), if_neg (by omega), if_neg (by omega), if_neg (by omega), if_neg (by omega), if_neg (by omega), if_neg (by omega), if_neg (by omega)], rfl, rfl, rfl, rfl, rfl, rfl, rfl, rfl, rfl, rfl, rfl, rfl, rfl, rfl, rfl⟩
  have hij := ly_ij (K := kk_wd_n_aheadH) rfl hB
  have hon := ly_app (K := kk_wd_n_aheadH) (ed := []) (ec := [((31, (1, [])), (0, [(11, 1)])), ((31, (2, [])), (0, [(12, 1)])), ((4, (0, [])), (0, [(13, 1)])), ((4, (4, [])), (0, [(14, 1)])), ((14, (0, [])), (0, [(15, 1)])), ((14, (212, [])), (0, [(16, 1)])), ((14, (424, [])), (0, [(17, 1)])), ((14, (636, [])), (0, [(18, 1)])), ((14, (4, [])), (0, [(19, 1)])), ((14, (216, [])), (0, [(20, 1)])), ((14, (428, [])), (0, [(21, 1)])), ((14, (640, [])), (0, [(22, 1)]))]) (er := []) rfl hB (fun _ _ => rfl) hr hij ly_nil (lw_oiC (g := 31) (j := 1) (by show 31 < 66; decide) (by decide) (by dsimp only; rw [sx_s_e]; exact h11.symm) (lw_oiC (g := 31) (j := 2) (by show 31 < 66; decide) (by decide) (by dsimp only; rw [sx_s_e]; exact h12.symm) (lw_oiC (g := 4) (j := 0) (by show 4 < 66; decide) (by decide) (by dsimp only; rw [sx_s_e]; exact h13.symm) (lw_oiC (g := 4) (j := 4) (by show 4 < 66; decide) (by decide) (by dsimp only; rw [sx_s_e]; exact h14.symm) (lw_oiC (g := 14) (j := 0) (by show 14 < 66; decide) (by decide) (by dsimp only; rw [sx_s_e]; exact h15.symm) (lw_oiC (g := 14) (j := 212) (by show 14 < 66; decide) (by decide) (by dsimp only; rw [sx_s_e]; exact h16.symm) (lw_oiC (g := 14) (j := 424) (by show 14 < 66; decide) (by decide) (by dsimp only; rw [sx_s_e]; exact h17.symm) (lw_oiC (g := 14) (j := 636) (by show 14 < 66; decide) (by decide) (by dsimp only; rw [sx_s_e]; exact h18.symm) (lw_oiC (g := 14) (j := 4) (by show 14 < 66; decide) (by decide) (by dsimp only; rw [sx_s_e]; exact h19.symm) (lw_oiC (g := 14) (j := 216) (by show 14 < 66; decide) (by decide) (by dsimp only; rw [sx_s_e]; exact h20.symm) (lw_oiC (g := 14) (j := 428) (by show 14 < 66; decide) (by decide) (by dsimp only; rw [sx_s_e]; exact h21.symm) (lw_oiC (g := 14) (j := 640) (by show 14 < 66; decide) (by decide) (by dsimp only; rw [sx_s_e]; exact h22.symm) (lw_oiN))))))))))))) (fun q hq => by cases hq) (ly_oba (ly_obr hr (ly_ob hB)) (ly_oba (ly_ob1 (by rw [h11]; exact hb11)) (ly_oba (ly_obI (x := nt_I M (pl 31) 2) h12) (ly_oba (ly_ob1 (by rw [h13]; exact hb13)) (ly_oba (ly_obI (x := nt_I M (pl 4) 4) h14) (ly_oba (ly_obI (x := nt_I M (pl 14) 0) h15) (ly_oba (ly_obI (x := nt_I M (pl 14) 212) h16) (ly_oba (ly_obI (x := nt_I M (pl 14) 424) h17) (ly_oba (ly_obI (x := nt_I M (pl 14) 636) h18) (ly_oba (ly_obI (x := nt_I M (pl 14) 4) h19) (ly_oba (ly_obI (x := nt_I M (pl 14) 216) h20) (ly_oba (ly_obI (x := nt_I M (pl 14) 428) h21) (ly_oba (ly_obI (x := nt_I M (pl 14) 640) h22) (ly_oba (ly_obI h23) (ly_oba (ly_obI h24) (ly_obI h25)))))))))))))))) (fun q hq => by rw [List.mem_singleton.mp hq]; show (0 : Int) ≤ 0 + ((-1) * r 2 + (1 * r 23 + (0))); rw [hr 2 (by omega), h23]; have := hc0; omega)
  obtain ⟨p, hp, r', h2, h3⟩ := lw_app (ko_wd_n_aheadH X) rfl hd hon (vs := [.ref (pl 16), .int ru, .int b0, .int b1]) ⟨rfl, ⟨ru, rfl, (ly_e1 h23).symm⟩, ⟨b0, rfl, (ly_e1 h24).symm⟩, ⟨b1, rfl, (ly_e1 h25).symm⟩, trivial⟩ k
  have hr' : ∀ s, s < 26 → r' s = r s := fun s hs => h3.2.2.2.2.2.1 s hs
  obtain ⟨ov, M'⟩ := o
  rw [List.mem_singleton.mp hp] at h2 h3
  cases ov with
  | none => exact h2.elim
  | some w =>
    obtain ⟨y, rfl, hy⟩ := h2
    have hy : y.toInt = 0 + (1 * r' 26 + (0)) := hy
    have e0 : (nt_I M' (pl 31) 1).toInt = 0 + (1 * r' 11 + (0)) := lw_rd (g := 31) (j := 1) h3.2.2.1 (List.mem_of_getElem? (i := 0) rfl) (by decide)
    have e1 : (nt_I M' (pl 31) 2).toInt = 0 + (1 * r' 12 + (0)) := lw_rd (g := 31) (j := 2) h3.2.2.1 (List.mem_of_getElem? (i := 1) rfl) (by decide)
    have e2 : (nt_I M' (pl 4) 0).toInt = 0 + (1 * r' 13 + (0)) := lw_rd (g := 4) (j := 0) h3.2.2.1 (List.mem_of_getElem? (i := 2) rfl) (by decide)
    have e3 : (nt_I M' (pl 4) 4).toInt = 0 + (1 * r' 14 + (0)) := lw_rd (g := 4) (j := 4) h3.2.2.1 (List.mem_of_getElem? (i := 3) rfl) (by decide)
    have e4 : (nt_I M' (pl 14) 0).toInt = 0 + (1 * r' 15 + (0)) := lw_rd (g := 14) (j := 0) h3.2.2.1 (List.mem_of_getElem? (i := 4) rfl) (by decide)
    have e5 : (nt_I M' (pl 14) 212).toInt = 0 + (1 * r' 16 + (0)) := lw_rd (g := 14) (j := 212) h3.2.2.1 (List.mem_of_getElem? (i := 5) rfl) (by decide)
    have e6 : (nt_I M' (pl 14) 424).toInt = 0 + (1 * r' 17 + (0)) := lw_rd (g := 14) (j := 424) h3.2.2.1 (List.mem_of_getElem? (i := 6) rfl) (by decide)
    have e7 : (nt_I M' (pl 14) 636).toInt = 0 + (1 * r' 18 + (0)) := lw_rd (g := 14) (j := 636) h3.2.2.1 (List.mem_of_getElem? (i := 7) rfl) (by decide)
    have e8 : (nt_I M' (pl 14) 4).toInt = 0 + (1 * r' 19 + (0)) := lw_rd (g := 14) (j := 4) h3.2.2.1 (List.mem_of_getElem? (i := 8) rfl) (by decide)
    have e9 : (nt_I M' (pl 14) 216).toInt = 0 + (1 * r' 20 + (0)) := lw_rd (g := 14) (j := 216) h3.2.2.1 (List.mem_of_getElem? (i := 9) rfl) (by decide)
    have e10 : (nt_I M' (pl 14) 428).toInt = 0 + (1 * r' 21 + (0)) := lw_rd (g := 14) (j := 428) h3.2.2.1 (List.mem_of_getElem? (i := 10) rfl) (by decide)
    have e11 : (nt_I M' (pl 14) 640).toInt = 0 + (1 * r' 22 + (0)) := lw_rd (g := 14) (j := 640) h3.2.2.1 (List.mem_of_getElem? (i := 11) rfl) (by decide)
    have g11 := hr' 11 (by omega)
    rw [h11] at g11
    have g12 := hr' 12 (by omega)
    rw [h12] at g12
    have g13 := hr' 13 (by omega)
    rw [h13] at g13
    have g14 := hr' 14 (by omega)
    rw [h14] at g14
    have g15 := hr' 15 (by omega)
    rw [h15] at g15
    have g16 := hr' 16 (by omega)
    rw [h16] at g16
    have g17 := hr' 17 (by omega)
    rw [h17] at g17
    have g18 := hr' 18 (by omega)
    rw [h18] at g18
    have g19 := hr' 19 (by omega)
    rw [h19] at g19
    have g20 := hr' 20 (by omega)
    rw [h20] at g20
    have g21 := hr' 21 (by omega)
    rw [h21] at g21
    have g22 := hr' 22 (by omega)
    rw [h22] at g22
    exact ⟨y, M', rfl, ⟨e0.trans (lw_s g11), e1.trans (lw_s g12), e2.trans (lw_s g13), e3.trans (lw_s g14), e4.trans (lw_s g15), e5.trans (lw_s g16), e6.trans (lw_s g17), e7.trans (lw_s g18), e8.trans (lw_s g19), e9.trans (lw_s g20), e10.trans (lw_s g21), e11.trans (lw_s g22)⟩⟩
theorem lwd_n_aheadR {X : nt_X} {pl : Nat → Nat} {v : Nat → Int} {M : nt_M} {d : Nat} {o : Option Value × nt_M} {b0 b1 ru : Int32} (hd : 7 ≤ d) (hB : ly_B pl v M) {mk xi : Nat → Int} (hS : ly_S pl mk xi (v 2) M) (hb11 : (0 : Int) ≤ (nt_I M (pl 31) 1).toInt ∧ (nt_I M (pl 31) 1).toInt ≤ 1) (hb13 : (0 : Int) ≤ (nt_I M (pl 4) 0).toInt ∧ (nt_I M (pl 4) 0).toInt ≤ 4) (hb23 : (0 : Int) ≤ ru.toInt ∧ ru.toInt ≤ 5) (hc0 : (0 : Int) ≤ -1 + v 2 + (-1) * ru.toInt) (k : nt_ev X d 123 [.ref (pl 16), .int ru, .int b0, .int b1] M o) : ∃ (y : Int32) (M' : nt_M), o = (some (.int y), M') ∧ (((nt_I M' (pl 31) 1).toInt = (nt_I M (pl 31) 1).toInt ∧ (nt_I M' (pl 31) 2).toInt = (nt_I M (pl 31) 2).toInt ∧ (nt_I M' (pl 4) 0).toInt = (nt_I M (pl 4) 0).toInt ∧ (nt_I M' (pl 4) 4).toInt = (nt_I M (pl 4) 4).toInt ∧ (nt_I M' (pl 14) 0).toInt = (nt_I M (pl 14) 0).toInt ∧ (nt_I M' (pl 14) 212).toInt = (nt_I M (pl 14) 212).toInt ∧ (nt_I M' (pl 14) 424).toInt = (nt_I M (pl 14) 424).toInt ∧ (nt_I M' (pl 14) 636).toInt = (nt_I M (pl 14) 636).toInt ∧ (nt_I M' (pl 14) 4).toInt = (nt_I M (pl 14) 4).toInt ∧ (nt_I M' (pl 14) 216).toInt = (nt_I M (pl 14) 216).toInt ∧ (nt_I M' (pl 14) 428).toInt = (nt_I M (pl 14) 428).toInt ∧ (nt_I M' (pl 14) 640).toInt = (nt_I M (pl 14) 640).toInt)) := by
  obtain ⟨r, hr, h11, h12, h13, h14, h15, h16, h17, h18, h19, h20, h21, h22, h23, h24, h25⟩ : ∃ r : Nat → Int, (∀ s, s < 11 → r s = v s) ∧ r 11 = (nt_I M (pl 31) 1).toInt ∧ r 12 = (nt_I M (pl 31) 2).toInt ∧ r 13 = (nt_I M (pl 4) 0).toInt ∧ r 14 = (nt_I M (pl 4) 4).toInt ∧ r 15 = (nt_I M (pl 14) 0).toInt ∧ r 16 = (nt_I M (pl 14) 212).toInt ∧ r 17 = (nt_I M (pl 14) 424).toInt ∧ r 18 = (nt_I M (pl 14) 636).toInt ∧ r 19 = (nt_I M (pl 14) 4).toInt ∧ r 20 = (nt_I M (pl 14) 216).toInt ∧ r 21 = (nt_I M (pl 14) 428).toInt ∧ r 22 = (nt_I M (pl 14) 640).toInt ∧ r 23 = ru.toInt ∧ r 24 = b0.toInt ∧ r 25 = b1.toInt := ⟨fun s => if s = 11 then (nt_I M (pl 31) 1).toInt else if s = 12 then (nt_I M (pl 31) 2).toInt else if s = 13 then (nt_I M (pl 4) 0).toInt else if s = 14 then (nt_I M (pl 4) 4).toInt else if s = 15 then (nt_I M (pl 14) 0).toInt else if s = 16 then (nt_I M (pl 14) 212).toInt else if s = 17 then (nt_I M (pl 14) 424).toInt else if s = 18 then (nt_I M (pl 14) 636).toInt else if s = 19 then (nt_I M (pl 14) 4).toInt else if s = 20 then (nt_I M (pl 14) 216).toInt else if s = 21 then (nt_I M (pl 14) 428).toInt else if s = 22 then (nt_I M (pl 14) 640).toInt else if s = 23 then ru.toInt else if s = 24 then b0.toInt else if s = 25 then b1.toInt else v s, fun s hs => by dsimp only; rw [if_neg (by omega), if_neg (by omega), if_neg (by omega), if_neg (by omega), if_neg (by omega), if_neg (by omega), if_neg (by omega), if_neg (by omega), if_neg (by omega), if_neg (by omega), if_neg (by omega), if_neg (by omega), if_neg (by omega), if_neg (by omega), if_neg (by omega)], rfl, rfl, rfl, rfl, rfl, rfl, rfl, rfl, rfl, rfl, rfl, rfl, rfl, rfl, rfl⟩
  obtain ⟨⟨p1, p2, p3, p4⟩, p5, T, p7, p8⟩ := hS
  obtain ⟨b, c1, c2, c3, c4, c5, c6, c7⟩ := p8 (r 23).toNat (by have := h23; omega)
  have hPL : ∀ h, h < 66 → ly_pl pl b h = pl h := fun h hh => ly_pl1 hh
  have hij : sx_ij (sx_KE (sx_tbs, sx_gps) kk_wd_n_aheadR) (ly_pl pl b) := ly_pij p1 c2 hB.1
  have hon := ly_app (K := kk_wd_n_aheadR) (ed := [(4, 0, 0, 0), (13, 0, 400, 0)]) (ec := [((31, (1, [])), (0, [(11, 1)])), ((31, (2, [])), (0, [(12, 1)])), ((4, (0, [])), (0, [(13, 1)])), ((4, (4, [])), (0, [(14, 1)])), ((14, (0, [])), (0, [(15, 1)])), ((14, (212, [])), (0, [(16, 1)])), ((14, (424, [])), (0, [(17, 1)])), ((14, (636, [])), (0, [(18, 1)])), ((14, (4, [])), (0, [(19, 1)])), ((14, (216, [])), (0, [(20, 1)])), ((14, (428, [])), (0, [(21, 1)])), ((14, (640, [])), (0, [(22, 1)]))]) (er := [((23, (0, [(23, 1)])), 67), ((66, (0, [])), 68)]) rfl hB hPL hr hij (fun h q hq => by rw [ly_pl2 (by omega), show 66 + h - 66 = h from by omega]; exact c6 h q hq) (lw_oiC (g := 31) (j := 1) (by show 31 < 68; decide) (by decide) (by dsimp only; rw [hPL 31 (by decide)]; rw [sx_s_e]; exact h11.symm) (lw_oiC (g := 31) (j := 2) (by show 31 < 68; decide) (by decide) (by dsimp only; rw [hPL 31 (by decide)]; rw [sx_s_e]; exact h12.symm) (lw_oiC (g := 4) (j := 0) (by show 4 < 68; decide) (by decide) (by dsimp only; rw [hPL 4 (by decide)]; rw [sx_s_e]; exact h13.symm) (lw_oiC (g := 4) (j := 4) (by show 4 < 68; decide) (by decide) (by dsimp only; rw [hPL 4 (by decide)]; rw [sx_s_e]; exact h14.symm) (lw_oiC (g := 14) (j := 0) (by show 14 < 68; decide) (by decide) (by dsimp only; rw [hPL 14 (by decide)]; rw [sx_s_e]; exact h15.symm) (lw_oiC (g := 14) (j := 212) (by show 14 < 68; decide) (by decide) (by dsimp only; rw [hPL 14 (by decide)]; rw [sx_s_e]; exact h16.symm) (lw_oiC (g := 14) (j := 424) (by show 14 < 68; decide) (by decide) (by dsimp only; rw [hPL 14 (by decide)]; rw [sx_s_e]; exact h17.symm) (lw_oiC (g := 14) (j := 636) (by show 14 < 68; decide) (by decide) (by dsimp only; rw [hPL 14 (by decide)]; rw [sx_s_e]; exact h18.symm) (lw_oiC (g := 14) (j := 4) (by show 14 < 68; decide) (by decide) (by dsimp only; rw [hPL 14 (by decide)]; rw [sx_s_e]; exact h19.symm) (lw_oiC (g := 14) (j := 216) (by show 14 < 68; decide) (by decide) (by dsimp only; rw [hPL 14 (by decide)]; rw [sx_s_e]; exact h20.symm) (lw_oiC (g := 14) (j := 428) (by show 14 < 68; decide) (by decide) (by dsimp only; rw [hPL 14 (by decide)]; rw [sx_s_e]; exact h21.symm) (lw_oiC (g := 14) (j := 640) (by show 14 < 68; decide) (by decide) (by dsimp only; rw [hPL 14 (by decide)]; rw [sx_s_e]; exact h22.symm) (lw_oiN))))))))))))) (fun q hq => by
    rcases List.mem_cons.mp hq with rfl | hq
    · refine ⟨⟨by show 23 < 68; decide, by show 67 ≤ 68; decide⟩, ?_, ?_⟩
      · dsimp only
        rw [sx_s_e, h23]
        omega
      · dsimp only
        rw [sx_s_e, ly_pl1 (by decide), c1]
        rfl
    · rw [List.mem_singleton.mp hq]
      refine ⟨⟨by show 66 < 68; decide, by show 68 ≤ 68; decide⟩, by dsimp only; rw [sx_c_e]; decide, ?_⟩
      dsimp only
      rw [sx_c_e]
      exact c7) (ly_oba (ly_obr hr (ly_ob hB)) (ly_oba (ly_ob1 (by rw [h11]; exact hb11)) (ly_oba (ly_obI (x := nt_I M (pl 31) 2) h12) (ly_oba (ly_ob1 (by rw [h13]; exact hb13)) (ly_oba (ly_obI (x := nt_I M (pl 4) 4) h14) (ly_oba (ly_obI (x := nt_I M (pl 14) 0) h15) (ly_oba (ly_obI (x := nt_I M (pl 14) 212) h16) (ly_oba (ly_obI (x := nt_I M (pl 14) 424) h17) (ly_oba (ly_obI (x := nt_I M (pl 14) 636) h18) (ly_oba (ly_obI (x := nt_I M (pl 14) 4) h19) (ly_oba (ly_obI (x := nt_I M (pl 14) 216) h20) (ly_oba (ly_obI (x := nt_I M (pl 14) 428) h21) (ly_oba (ly_obI (x := nt_I M (pl 14) 640) h22) (ly_oba (ly_ob1 (by rw [h23]; exact hb23)) (ly_oba (ly_obI h24) (ly_obI h25)))))))))))))))) (fun q hq => by rw [List.mem_singleton.mp hq]; show (0 : Int) ≤ (-1) + (1 * r 2 + ((-1) * r 23 + (0))); rw [hr 2 (by omega), h23]; have := hc0; omega)
  obtain ⟨p, hp, r', h2, h3⟩ := lw_app (ko_wd_n_aheadR X) rfl hd hon (vs := [.ref (pl 16), .int ru, .int b0, .int b1]) ⟨by show Value.ref (pl 16) = .ref ((ly_pl pl b) 16); rw [hPL 16 (by decide)], ⟨ru, rfl, (ly_e1 h23).symm⟩, ⟨b0, rfl, (ly_e1 h24).symm⟩, ⟨b1, rfl, (ly_e1 h25).symm⟩, trivial⟩ k
  have hr' : ∀ s, s < 26 → r' s = r s := fun s hs => h3.2.2.2.2.2.1 s hs
  obtain ⟨ov, M'⟩ := o
  rw [List.mem_singleton.mp hp] at h2 h3
  cases ov with
  | none => exact h2.elim
  | some w =>
    obtain ⟨y, rfl, hy⟩ := h2
    have hy : y.toInt = 0 + (1 * r' 26 + (0)) := hy
    have e0 : (nt_I M' ((ly_pl pl b) 31) 1).toInt = 0 + (1 * r' 11 + (0)) := lw_rd (g := 31) (j := 1) h3.2.2.1 (List.mem_of_getElem? (i := 0) rfl) (by decide)
    rw [hPL 31 (by decide)] at e0
    have e1 : (nt_I M' ((ly_pl pl b) 31) 2).toInt = 0 + (1 * r' 12 + (0)) := lw_rd (g := 31) (j := 2) h3.2.2.1 (List.mem_of_getElem? (i := 1) rfl) (by decide)
    rw [hPL 31 (by decide)] at e1
    have e2 : (nt_I M' ((ly_pl pl b) 4) 0).toInt = 0 + (1 * r' 13 + (0)) := lw_rd (g := 4) (j := 0) h3.2.2.1 (List.mem_of_getElem? (i := 2) rfl) (by decide)
    rw [hPL 4 (by decide)] at e2
    have e3 : (nt_I M' ((ly_pl pl b) 4) 4).toInt = 0 + (1 * r' 14 + (0)) := lw_rd (g := 4) (j := 4) h3.2.2.1 (List.mem_of_getElem? (i := 3) rfl) (by decide)
    rw [hPL 4 (by decide)] at e3
    have e4 : (nt_I M' ((ly_pl pl b) 14) 0).toInt = 0 + (1 * r' 15 + (0)) := lw_rd (g := 14) (j := 0) h3.2.2.1 (List.mem_of_getElem? (i := 4) rfl) (by decide)
    rw [hPL 14 (by decide)] at e4
    have e5 : (nt_I M' ((ly_pl pl b) 14) 212).toInt = 0 + (1 * r' 16 + (0)) := lw_rd (g := 14) (j := 212) h3.2.2.1 (List.mem_of_getElem? (i := 5) rfl) (by decide)
    rw [hPL 14 (by decide)] at e5
    have e6 : (nt_I M' ((ly_pl pl b) 14) 424).toInt = 0 + (1 * r' 17 + (0)) := lw_rd (g := 14) (j := 424) h3.2.2.1 (List.mem_of_getElem? (i := 6) rfl) (by decide)
    rw [hPL 14 (by decide)] at e6
    have e7 : (nt_I M' ((ly_pl pl b) 14) 636).toInt = 0 + (1 * r' 18 + (0)) := lw_rd (g := 14) (j := 636) h3.2.2.1 (List.mem_of_getElem? (i := 7) rfl) (by decide)
    rw [hPL 14 (by decide)] at e7
    have e8 : (nt_I M' ((ly_pl pl b) 14) 4).toInt = 0 + (1 * r' 19 + (0)) := lw_rd (g := 14) (j := 4) h3.2.2.1 (List.mem_of_getElem? (i := 8) rfl) (by decide)
    rw [hPL 14 (by decide)] at e8
    have e9 : (nt_I M' ((ly_pl pl b) 14) 216).toInt = 0 + (1 * r' 20 + (0)) := lw_rd (g := 14) (j := 216) h3.2.2.1 (List.mem_of_getElem? (i := 9) rfl) (by decide)
    rw [hPL 14 (by decide)] at e9
    have e10 : (nt_I M' ((ly_pl pl b) 14) 428).toInt = 0 + (1 * r' 21 + (0)) := lw_rd (g := 14) (j := 428) h3.2.2.1 (List.mem_of_getElem? (i := 10) rfl) (by decide)
    rw [hPL 14 (by decide)] at e10
    have e11 : (nt_I M' ((ly_pl pl b) 14) 640).toInt = 0 + (1 * r' 22 + (0)) := lw_rd (g := 14) (j := 640) h3.2.2.1 (List.mem_of_getElem? (i := 11) rfl) (by decide)
    rw [hPL 14 (by decide)] at e11
    have g11 := hr' 11 (by omega)
    rw [h11] at g11
    have g12 := hr' 12 (by omega)
    rw [h12] at g12
    have g13 := hr' 13 (by omega)
    rw [h13] at g13
    have g14 := hr' 14 (by omega)
    rw [h14] at g14
    have g15 := hr' 15 (by omega)
    rw [h15] at g15
    have g16 := hr' 16 (by omega)
    rw [h16] at g16
    have g17 := hr' 17 (by omega)
    rw [h17] at g17
    have g18 := hr' 18 (by omega)
    rw [h18] at g18
    have g19 := hr' 19 (by omega)
    rw [h19] at g19
    have g20 := hr' 20 (by omega)
    rw [h20] at g20
    have g21 := hr' 21 (by omega)
    rw [h21] at g21
    have g22 := hr' 22 (by omega)
    rw [h22] at g22
    exact ⟨y, M', rfl, ⟨e0.trans (lw_s g11), e1.trans (lw_s g12), e2.trans (lw_s g13), e3.trans (lw_s g14), e4.trans (lw_s g15), e5.trans (lw_s g16), e6.trans (lw_s g17), e7.trans (lw_s g18), e8.trans (lw_s g19), e9.trans (lw_s g20), e10.trans (lw_s g21), e11.trans (lw_s g22)⟩⟩
theorem lwd_yearsN {X : nt_X} {pl : Nat → Nat} {v : Nat → Int} {M : nt_M} {d : Nat} {o : Option Value × nt_M} {b0 b1 b2 b3 : Int32} (hd : 7 ≤ d) (hB : ly_B pl v M) (hb11 : (0 : Int) ≤ (nt_I M (pl 31) 1).toInt ∧ (nt_I M (pl 31) 1).toInt ≤ 1) (hb13 : (0 : Int) ≤ (nt_I M (pl 4) 0).toInt ∧ (nt_I M (pl 4) 0).toInt ≤ 4) (k : nt_ev X d 231 [.ref (pl 0), .int (Int32.ofInt (-1)), .int b0, .int b1, .int b2, .int b3] M o) : ∃ (y : Int32) (M' : nt_M), o = (some (.int y), M') ∧ (((nt_I M' (pl 31) 1).toInt = (nt_I M (pl 31) 1).toInt ∧ (nt_I M' (pl 31) 2).toInt = (nt_I M (pl 31) 2).toInt ∧ (nt_I M' (pl 4) 0).toInt = (nt_I M (pl 4) 0).toInt ∧ (nt_I M' (pl 4) 4).toInt = (nt_I M (pl 4) 4).toInt ∧ (nt_I M' (pl 14) 0).toInt = (nt_I M (pl 14) 0).toInt ∧ (nt_I M' (pl 14) 212).toInt = (nt_I M (pl 14) 212).toInt ∧ (nt_I M' (pl 14) 424).toInt = (nt_I M (pl 14) 424).toInt ∧ (nt_I M' (pl 14) 636).toInt = (nt_I M (pl 14) 636).toInt ∧ (nt_I M' (pl 14) 4).toInt = (nt_I M (pl 14) 4).toInt ∧ (nt_I M' (pl 14) 216).toInt = (nt_I M (pl 14) 216).toInt ∧ (nt_I M' (pl 14) 428).toInt = (nt_I M (pl 14) 428).toInt ∧ (nt_I M' (pl 14) 640).toInt = (nt_I M (pl 14) 640).toInt)) := by
  obtain ⟨r, hr, h11, h12, h13, h14, h15, h16, h17, h18, h19, h20, h21, h22, h23, h24, h25, h26⟩ : ∃ r : Nat → Int, (∀ s, s < 11 → r s = v s) ∧ r 11 = (nt_I M (pl 31) 1).toInt ∧ r 12 = (nt_I M (pl 31) 2).toInt ∧ r 13 = (nt_I M (pl 4) 0).toInt ∧ r 14 = (nt_I M (pl 4) 4).toInt ∧ r 15 = (nt_I M (pl 14) 0).toInt ∧ r 16 = (nt_I M (pl 14) 212).toInt ∧ r 17 = (nt_I M (pl 14) 424).toInt ∧ r 18 = (nt_I M (pl 14) 636).toInt ∧ r 19 = (nt_I M (pl 14) 4).toInt ∧ r 20 = (nt_I M (pl 14) 216).toInt ∧ r 21 = (nt_I M (pl 14) 428).toInt ∧ r 22 = (nt_I M (pl 14) 640).toInt ∧ r 23 = b0.toInt ∧ r 24 = b1.toInt ∧ r 25 = b2.toInt ∧ r 26 = b3.toInt := ⟨fun s => if s = 11 then (nt_I M (pl 31) 1).toInt else if s = 12 then (nt_I M (pl 31) 2).toInt else if s = 13 then (nt_I M (pl 4) 0).toInt else if s = 14 then (nt_I M (pl 4) 4).toInt else if s = 15 then (nt_I M (pl 14) 0).toInt else if s = 16 then (nt_I M (pl 14) 212).toInt else if s = 17 then (nt_I M (pl 14) 424).toInt else if s = 18 then (nt_I M (pl 14) 636).toInt else if s = 19 then (nt_I M (pl 14) 4).toInt else if s = 20 then (nt_I M (pl 14) 216).toInt else if s = 21 then (nt_I M (pl 14) 428).toInt else if s = 22 then (nt_I M (pl 14) 640).toInt else if s = 23 then b0.toInt else if s = 24 then b1.toInt else if s = 25 then b2.toInt else if s = 26 then b3.toInt else v s, fun s hs => by dsimp only; rw [if_neg (by omega), if_neg (by omega), if_neg (by omega), if_neg (by omega), if_neg (by omega), if_neg (by omega), if_neg (by omega), if_neg (by omega), if_neg (by omega), if_neg (by omega), if_neg (by omega), if_neg (by omega), if_neg (by omega), if_neg (by omega), if_neg (by omega), if_neg (by omega)], rfl, rfl, rfl, rfl, rfl, rfl, rfl, rfl, rfl, rfl, rfl, rfl, rfl, rfl, rfl, rfl⟩
  have hij := ly_ij (K := kk_wd_yearsN) rfl hB
  have hon := ly_app (K := kk_wd_yearsN) (ed := []) (ec := [((31, (1, [])), (0, [(11, 1)])), ((31, (2, [])), (0, [(12, 1)])), ((4, (0, [])), (0, [(13, 1)])), ((4, (4, [])), (0, [(14, 1)])), ((14, (0, [])), (0, [(15, 1)])), ((14, (212, [])), (0, [(16, 1)])), ((14, (424, [])), (0, [(17, 1)])), ((14, (636, [])), (0, [(18, 1)])), ((14, (4, [])), (0, [(19, 1)])), ((14, (216, [])), (0, [(20, 1)])), ((14, (428, [])), (0, [(21, 1)])), ((14, (640, [])), (0, [(22, 1)]))]) (er := []) rfl hB (fun _ _ => rfl) hr hij ly_nil (lw_oiC (g := 31) (j := 1) (by show 31 < 66; decide) (by decide) (by dsimp only; rw [sx_s_e]; exact h11.symm) (lw_oiC (g := 31) (j := 2) (by show 31 < 66; decide) (by decide) (by dsimp only; rw [sx_s_e]; exact h12.symm) (lw_oiC (g := 4) (j := 0) (by show 4 < 66; decide) (by decide) (by dsimp only; rw [sx_s_e]; exact h13.symm) (lw_oiC (g := 4) (j := 4) (by show 4 < 66; decide) (by decide) (by dsimp only; rw [sx_s_e]; exact h14.symm) (lw_oiC (g := 14) (j := 0) (by show 14 < 66; decide) (by decide) (by dsimp only; rw [sx_s_e]; exact h15.symm) (lw_oiC (g := 14) (j := 212) (by show 14 < 66; decide) (by decide) (by dsimp only; rw [sx_s_e]; exact h16.symm) (lw_oiC (g := 14) (j := 424) (by show 14 < 66; decide) (by decide) (by dsimp only; rw [sx_s_e]; exact h17.symm) (lw_oiC (g := 14) (j := 636) (by show 14 < 66; decide) (by decide) (by dsimp only; rw [sx_s_e]; exact h18.symm) (lw_oiC (g := 14) (j := 4) (by show 14 < 66; decide) (by decide) (by dsimp only; rw [sx_s_e]; exact h19.symm) (lw_oiC (g := 14) (j := 216) (by show 14 < 66; decide) (by decide) (by dsimp only; rw [sx_s_e]; exact h20.symm) (lw_oiC (g := 14) (j := 428) (by show 14 < 66; decide) (by decide) (by dsimp only; rw [sx_s_e]; exact h21.symm) (lw_oiC (g := 14) (j := 640) (by show 14 < 66; decide) (by decide) (by dsimp only; rw [sx_s_e]; exact h22.symm) (lw_oiN))))))))))))) (fun q hq => by cases hq) (ly_oba (ly_obr hr (ly_ob hB)) (ly_oba (ly_ob1 (by rw [h11]; exact hb11)) (ly_oba (ly_obI (x := nt_I M (pl 31) 2) h12) (ly_oba (ly_ob1 (by rw [h13]; exact hb13)) (ly_oba (ly_obI (x := nt_I M (pl 4) 4) h14) (ly_oba (ly_obI (x := nt_I M (pl 14) 0) h15) (ly_oba (ly_obI (x := nt_I M (pl 14) 212) h16) (ly_oba (ly_obI (x := nt_I M (pl 14) 424) h17) (ly_oba (ly_obI (x := nt_I M (pl 14) 636) h18) (ly_oba (ly_obI (x := nt_I M (pl 14) 4) h19) (ly_oba (ly_obI (x := nt_I M (pl 14) 216) h20) (ly_oba (ly_obI (x := nt_I M (pl 14) 428) h21) (ly_oba (ly_obI (x := nt_I M (pl 14) 640) h22) (ly_oba (ly_obI h23) (ly_oba (ly_obI h24) (ly_oba (ly_obI h25) (ly_obI h26))))))))))))))))) ly_oc0
  obtain ⟨p, hp, r', h2, h3⟩ := lw_app (ko_wd_yearsN X) rfl hd hon (vs := [.ref (pl 0), .int (Int32.ofInt (-1)), .int b0, .int b1, .int b2, .int b3]) ⟨rfl, ⟨_, rfl, by rw [sx_c_e]; decide⟩, ⟨b0, rfl, (ly_e1 h23).symm⟩, ⟨b1, rfl, (ly_e1 h24).symm⟩, ⟨b2, rfl, (ly_e1 h25).symm⟩, ⟨b3, rfl, (ly_e1 h26).symm⟩, trivial⟩ k
  have hr' : ∀ s, s < 27 → r' s = r s := fun s hs => h3.2.2.2.2.2.1 s hs
  obtain ⟨ov, M'⟩ := o
  rw [List.mem_singleton.mp hp] at h2 h3
  cases ov with
  | none => exact h2.elim
  | some w =>
    obtain ⟨y, rfl, hy⟩ := h2
    have hy : y.toInt = 0 + (1 * r' 27 + (0)) := hy
    have e0 : (nt_I M' (pl 31) 1).toInt = 0 + (1 * r' 11 + (0)) := lw_rd (g := 31) (j := 1) h3.2.2.1 (List.mem_of_getElem? (i := 0) rfl) (by decide)
    have e1 : (nt_I M' (pl 31) 2).toInt = 0 + (1 * r' 12 + (0)) := lw_rd (g := 31) (j := 2) h3.2.2.1 (List.mem_of_getElem? (i := 1) rfl) (by decide)
    have e2 : (nt_I M' (pl 4) 0).toInt = 0 + (1 * r' 13 + (0)) := lw_rd (g := 4) (j := 0) h3.2.2.1 (List.mem_of_getElem? (i := 2) rfl) (by decide)
    have e3 : (nt_I M' (pl 4) 4).toInt = 0 + (1 * r' 14 + (0)) := lw_rd (g := 4) (j := 4) h3.2.2.1 (List.mem_of_getElem? (i := 3) rfl) (by decide)
    have e4 : (nt_I M' (pl 14) 0).toInt = 0 + (1 * r' 15 + (0)) := lw_rd (g := 14) (j := 0) h3.2.2.1 (List.mem_of_getElem? (i := 4) rfl) (by decide)
    have e5 : (nt_I M' (pl 14) 212).toInt = 0 + (1 * r' 16 + (0)) := lw_rd (g := 14) (j := 212) h3.2.2.1 (List.mem_of_getElem? (i := 5) rfl) (by decide)
    have e6 : (nt_I M' (pl 14) 424).toInt = 0 + (1 * r' 17 + (0)) := lw_rd (g := 14) (j := 424) h3.2.2.1 (List.mem_of_getElem? (i := 6) rfl) (by decide)
    have e7 : (nt_I M' (pl 14) 636).toInt = 0 + (1 * r' 18 + (0)) := lw_rd (g := 14) (j := 636) h3.2.2.1 (List.mem_of_getElem? (i := 7) rfl) (by decide)
    have e8 : (nt_I M' (pl 14) 4).toInt = 0 + (1 * r' 19 + (0)) := lw_rd (g := 14) (j := 4) h3.2.2.1 (List.mem_of_getElem? (i := 8) rfl) (by decide)
    have e9 : (nt_I M' (pl 14) 216).toInt = 0 + (1 * r' 20 + (0)) := lw_rd (g := 14) (j := 216) h3.2.2.1 (List.mem_of_getElem? (i := 9) rfl) (by decide)
    have e10 : (nt_I M' (pl 14) 428).toInt = 0 + (1 * r' 21 + (0)) := lw_rd (g := 14) (j := 428) h3.2.2.1 (List.mem_of_getElem? (i := 10) rfl) (by decide)
    have e11 : (nt_I M' (pl 14) 640).toInt = 0 + (1 * r' 22 + (0)) := lw_rd (g := 14) (j := 640) h3.2.2.1 (List.mem_of_getElem? (i := 11) rfl) (by decide)
    have g11 := hr' 11 (by omega)
    rw [h11] at g11
    have g12 := hr' 12 (by omega)
    rw [h12] at g12
    have g13 := hr' 13 (by omega)
    rw [h13] at g13
    have g14 := hr' 14 (by omega)
    rw [h14] at g14
    have g15 := hr' 15 (by omega)
    rw [h15] at g15
    have g16 := hr' 16 (by omega)
    rw [h16] at g16
    have g17 := hr' 17 (by omega)
    rw [h17] at g17
    have g18 := hr' 18 (by omega)
    rw [h18] at g18
    have g19 := hr' 19 (by omega)
    rw [h19] at g19
    have g20 := hr' 20 (by omega)
    rw [h20] at g20
    have g21 := hr' 21 (by omega)
    rw [h21] at g21
    have g22 := hr' 22 (by omega)
    rw [h22] at g22
    exact ⟨y, M', rfl, ⟨e0.trans (lw_s g11), e1.trans (lw_s g12), e2.trans (lw_s g13), e3.trans (lw_s g14), e4.trans (lw_s g15), e5.trans (lw_s g16), e6.trans (lw_s g17), e7.trans (lw_s g18), e8.trans (lw_s g19), e9.trans (lw_s g20), e10.trans (lw_s g21), e11.trans (lw_s g22)⟩⟩
theorem lwd_yearsL {X : nt_X} {pl : Nat → Nat} {v : Nat → Int} {M : nt_M} {d : Nat} {o : Option Value × nt_M} {b0 b1 b2 b3 ru : Int32} (hd : 2 ≤ d) (hB : ly_B pl v M) (hb11 : (0 : Int) ≤ (nt_I M (pl 31) 1).toInt ∧ (nt_I M (pl 31) 1).toInt ≤ 1) (hb13 : (0 : Int) ≤ (nt_I M (pl 4) 0).toInt ∧ (nt_I M (pl 4) 0).toInt ≤ 4) (hb23 : (-2147483648 : Int) ≤ ru.toInt ∧ ru.toInt ≤ -2) (k : nt_ev X d 231 [.ref (pl 0), .int ru, .int b0, .int b1, .int b2, .int b3] M o) : ∃ (y : Int32) (M' : nt_M), o = (some (.int y), M') ∧ (((nt_I M' (pl 31) 1).toInt = (nt_I M (pl 31) 1).toInt ∧ (nt_I M' (pl 31) 2).toInt = (nt_I M (pl 31) 2).toInt ∧ (nt_I M' (pl 4) 0).toInt = (nt_I M (pl 4) 0).toInt ∧ (nt_I M' (pl 4) 4).toInt = (nt_I M (pl 4) 4).toInt ∧ (nt_I M' (pl 14) 0).toInt = (nt_I M (pl 14) 0).toInt ∧ (nt_I M' (pl 14) 212).toInt = (nt_I M (pl 14) 212).toInt ∧ (nt_I M' (pl 14) 424).toInt = (nt_I M (pl 14) 424).toInt ∧ (nt_I M' (pl 14) 636).toInt = (nt_I M (pl 14) 636).toInt ∧ (nt_I M' (pl 14) 4).toInt = (nt_I M (pl 14) 4).toInt ∧ (nt_I M' (pl 14) 216).toInt = (nt_I M (pl 14) 216).toInt ∧ (nt_I M' (pl 14) 428).toInt = (nt_I M (pl 14) 428).toInt ∧ (nt_I M' (pl 14) 640).toInt = (nt_I M (pl 14) 640).toInt)) := by
  obtain ⟨r, hr, h11, h12, h13, h14, h15, h16, h17, h18, h19, h20, h21, h22, h23, h24, h25, h26, h27⟩ : ∃ r : Nat → Int, (∀ s, s < 11 → r s = v s) ∧ r 11 = (nt_I M (pl 31) 1).toInt ∧ r 12 = (nt_I M (pl 31) 2).toInt ∧ r 13 = (nt_I M (pl 4) 0).toInt ∧ r 14 = (nt_I M (pl 4) 4).toInt ∧ r 15 = (nt_I M (pl 14) 0).toInt ∧ r 16 = (nt_I M (pl 14) 212).toInt ∧ r 17 = (nt_I M (pl 14) 424).toInt ∧ r 18 = (nt_I M (pl 14) 636).toInt ∧ r 19 = (nt_I M (pl 14) 4).toInt ∧ r 20 = (nt_I M (pl 14) 216).toInt ∧ r 21 = (nt_I M (pl 14) 428).toInt ∧ r 22 = (nt_I M (pl 14) 640).toInt ∧ r 23 = ru.toInt ∧ r 24 = b0.toInt ∧ r 25 = b1.toInt ∧ r 26 = b2.toInt ∧ r 27 = b3.toInt := ⟨fun s => if s = 11 then (nt_I M (pl 31) 1).toInt else if s = 12 then (nt_I M (pl 31) 2).toInt else if s = 13 then (nt_I M (pl 4) 0).toInt else if s = 14 then (nt_I M (pl 4) 4).toInt else if s = 15 then (nt_I M (pl 14) 0).toInt else if s = 16 then (nt_I M (pl 14) 212).toInt else if s = 17 then (nt_I M (pl 14) 424).toInt else if s = 18 then (nt_I M (pl 14) 636).toInt else if s = 19 then (nt_I M (pl 14) 4).toInt else if s = 20 then (nt_I M (pl 14) 216).toInt else if s = 21 then (nt_I M (pl 14) 428).toInt else if s = 22 then (nt_I M (pl 14) 640).toInt else if s = 23 then ru.toInt else if s = 24 then b0.toInt else if s = 25 then b1.toInt else if s = 26 then b2.toInt else if s = 27 then b3.toInt else v s, fun s hs => by dsimp only; rw [if_neg (by omega), if_neg (by omega), if_neg (by omega), if_neg (by omega), if_neg (by omega), if_neg (by omega), if_neg (by omega), if_neg (by omega), if_neg (by omega), if_neg (by omega), if_neg (by omega), if_neg (by omega), if_neg (by omega), if_neg (by omega), if_neg (by omega), if_neg (by omega), if_neg (by omega)], rfl, rfl, rfl, rfl, rfl, rfl, rfl, rfl, rfl, rfl, rfl, rfl, rfl, rfl, rfl, rfl, rfl⟩
  have hij := ly_ij (K := kk_wd_yearsL) rfl hB
  have hon := ly_app (K := kk_wd_yearsL) (ed := []) (ec := [((31, (1, [])), (0, [(11, 1)])), ((31, (2, [])), (0, [(12, 1)])), ((4, (0, [])), (0, [(13, 1)])), ((4, (4, [])), (0, [(14, 1)])), ((14, (0, [])), (0, [(15, 1)])), ((14, (212, [])), (0, [(16, 1)])), ((14, (424, [])), (0, [(17, 1)])), ((14, (636, [])), (0, [(18, 1)])), ((14, (4, [])), (0, [(19, 1)])), ((14, (216, [])), (0, [(20, 1)])), ((14, (428, [])), (0, [(21, 1)])), ((14, (640, [])), (0, [(22, 1)]))]) (er := []) rfl hB (fun _ _ => rfl) hr hij ly_nil (lw_oiC (g := 31) (j := 1) (by show 31 < 66; decide) (by decide) (by dsimp only; rw [sx_s_e]; exact h11.symm) (lw_oiC (g := 31) (j := 2) (by show 31 < 66; decide) (by decide) (by dsimp only; rw [sx_s_e]; exact h12.symm) (lw_oiC (g := 4) (j := 0) (by show 4 < 66; decide) (by decide) (by dsimp only; rw [sx_s_e]; exact h13.symm) (lw_oiC (g := 4) (j := 4) (by show 4 < 66; decide) (by decide) (by dsimp only; rw [sx_s_e]; exact h14.symm) (lw_oiC (g := 14) (j := 0) (by show 14 < 66; decide) (by decide) (by dsimp only; rw [sx_s_e]; exact h15.symm) (lw_oiC (g := 14) (j := 212) (by show 14 < 66; decide) (by decide) (by dsimp only; rw [sx_s_e]; exact h16.symm) (lw_oiC (g := 14) (j := 424) (by show 14 < 66; decide) (by decide) (by dsimp only; rw [sx_s_e]; exact h17.symm) (lw_oiC (g := 14) (j := 636) (by show 14 < 66; decide) (by decide) (by dsimp only; rw [sx_s_e]; exact h18.symm) (lw_oiC (g := 14) (j := 4) (by show 14 < 66; decide) (by decide) (by dsimp only; rw [sx_s_e]; exact h19.symm) (lw_oiC (g := 14) (j := 216) (by show 14 < 66; decide) (by decide) (by dsimp only; rw [sx_s_e]; exact h20.symm) (lw_oiC (g := 14) (j := 428) (by show 14 < 66; decide) (by decide) (by dsimp only; rw [sx_s_e]; exact h21.symm) (lw_oiC (g := 14) (j := 640) (by show 14 < 66; decide) (by decide) (by dsimp only; rw [sx_s_e]; exact h22.symm) (lw_oiN))))))))))))) (fun q hq => by cases hq) (ly_oba (ly_obr hr (ly_ob hB)) (ly_oba (ly_ob1 (by rw [h11]; exact hb11)) (ly_oba (ly_obI (x := nt_I M (pl 31) 2) h12) (ly_oba (ly_ob1 (by rw [h13]; exact hb13)) (ly_oba (ly_obI (x := nt_I M (pl 4) 4) h14) (ly_oba (ly_obI (x := nt_I M (pl 14) 0) h15) (ly_oba (ly_obI (x := nt_I M (pl 14) 212) h16) (ly_oba (ly_obI (x := nt_I M (pl 14) 424) h17) (ly_oba (ly_obI (x := nt_I M (pl 14) 636) h18) (ly_oba (ly_obI (x := nt_I M (pl 14) 4) h19) (ly_oba (ly_obI (x := nt_I M (pl 14) 216) h20) (ly_oba (ly_obI (x := nt_I M (pl 14) 428) h21) (ly_oba (ly_obI (x := nt_I M (pl 14) 640) h22) (ly_oba (ly_ob1 (by rw [h23]; exact hb23)) (ly_oba (ly_obI h24) (ly_oba (ly_obI h25) (ly_oba (ly_obI h26) (ly_obI h27)))))))))))))))))) ly_oc0
  obtain ⟨p, hp, r', h2, h3⟩ := lw_app (ko_wd_yearsL X) rfl hd hon (vs := [.ref (pl 0), .int ru, .int b0, .int b1, .int b2, .int b3]) ⟨rfl, ⟨ru, rfl, (ly_e1 h23).symm⟩, ⟨b0, rfl, (ly_e1 h24).symm⟩, ⟨b1, rfl, (ly_e1 h25).symm⟩, ⟨b2, rfl, (ly_e1 h26).symm⟩, ⟨b3, rfl, (ly_e1 h27).symm⟩, trivial⟩ k
  have hr' : ∀ s, s < 28 → r' s = r s := fun s hs => h3.2.2.2.2.2.1 s hs
  obtain ⟨ov, M'⟩ := o
  rw [List.mem_singleton.mp hp] at h2 h3
  cases ov with
  | none => exact h2.elim
  | some w =>
    obtain ⟨y, rfl, hy⟩ := h2
    have hy : y.toInt = 0 + (1 * r' 28 + (0)) := hy
    have e0 : (nt_I M' (pl 31) 1).toInt = 0 + (1 * r' 11 + (0)) := lw_rd (g := 31) (j := 1) h3.2.2.1 (List.mem_of_getElem? (i := 0) rfl) (by decide)
    have e1 : (nt_I M' (pl 31) 2).toInt = 0 + (1 * r' 12 + (0)) := lw_rd (g := 31) (j := 2) h3.2.2.1 (List.mem_of_getElem? (i := 1) rfl) (by decide)
    have e2 : (nt_I M' (pl 4) 0).toInt = 0 + (1 * r' 13 + (0)) := lw_rd (g := 4) (j := 0) h3.2.2.1 (List.mem_of_getElem? (i := 2) rfl) (by decide)
    have e3 : (nt_I M' (pl 4) 4).toInt = 0 + (1 * r' 14 + (0)) := lw_rd (g := 4) (j := 4) h3.2.2.1 (List.mem_of_getElem? (i := 3) rfl) (by decide)
    have e4 : (nt_I M' (pl 14) 0).toInt = 0 + (1 * r' 15 + (0)) := lw_rd (g := 14) (j := 0) h3.2.2.1 (List.mem_of_getElem? (i := 4) rfl) (by decide)
    have e5 : (nt_I M' (pl 14) 212).toInt = 0 + (1 * r' 16 + (0)) := lw_rd (g := 14) (j := 212) h3.2.2.1 (List.mem_of_getElem? (i := 5) rfl) (by decide)
    have e6 : (nt_I M' (pl 14) 424).toInt = 0 + (1 * r' 17 + (0)) := lw_rd (g := 14) (j := 424) h3.2.2.1 (List.mem_of_getElem? (i := 6) rfl) (by decide)
    have e7 : (nt_I M' (pl 14) 636).toInt = 0 + (1 * r' 18 + (0)) := lw_rd (g := 14) (j := 636) h3.2.2.1 (List.mem_of_getElem? (i := 7) rfl) (by decide)
    have e8 : (nt_I M' (pl 14) 4).toInt = 0 + (1 * r' 19 + (0)) := lw_rd (g := 14) (j := 4) h3.2.2.1 (List.mem_of_getElem? (i := 8) rfl) (by decide)
    have e9 : (nt_I M' (pl 14) 216).toInt = 0 + (1 * r' 20 + (0)) := lw_rd (g := 14) (j := 216) h3.2.2.1 (List.mem_of_getElem? (i := 9) rfl) (by decide)
    have e10 : (nt_I M' (pl 14) 428).toInt = 0 + (1 * r' 21 + (0)) := lw_rd (g := 14) (j := 428) h3.2.2.1 (List.mem_of_getElem? (i := 10) rfl) (by decide)
    have e11 : (nt_I M' (pl 14) 640).toInt = 0 + (1 * r' 22 + (0)) := lw_rd (g := 14) (j := 640) h3.2.2.1 (List.mem_of_getElem? (i := 11) rfl) (by decide)
    have g11 := hr' 11 (by omega)
    rw [h11] at g11
    have g12 := hr' 12 (by omega)
    rw [h12] at g12
    have g13 := hr' 13 (by omega)
    rw [h13] at g13
    have g14 := hr' 14 (by omega)
    rw [h14] at g14
    have g15 := hr' 15 (by omega)
    rw [h15] at g15
    have g16 := hr' 16 (by omega)
    rw [h16] at g16
    have g17 := hr' 17 (by omega)
    rw [h17] at g17
    have g18 := hr' 18 (by omega)
    rw [h18] at g18
    have g19 := hr' 19 (by omega)
    rw [h19] at g19
    have g20 := hr' 20 (by omega)
    rw [h20] at g20
    have g21 := hr' 21 (by omega)
    rw [h21] at g21
    have g22 := hr' 22 (by omega)
    rw [h22] at g22
    exact ⟨y, M', rfl, ⟨e0.trans (lw_s g11), e1.trans (lw_s g12), e2.trans (lw_s g13), e3.trans (lw_s g14), e4.trans (lw_s g15), e5.trans (lw_s g16), e6.trans (lw_s g17), e7.trans (lw_s g18), e8.trans (lw_s g19), e9.trans (lw_s g20), e10.trans (lw_s g21), e11.trans (lw_s g22)⟩⟩
theorem lwd_yearsH {X : nt_X} {pl : Nat → Nat} {v : Nat → Int} {M : nt_M} {d : Nat} {o : Option Value × nt_M} {b0 b1 b2 b3 ru : Int32} (hd : 7 ≤ d) (hB : ly_B pl v M) (hb11 : (0 : Int) ≤ (nt_I M (pl 31) 1).toInt ∧ (nt_I M (pl 31) 1).toInt ≤ 1) (hb13 : (0 : Int) ≤ (nt_I M (pl 4) 0).toInt ∧ (nt_I M (pl 4) 0).toInt ≤ 4) (hb23 : (0 : Int) ≤ (nt_I M (pl 0) 2).toInt ∧ (nt_I M (pl 0) 2).toInt ≤ 6) (hc0 : (0 : Int) ≤ (-1) * (nt_I M (pl 0) 2).toInt + ru.toInt) (k : nt_ev X d 231 [.ref (pl 0), .int ru, .int b0, .int b1, .int b2, .int b3] M o) : ∃ (y : Int32) (M' : nt_M), o = (some (.int y), M') ∧ (((nt_I M' (pl 31) 1).toInt = (nt_I M (pl 31) 1).toInt ∧ (nt_I M' (pl 31) 2).toInt = (nt_I M (pl 31) 2).toInt ∧ (nt_I M' (pl 4) 0).toInt = (nt_I M (pl 4) 0).toInt ∧ (nt_I M' (pl 4) 4).toInt = (nt_I M (pl 4) 4).toInt ∧ (nt_I M' (pl 14) 0).toInt = (nt_I M (pl 14) 0).toInt ∧ (nt_I M' (pl 14) 212).toInt = (nt_I M (pl 14) 212).toInt ∧ (nt_I M' (pl 14) 424).toInt = (nt_I M (pl 14) 424).toInt ∧ (nt_I M' (pl 14) 636).toInt = (nt_I M (pl 14) 636).toInt ∧ (nt_I M' (pl 14) 4).toInt = (nt_I M (pl 14) 4).toInt ∧ (nt_I M' (pl 14) 216).toInt = (nt_I M (pl 14) 216).toInt ∧ (nt_I M' (pl 14) 428).toInt = (nt_I M (pl 14) 428).toInt ∧ (nt_I M' (pl 14) 640).toInt = (nt_I M (pl 14) 640).toInt)) := by
  obtain ⟨r, hr, h11, h12, h13, h14, h15, h16, h17, h18, h19, h20, h21, h22, h23, h24, h25, h26, h27, h28⟩ : ∃ r : Nat → Int, (∀ s, s < 11 → r s = v s) ∧ r 11 = (nt_I M (pl 31) 1).toInt ∧ r 12 = (nt_I M (pl 31) 2).toInt ∧ r 13 = (nt_I M (pl 4) 0).toInt ∧ r 14 = (nt_I M (pl 4) 4).toInt ∧ r 15 = (nt_I M (pl 14) 0).toInt ∧ r 16 = (nt_I M (pl 14) 212).toInt ∧ r 17 = (nt_I M (pl 14) 424).toInt ∧ r 18 = (nt_I M (pl 14) 636).toInt ∧ r 19 = (nt_I M (pl 14) 4).toInt ∧ r 20 = (nt_I M (pl 14) 216).toInt ∧ r 21 = (nt_I M (pl 14) 428).toInt ∧ r 22 = (nt_I M (pl 14) 640).toInt ∧ r 23 = (nt_I M (pl 0) 2).toInt ∧ r 24 = ru.toInt ∧ r 25 = b0.toInt ∧ r 26 = b1.toInt ∧ r 27 = b2.toInt ∧ r 28 = b3.toInt := ⟨fun s => if s = 11 then (nt_I M (pl 31) 1).toInt else if s = 12 then (nt_I M (pl 31) 2).toInt else if s = 13 then (nt_I M (pl 4) 0).toInt else if s = 14 then (nt_I M (pl 4) 4).toInt else if s = 15 then (nt_I M (pl 14) 0).toInt else if s = 16 then (nt_I M (pl 14) 212).toInt else if s = 17 then (nt_I M (pl 14) 424).toInt else if s = 18 then (nt_I M (pl 14) 636).toInt else if s = 19 then (nt_I M (pl 14) 4).toInt else if s = 20 then (nt_I M (pl 14) 216).toInt else if s = 21 then (nt_I M (pl 14) 428).toInt else if s = 22 then (nt_I M (pl 14) 640).toInt else if s = 23 then (nt_I M (pl 0) 2).toInt else if s = 24 then ru.toInt else if s = 25 then b0.toInt else if s = 26 then b1.toInt else if s = 27 then b2.toInt else if s = 28 then b3.toInt else v s, fun s hs => by dsimp only; rw [if_neg (by omega), if_neg (by omega), if_neg (by omega), if_neg (by omega), if_neg (by omega), if_neg (by omega), if_neg (by omega), if_neg (by omega), if_neg (by omega), if_neg (by omega), if_neg (by omega), if_neg (by omega), if_neg (by omega), if_neg (by omega), if_neg (by omega), if_neg (by omega), if_neg (by omega), if_neg (by omega)], rfl, rfl, rfl, rfl, rfl, rfl, rfl, rfl, rfl, rfl, rfl, rfl, rfl, rfl, rfl, rfl, rfl, rfl⟩
  have hij := ly_ij (K := kk_wd_yearsH) rfl hB
  have hon := ly_app (K := kk_wd_yearsH) (ed := []) (ec := [((31, (1, [])), (0, [(11, 1)])), ((31, (2, [])), (0, [(12, 1)])), ((4, (0, [])), (0, [(13, 1)])), ((4, (4, [])), (0, [(14, 1)])), ((14, (0, [])), (0, [(15, 1)])), ((14, (212, [])), (0, [(16, 1)])), ((14, (424, [])), (0, [(17, 1)])), ((14, (636, [])), (0, [(18, 1)])), ((14, (4, [])), (0, [(19, 1)])), ((14, (216, [])), (0, [(20, 1)])), ((14, (428, [])), (0, [(21, 1)])), ((14, (640, [])), (0, [(22, 1)])), ((0, (2, [])), (0, [(23, 1)]))]) (er := []) rfl hB (fun _ _ => rfl) hr hij ly_nil (lw_oiC (g := 31) (j := 1) (by show 31 < 66; decide) (by decide) (by dsimp only; rw [sx_s_e]; exact h11.symm) (lw_oiC (g := 31) (j := 2) (by show 31 < 66; decide) (by decide) (by dsimp only; rw [sx_s_e]; exact h12.symm) (lw_oiC (g := 4) (j := 0) (by show 4 < 66; decide) (by decide) (by dsimp only; rw [sx_s_e]; exact h13.symm) (lw_oiC (g := 4) (j := 4) (by show 4 < 66; decide) (by decide) (by dsimp only; rw [sx_s_e]; exact h14.symm) (lw_oiC (g := 14) (j := 0) (by show 14 < 66; decide) (by decide) (by dsimp only; rw [sx_s_e]; exact h15.symm) (lw_oiC (g := 14) (j := 212) (by show 14 < 66; decide) (by decide) (by dsimp only; rw [sx_s_e]; exact h16.symm) (lw_oiC (g := 14) (j := 424) (by show 14 < 66; decide) (by decide) (by dsimp only; rw [sx_s_e]; exact h17.symm) (lw_oiC (g := 14) (j := 636) (by show 14 < 66; decide) (by decide) (by dsimp only; rw [sx_s_e]; exact h18.symm) (lw_oiC (g := 14) (j := 4) (by show 14 < 66; decide) (by decide) (by dsimp only; rw [sx_s_e]; exact h19.symm) (lw_oiC (g := 14) (j := 216) (by show 14 < 66; decide) (by decide) (by dsimp only; rw [sx_s_e]; exact h20.symm) (lw_oiC (g := 14) (j := 428) (by show 14 < 66; decide) (by decide) (by dsimp only; rw [sx_s_e]; exact h21.symm) (lw_oiC (g := 14) (j := 640) (by show 14 < 66; decide) (by decide) (by dsimp only; rw [sx_s_e]; exact h22.symm) (lw_oiC (g := 0) (j := 2) (by show 0 < 66; decide) (by decide) (by dsimp only; rw [sx_s_e]; exact h23.symm) (lw_oiN)))))))))))))) (fun q hq => by cases hq) (ly_oba (ly_obr hr (ly_ob hB)) (ly_oba (ly_ob1 (by rw [h11]; exact hb11)) (ly_oba (ly_obI (x := nt_I M (pl 31) 2) h12) (ly_oba (ly_ob1 (by rw [h13]; exact hb13)) (ly_oba (ly_obI (x := nt_I M (pl 4) 4) h14) (ly_oba (ly_obI (x := nt_I M (pl 14) 0) h15) (ly_oba (ly_obI (x := nt_I M (pl 14) 212) h16) (ly_oba (ly_obI (x := nt_I M (pl 14) 424) h17) (ly_oba (ly_obI (x := nt_I M (pl 14) 636) h18) (ly_oba (ly_obI (x := nt_I M (pl 14) 4) h19) (ly_oba (ly_obI (x := nt_I M (pl 14) 216) h20) (ly_oba (ly_obI (x := nt_I M (pl 14) 428) h21) (ly_oba (ly_obI (x := nt_I M (pl 14) 640) h22) (ly_oba (ly_ob1 (by rw [h23]; exact hb23)) (ly_oba (ly_obI h24) (ly_oba (ly_obI h25) (ly_oba (ly_obI h26) (ly_oba (ly_obI h27) (ly_obI h28))))))))))))))))))) (fun q hq => by rw [List.mem_singleton.mp hq]; show (0 : Int) ≤ 0 + ((-1) * r 23 + (1 * r 24 + (0))); rw [h23, h24]; have := hc0; omega)
  obtain ⟨p, hp, r', h2, h3⟩ := lw_app (ko_wd_yearsH X) rfl hd hon (vs := [.ref (pl 0), .int ru, .int b0, .int b1, .int b2, .int b3]) ⟨rfl, ⟨ru, rfl, (ly_e1 h24).symm⟩, ⟨b0, rfl, (ly_e1 h25).symm⟩, ⟨b1, rfl, (ly_e1 h26).symm⟩, ⟨b2, rfl, (ly_e1 h27).symm⟩, ⟨b3, rfl, (ly_e1 h28).symm⟩, trivial⟩ k
  have hr' : ∀ s, s < 29 → r' s = r s := fun s hs => h3.2.2.2.2.2.1 s hs
  obtain ⟨ov, M'⟩ := o
  rw [List.mem_singleton.mp hp] at h2 h3
  cases ov with
  | none => exact h2.elim
  | some w =>
    obtain ⟨y, rfl, hy⟩ := h2
    have hy : y.toInt = 0 + (1 * r' 29 + (0)) := hy
    have e0 : (nt_I M' (pl 31) 1).toInt = 0 + (1 * r' 11 + (0)) := lw_rd (g := 31) (j := 1) h3.2.2.1 (List.mem_of_getElem? (i := 0) rfl) (by decide)
    have e1 : (nt_I M' (pl 31) 2).toInt = 0 + (1 * r' 12 + (0)) := lw_rd (g := 31) (j := 2) h3.2.2.1 (List.mem_of_getElem? (i := 1) rfl) (by decide)
    have e2 : (nt_I M' (pl 4) 0).toInt = 0 + (1 * r' 13 + (0)) := lw_rd (g := 4) (j := 0) h3.2.2.1 (List.mem_of_getElem? (i := 2) rfl) (by decide)
    have e3 : (nt_I M' (pl 4) 4).toInt = 0 + (1 * r' 14 + (0)) := lw_rd (g := 4) (j := 4) h3.2.2.1 (List.mem_of_getElem? (i := 3) rfl) (by decide)
    have e4 : (nt_I M' (pl 14) 0).toInt = 0 + (1 * r' 15 + (0)) := lw_rd (g := 14) (j := 0) h3.2.2.1 (List.mem_of_getElem? (i := 4) rfl) (by decide)
    have e5 : (nt_I M' (pl 14) 212).toInt = 0 + (1 * r' 16 + (0)) := lw_rd (g := 14) (j := 212) h3.2.2.1 (List.mem_of_getElem? (i := 5) rfl) (by decide)
    have e6 : (nt_I M' (pl 14) 424).toInt = 0 + (1 * r' 17 + (0)) := lw_rd (g := 14) (j := 424) h3.2.2.1 (List.mem_of_getElem? (i := 6) rfl) (by decide)
    have e7 : (nt_I M' (pl 14) 636).toInt = 0 + (1 * r' 18 + (0)) := lw_rd (g := 14) (j := 636) h3.2.2.1 (List.mem_of_getElem? (i := 7) rfl) (by decide)
    have e8 : (nt_I M' (pl 14) 4).toInt = 0 + (1 * r' 19 + (0)) := lw_rd (g := 14) (j := 4) h3.2.2.1 (List.mem_of_getElem? (i := 8) rfl) (by decide)
    have e9 : (nt_I M' (pl 14) 216).toInt = 0 + (1 * r' 20 + (0)) := lw_rd (g := 14) (j := 216) h3.2.2.1 (List.mem_of_getElem? (i := 9) rfl) (by decide)
    have e10 : (nt_I M' (pl 14) 428).toInt = 0 + (1 * r' 21 + (0)) := lw_rd (g := 14) (j := 428) h3.2.2.1 (List.mem_of_getElem? (i := 10) rfl) (by decide)
    have e11 : (nt_I M' (pl 14) 640).toInt = 0 + (1 * r' 22 + (0)) := lw_rd (g := 14) (j := 640) h3.2.2.1 (List.mem_of_getElem? (i := 11) rfl) (by decide)
    have g11 := hr' 11 (by omega)
    rw [h11] at g11
    have g12 := hr' 12 (by omega)
    rw [h12] at g12
    have g13 := hr' 13 (by omega)
    rw [h13] at g13
    have g14 := hr' 14 (by omega)
    rw [h14] at g14
    have g15 := hr' 15 (by omega)
    rw [h15] at g15
    have g16 := hr' 16 (by omega)
    rw [h16] at g16
    have g17 := hr' 17 (by omega)
    rw [h17] at g17
    have g18 := hr' 18 (by omega)
    rw [h18] at g18
    have g19 := hr' 19 (by omega)
    rw [h19] at g19
    have g20 := hr' 20 (by omega)
    rw [h20] at g20
    have g21 := hr' 21 (by omega)
    rw [h21] at g21
    have g22 := hr' 22 (by omega)
    rw [h22] at g22
    exact ⟨y, M', rfl, ⟨e0.trans (lw_s g11), e1.trans (lw_s g12), e2.trans (lw_s g13), e3.trans (lw_s g14), e4.trans (lw_s g15), e5.trans (lw_s g16), e6.trans (lw_s g17), e7.trans (lw_s g18), e8.trans (lw_s g19), e9.trans (lw_s g20), e10.trans (lw_s g21), e11.trans (lw_s g22)⟩⟩
theorem lwd_yearsR {X : nt_X} {pl : Nat → Nat} {v : Nat → Int} {M : nt_M} {d : Nat} {o : Option Value × nt_M} {b0 b1 b2 b3 ru : Int32} (hd : 9 ≤ d) (hB : ly_B pl v M) (hb11 : (0 : Int) ≤ (nt_I M (pl 31) 1).toInt ∧ (nt_I M (pl 31) 1).toInt ≤ 1) (hb13 : (0 : Int) ≤ (nt_I M (pl 4) 0).toInt ∧ (nt_I M (pl 4) 0).toInt ≤ 4) (hb23 : (0 : Int) ≤ (nt_I M (pl 0) 2).toInt ∧ (nt_I M (pl 0) 2).toInt ≤ 6) (hb24 : (0 : Int) ≤ ru.toInt ∧ ru.toInt ≤ 5) (hc0 : (0 : Int) ≤ -1 + (nt_I M (pl 0) 2).toInt + (-1) * ru.toInt) (k : nt_ev X d 231 [.ref (pl 0), .int ru, .int b0, .int b1, .int b2, .int b3] M o) : ∃ (y : Int32) (M' : nt_M), o = (some (.int y), M') ∧ (((nt_I M' (pl 31) 1).toInt = (nt_I M (pl 31) 1).toInt ∧ (nt_I M' (pl 31) 2).toInt = (nt_I M (pl 31) 2).toInt ∧ (nt_I M' (pl 4) 0).toInt = (nt_I M (pl 4) 0).toInt ∧ (nt_I M' (pl 4) 4).toInt = (nt_I M (pl 4) 4).toInt ∧ (nt_I M' (pl 14) 0).toInt = (nt_I M (pl 14) 0).toInt ∧ (nt_I M' (pl 14) 212).toInt = (nt_I M (pl 14) 212).toInt ∧ (nt_I M' (pl 14) 424).toInt = (nt_I M (pl 14) 424).toInt ∧ (nt_I M' (pl 14) 636).toInt = (nt_I M (pl 14) 636).toInt ∧ (nt_I M' (pl 14) 4).toInt = (nt_I M (pl 14) 4).toInt ∧ (nt_I M' (pl 14) 216).toInt = (nt_I M (pl 14) 216).toInt ∧ (nt_I M' (pl 14) 428).toInt = (nt_I M (pl 14) 428).toInt ∧ (nt_I M' (pl 14) 640).toInt = (nt_I M (pl 14) 640).toInt)) := by
  obtain ⟨r, hr, h11, h12, h13, h14, h15, h16, h17, h18, h19, h20, h21, h22, h23, h24, h25, h26, h27, h28⟩ : ∃ r : Nat → Int, (∀ s, s < 11 → r s = v s) ∧ r 11 = (nt_I M (pl 31) 1).toInt ∧ r 12 = (nt_I M (pl 31) 2).toInt ∧ r 13 = (nt_I M (pl 4) 0).toInt ∧ r 14 = (nt_I M (pl 4) 4).toInt ∧ r 15 = (nt_I M (pl 14) 0).toInt ∧ r 16 = (nt_I M (pl 14) 212).toInt ∧ r 17 = (nt_I M (pl 14) 424).toInt ∧ r 18 = (nt_I M (pl 14) 636).toInt ∧ r 19 = (nt_I M (pl 14) 4).toInt ∧ r 20 = (nt_I M (pl 14) 216).toInt ∧ r 21 = (nt_I M (pl 14) 428).toInt ∧ r 22 = (nt_I M (pl 14) 640).toInt ∧ r 23 = (nt_I M (pl 0) 2).toInt ∧ r 24 = ru.toInt ∧ r 25 = b0.toInt ∧ r 26 = b1.toInt ∧ r 27 = b2.toInt ∧ r 28 = b3.toInt := ⟨fun s => if s = 11 then (nt_I M (pl 31) 1).toInt else if s = 12 then (nt_I M (pl 31) 2).toInt else if s = 13 then (nt_I M (pl 4) 0).toInt else if s = 14 then (nt_I M (pl 4) 4).toInt else if s = 15 then (nt_I M (pl 14) 0).toInt else if s = 16 then (nt_I M (pl 14) 212).toInt else if s = 17 then (nt_I M (pl 14) 424).toInt else if s = 18 then (nt_I M (pl 14) 636).toInt else if s = 19 then (nt_I M (pl 14) 4).toInt else if s = 20 then (nt_I M (pl 14) 216).toInt else if s = 21 then (nt_I M (pl 14) 428).toInt else if s = 22 then (nt_I M (pl 14) 640).toInt else if s = 23 then (nt_I M (pl 0) 2).toInt else if s = 24 then ru.toInt else if s = 25 then b0.toInt else if s = 26 then b1.toInt else if s = 27 then b2.toInt else if s = 28 then b3.toInt else v s, fun s hs => by dsimp only; rw [if_neg (by omega), if_neg (by omega), if_neg (by omega), if_neg (by omega), if_neg (by omega), if_neg (by omega), if_neg (by omega), if_neg (by omega), if_neg (by omega), if_neg (by omega), if_neg (by omega), if_neg (by omega), if_neg (by omega), if_neg (by omega), if_neg (by omega), if_neg (by omega), if_neg (by omega), if_neg (by omega)], rfl, rfl, rfl, rfl, rfl, rfl, rfl, rfl, rfl, rfl, rfl, rfl, rfl, rfl, rfl, rfl, rfl, rfl⟩
  have hij := ly_ij (K := kk_wd_yearsR) rfl hB
  have hon := ly_app (K := kk_wd_yearsR) (ed := []) (ec := [((31, (1, [])), (0, [(11, 1)])), ((31, (2, [])), (0, [(12, 1)])), ((4, (0, [])), (0, [(13, 1)])), ((4, (4, [])), (0, [(14, 1)])), ((14, (0, [])), (0, [(15, 1)])), ((14, (212, [])), (0, [(16, 1)])), ((14, (424, [])), (0, [(17, 1)])), ((14, (636, [])), (0, [(18, 1)])), ((14, (4, [])), (0, [(19, 1)])), ((14, (216, [])), (0, [(20, 1)])), ((14, (428, [])), (0, [(21, 1)])), ((14, (640, [])), (0, [(22, 1)])), ((0, (2, [])), (0, [(23, 1)]))]) (er := []) rfl hB (fun _ _ => rfl) hr hij ly_nil (lw_oiC (g := 31) (j := 1) (by show 31 < 66; decide) (by decide) (by dsimp only; rw [sx_s_e]; exact h11.symm) (lw_oiC (g := 31) (j := 2) (by show 31 < 66; decide) (by decide) (by dsimp only; rw [sx_s_e]; exact h12.symm) (lw_oiC (g := 4) (j := 0) (by show 4 < 66; decide) (by decide) (by dsimp only; rw [sx_s_e]; exact h13.symm) (lw_oiC (g := 4) (j := 4) (by show 4 < 66; decide) (by decide) (by dsimp only; rw [sx_s_e]; exact h14.symm) (lw_oiC (g := 14) (j := 0) (by show 14 < 66; decide) (by decide) (by dsimp only; rw [sx_s_e]; exact h15.symm) (lw_oiC (g := 14) (j := 212) (by show 14 < 66; decide) (by decide) (by dsimp only; rw [sx_s_e]; exact h16.symm) (lw_oiC (g := 14) (j := 424) (by show 14 < 66; decide) (by decide) (by dsimp only; rw [sx_s_e]; exact h17.symm) (lw_oiC (g := 14) (j := 636) (by show 14 < 66; decide) (by decide) (by dsimp only; rw [sx_s_e]; exact h18.symm) (lw_oiC (g := 14) (j := 4) (by show 14 < 66; decide) (by decide) (by dsimp only; rw [sx_s_e]; exact h19.symm) (lw_oiC (g := 14) (j := 216) (by show 14 < 66; decide) (by decide) (by dsimp only; rw [sx_s_e]; exact h20.symm) (lw_oiC (g := 14) (j := 428) (by show 14 < 66; decide) (by decide) (by dsimp only; rw [sx_s_e]; exact h21.symm) (lw_oiC (g := 14) (j := 640) (by show 14 < 66; decide) (by decide) (by dsimp only; rw [sx_s_e]; exact h22.symm) (lw_oiC (g := 0) (j := 2) (by show 0 < 66; decide) (by decide) (by dsimp only; rw [sx_s_e]; exact h23.symm) (lw_oiN)))))))))))))) (fun q hq => by cases hq) (ly_oba (ly_obr hr (ly_ob hB)) (ly_oba (ly_ob1 (by rw [h11]; exact hb11)) (ly_oba (ly_obI (x := nt_I M (pl 31) 2) h12) (ly_oba (ly_ob1 (by rw [h13]; exact hb13)) (ly_oba (ly_obI (x := nt_I M (pl 4) 4) h14) (ly_oba (ly_obI (x := nt_I M (pl 14) 0) h15) (ly_oba (ly_obI (x := nt_I M (pl 14) 212) h16) (ly_oba (ly_obI (x := nt_I M (pl 14) 424) h17) (ly_oba (ly_obI (x := nt_I M (pl 14) 636) h18) (ly_oba (ly_obI (x := nt_I M (pl 14) 4) h19) (ly_oba (ly_obI (x := nt_I M (pl 14) 216) h20) (ly_oba (ly_obI (x := nt_I M (pl 14) 428) h21) (ly_oba (ly_obI (x := nt_I M (pl 14) 640) h22) (ly_oba (ly_ob1 (by rw [h23]; exact hb23)) (ly_oba (ly_ob1 (by rw [h24]; exact hb24)) (ly_oba (ly_obI h25) (ly_oba (ly_obI h26) (ly_oba (ly_obI h27) (ly_obI h28))))))))))))))))))) (fun q hq => by rw [List.mem_singleton.mp hq]; show (0 : Int) ≤ (-1) + (1 * r 23 + ((-1) * r 24 + (0))); rw [h23, h24]; have := hc0; omega)
  obtain ⟨p, hp, r', h2, h3⟩ := lw_app (ko_wd_yearsR X) rfl hd hon (vs := [.ref (pl 0), .int ru, .int b0, .int b1, .int b2, .int b3]) ⟨rfl, ⟨ru, rfl, (ly_e1 h24).symm⟩, ⟨b0, rfl, (ly_e1 h25).symm⟩, ⟨b1, rfl, (ly_e1 h26).symm⟩, ⟨b2, rfl, (ly_e1 h27).symm⟩, ⟨b3, rfl, (ly_e1 h28).symm⟩, trivial⟩ k
  have hr' : ∀ s, s < 29 → r' s = r s := fun s hs => h3.2.2.2.2.2.1 s hs
  obtain ⟨ov, M'⟩ := o
  rw [List.mem_singleton.mp hp] at h2 h3
  cases ov with
  | none => exact h2.elim
  | some w =>
    obtain ⟨y, rfl, hy⟩ := h2
    have hy : y.toInt = 0 + (1 * r' 29 + (0)) := hy
    have e0 : (nt_I M' (pl 31) 1).toInt = 0 + (1 * r' 11 + (0)) := lw_rd (g := 31) (j := 1) h3.2.2.1 (List.mem_of_getElem? (i := 0) rfl) (by decide)
    have e1 : (nt_I M' (pl 31) 2).toInt = 0 + (1 * r' 12 + (0)) := lw_rd (g := 31) (j := 2) h3.2.2.1 (List.mem_of_getElem? (i := 1) rfl) (by decide)
    have e2 : (nt_I M' (pl 4) 0).toInt = 0 + (1 * r' 13 + (0)) := lw_rd (g := 4) (j := 0) h3.2.2.1 (List.mem_of_getElem? (i := 2) rfl) (by decide)
    have e3 : (nt_I M' (pl 4) 4).toInt = 0 + (1 * r' 14 + (0)) := lw_rd (g := 4) (j := 4) h3.2.2.1 (List.mem_of_getElem? (i := 3) rfl) (by decide)
    have e4 : (nt_I M' (pl 14) 0).toInt = 0 + (1 * r' 15 + (0)) := lw_rd (g := 14) (j := 0) h3.2.2.1 (List.mem_of_getElem? (i := 4) rfl) (by decide)
    have e5 : (nt_I M' (pl 14) 212).toInt = 0 + (1 * r' 16 + (0)) := lw_rd (g := 14) (j := 212) h3.2.2.1 (List.mem_of_getElem? (i := 5) rfl) (by decide)
    have e6 : (nt_I M' (pl 14) 424).toInt = 0 + (1 * r' 17 + (0)) := lw_rd (g := 14) (j := 424) h3.2.2.1 (List.mem_of_getElem? (i := 6) rfl) (by decide)
    have e7 : (nt_I M' (pl 14) 636).toInt = 0 + (1 * r' 18 + (0)) := lw_rd (g := 14) (j := 636) h3.2.2.1 (List.mem_of_getElem? (i := 7) rfl) (by decide)
    have e8 : (nt_I M' (pl 14) 4).toInt = 0 + (1 * r' 19 + (0)) := lw_rd (g := 14) (j := 4) h3.2.2.1 (List.mem_of_getElem? (i := 8) rfl) (by decide)
    have e9 : (nt_I M' (pl 14) 216).toInt = 0 + (1 * r' 20 + (0)) := lw_rd (g := 14) (j := 216) h3.2.2.1 (List.mem_of_getElem? (i := 9) rfl) (by decide)
    have e10 : (nt_I M' (pl 14) 428).toInt = 0 + (1 * r' 21 + (0)) := lw_rd (g := 14) (j := 428) h3.2.2.1 (List.mem_of_getElem? (i := 10) rfl) (by decide)
    have e11 : (nt_I M' (pl 14) 640).toInt = 0 + (1 * r' 22 + (0)) := lw_rd (g := 14) (j := 640) h3.2.2.1 (List.mem_of_getElem? (i := 11) rfl) (by decide)
    have g11 := hr' 11 (by omega)
    rw [h11] at g11
    have g12 := hr' 12 (by omega)
    rw [h12] at g12
    have g13 := hr' 13 (by omega)
    rw [h13] at g13
    have g14 := hr' 14 (by omega)
    rw [h14] at g14
    have g15 := hr' 15 (by omega)
    rw [h15] at g15
    have g16 := hr' 16 (by omega)
    rw [h16] at g16
    have g17 := hr' 17 (by omega)
    rw [h17] at g17
    have g18 := hr' 18 (by omega)
    rw [h18] at g18
    have g19 := hr' 19 (by omega)
    rw [h19] at g19
    have g20 := hr' 20 (by omega)
    rw [h20] at g20
    have g21 := hr' 21 (by omega)
    rw [h21] at g21
    have g22 := hr' 22 (by omega)
    rw [h22] at g22
    exact ⟨y, M', rfl, ⟨e0.trans (lw_s g11), e1.trans (lw_s g12), e2.trans (lw_s g13), e3.trans (lw_s g14), e4.trans (lw_s g15), e5.trans (lw_s g16), e6.trans (lw_s g17), e7.trans (lw_s g18), e8.trans (lw_s g19), e9.trans (lw_s g20), e10.trans (lw_s g21), e11.trans (lw_s g22)⟩⟩
theorem lwd_n_yearsN {X : nt_X} {pl : Nat → Nat} {v : Nat → Int} {M : nt_M} {d : Nat} {o : Option Value × nt_M} {b0 b1 b2 b3 : Int32} (hd : 5 ≤ d) (hB : ly_B pl v M) (hb11 : (0 : Int) ≤ (nt_I M (pl 31) 1).toInt ∧ (nt_I M (pl 31) 1).toInt ≤ 1) (hb13 : (0 : Int) ≤ (nt_I M (pl 4) 0).toInt ∧ (nt_I M (pl 4) 0).toInt ≤ 4) (k : nt_ev X d 125 [.ref (pl 16), .int (Int32.ofInt (-1)), .int b0, .int b1, .int b2, .int b3] M o) : ∃ (y : Int32) (M' : nt_M), o = (some (.int y), M') ∧ (((nt_I M' (pl 31) 1).toInt = (nt_I M (pl 31) 1).toInt ∧ (nt_I M' (pl 31) 2).toInt = (nt_I M (pl 31) 2).toInt ∧ (nt_I M' (pl 4) 0).toInt = (nt_I M (pl 4) 0).toInt ∧ (nt_I M' (pl 4) 4).toInt = (nt_I M (pl 4) 4).toInt ∧ (nt_I M' (pl 14) 0).toInt = (nt_I M (pl 14) 0).toInt ∧ (nt_I M' (pl 14) 212).toInt = (nt_I M (pl 14) 212).toInt ∧ (nt_I M' (pl 14) 424).toInt = (nt_I M (pl 14) 424).toInt ∧ (nt_I M' (pl 14) 636).toInt = (nt_I M (pl 14) 636).toInt ∧ (nt_I M' (pl 14) 4).toInt = (nt_I M (pl 14) 4).toInt ∧ (nt_I M' (pl 14) 216).toInt = (nt_I M (pl 14) 216).toInt ∧ (nt_I M' (pl 14) 428).toInt = (nt_I M (pl 14) 428).toInt ∧ (nt_I M' (pl 14) 640).toInt = (nt_I M (pl 14) 640).toInt)) := by
  obtain ⟨r, hr, h11, h12, h13, h14, h15, h16, h17, h18, h19, h20, h21, h22, h23, h24, h25, h26⟩ : ∃ r : Nat → Int, (∀ s, s < 11 → r s = v s) ∧ r 11 = (nt_I M (pl 31) 1).toInt ∧ r 12 = (nt_I M (pl 31) 2).toInt ∧ r 13 = (nt_I M (pl 4) 0).toInt ∧ r 14 = (nt_I M (pl 4) 4).toInt ∧ r 15 = (nt_I M (pl 14) 0).toInt ∧ r 16 = (nt_I M (pl 14) 212).toInt ∧ r 17 = (nt_I M (pl 14) 424).toInt ∧ r 18 = (nt_I M (pl 14) 636).toInt ∧ r 19 = (nt_I M (pl 14) 4).toInt ∧ r 20 = (nt_I M (pl 14) 216).toInt ∧ r 21 = (nt_I M (pl 14) 428).toInt ∧ r 22 = (nt_I M (pl 14) 640).toInt ∧ r 23 = b0.toInt ∧ r 24 = b1.toInt ∧ r 25 = b2.toInt ∧ r 26 = b3.toInt := ⟨fun s => if s = 11 then (nt_I M (pl 31) 1).toInt else if s = 12 then (nt_I M (pl 31) 2).toInt else if s = 13 then (nt_I M (pl 4) 0).toInt else if s = 14 then (nt_I M (pl 4) 4).toInt else if s = 15 then (nt_I M (pl 14) 0).toInt else if s = 16 then (nt_I M (pl 14) 212).toInt else if s = 17 then (nt_I M (pl 14) 424).toInt else if s = 18 then (nt_I M (pl 14) 636).toInt else if s = 19 then (nt_I M (pl 14) 4).toInt else if s = 20 then (nt_I M (pl 14) 216).toInt else if s = 21 then (nt_I M (pl 14) 428).toInt else if s = 22 then (nt_I M (pl 14) 640).toInt else if s = 23 then b0.toInt else if s = 24 then b1.toInt else if s = 25 then b2.toInt else if s = 26 then b3.toInt else v s, fun s hs => by dsimp only; rw [if_neg (by omega), if_neg (by omega), if_neg (by omega), if_neg (by omega), if_neg (by omega), if_neg (by omega), if_neg (by omega), if_neg (by omega), if_neg (by omega), if_neg (by omega), if_neg (by omega), if_neg (by omega), if_neg (by omega), if_neg (by omega), if_neg (by omega), if_neg (by omega)], rfl, rfl, rfl, rfl, rfl, rfl, rfl, rfl, rfl, rfl, rfl, rfl, rfl, rfl, rfl, rfl⟩
  have hij := ly_ij (K := kk_wd_n_yearsN) rfl hB
  have hon := ly_app (K := kk_wd_n_yearsN) (ed := []) (ec := [((31, (1, [])), (0, [(11, 1)])), ((31, (2, [])), (0, [(12, 1)])), ((4, (0, [])), (0, [(13, 1)])), ((4, (4, [])), (0, [(14, 1)])), ((14, (0, [])), (0, [(15, 1)])), ((14, (212, [])), (0, [(16, 1)])), ((14, (424, [])), (0, [(17, 1)])), ((14, (636, [])), (0, [(18, 1)])), ((14, (4, [])), (0, [(19, 1)])), ((14, (216, [])), (0, [(20, 1)])), ((14, (428, [])), (0, [(21, 1)])), ((14, (640, [])), (0, [(22, 1)]))]) (er := []) rfl hB (fun _ _ => rfl) hr hij ly_nil (lw_oiC (g := 31) (j := 1) (by show 31 < 66; decide) (by decide) (by dsimp only; rw [sx_s_e]; exact h11.symm) (lw_oiC (g := 31) (j := 2) (by show 31 < 66; decide) (by decide) (by dsimp only; rw [sx_s_e]; exact h12.symm) (lw_oiC (g := 4) (j := 0) (by show 4 < 66; decide) (by decide) (by dsimp only; rw [sx_s_e]; exact h13.symm) (lw_oiC (g := 4) (j := 4) (by show 4 < 66; decide) (by decide) (by dsimp only; rw [sx_s_e]; exact h14.symm) (lw_oiC (g := 14) (j := 0) (by show 14 < 66; decide) (by decide) (by dsimp only; rw [sx_s_e]; exact h15.symm) (lw_oiC (g := 14) (j := 212) (by show 14 < 66; decide) (by decide) (by dsimp only; rw [sx_s_e]; exact h16.symm) (lw_oiC (g := 14) (j := 424) (by show 14 < 66; decide) (by decide) (by dsimp only; rw [sx_s_e]; exact h17.symm) (lw_oiC (g := 14) (j := 636) (by show 14 < 66; decide) (by decide) (by dsimp only; rw [sx_s_e]; exact h18.symm) (lw_oiC (g := 14) (j := 4) (by show 14 < 66; decide) (by decide) (by dsimp only; rw [sx_s_e]; exact h19.symm) (lw_oiC (g := 14) (j := 216) (by show 14 < 66; decide) (by decide) (by dsimp only; rw [sx_s_e]; exact h20.symm) (lw_oiC (g := 14) (j := 428) (by show 14 < 66; decide) (by decide) (by dsimp only; rw [sx_s_e]; exact h21.symm) (lw_oiC (g := 14) (j := 640) (by show 14 < 66; decide) (by decide) (by dsimp only; rw [sx_s_e]; exact h22.symm) (lw_oiN))))))))))))) (fun q hq => by cases hq) (ly_oba (ly_obr hr (ly_ob hB)) (ly_oba (ly_ob1 (by rw [h11]; exact hb11)) (ly_oba (ly_obI (x := nt_I M (pl 31) 2) h12) (ly_oba (ly_ob1 (by rw [h13]; exact hb13)) (ly_oba (ly_obI (x := nt_I M (pl 4) 4) h14) (ly_oba (ly_obI (x := nt_I M (pl 14) 0) h15) (ly_oba (ly_obI (x := nt_I M (pl 14) 212) h16) (ly_oba (ly_obI (x := nt_I M (pl 14) 424) h17) (ly_oba (ly_obI (x := nt_I M (pl 14) 636) h18) (ly_oba (ly_obI (x := nt_I M (pl 14) 4) h19) (ly_oba (ly_obI (x := nt_I M (pl 14) 216) h20) (ly_oba (ly_obI (x := nt_I M (pl 14) 428) h21) (ly_oba (ly_obI (x := nt_I M (pl 14) 640) h22) (ly_oba (ly_obI h23) (ly_oba (ly_obI h24) (ly_oba (ly_obI h25) (ly_obI h26))))))))))))))))) ly_oc0
  obtain ⟨p, hp, r', h2, h3⟩ := lw_app (ko_wd_n_yearsN X) rfl hd hon (vs := [.ref (pl 16), .int (Int32.ofInt (-1)), .int b0, .int b1, .int b2, .int b3]) ⟨rfl, ⟨_, rfl, by rw [sx_c_e]; decide⟩, ⟨b0, rfl, (ly_e1 h23).symm⟩, ⟨b1, rfl, (ly_e1 h24).symm⟩, ⟨b2, rfl, (ly_e1 h25).symm⟩, ⟨b3, rfl, (ly_e1 h26).symm⟩, trivial⟩ k
  have hr' : ∀ s, s < 27 → r' s = r s := fun s hs => h3.2.2.2.2.2.1 s hs
  obtain ⟨ov, M'⟩ := o
  rw [List.mem_singleton.mp hp] at h2 h3
  cases ov with
  | none => exact h2.elim
  | some w =>
    obtain ⟨y, rfl, hy⟩ := h2
    have hy : y.toInt = 0 + (1 * r' 27 + (0)) := hy
    have e0 : (nt_I M' (pl 31) 1).toInt = 0 + (1 * r' 11 + (0)) := lw_rd (g := 31) (j := 1) h3.2.2.1 (List.mem_of_getElem? (i := 0) rfl) (by decide)
    have e1 : (nt_I M' (pl 31) 2).toInt = 0 + (1 * r' 12 + (0)) := lw_rd (g := 31) (j := 2) h3.2.2.1 (List.mem_of_getElem? (i := 1) rfl) (by decide)
    have e2 : (nt_I M' (pl 4) 0).toInt = 0 + (1 * r' 13 + (0)) := lw_rd (g := 4) (j := 0) h3.2.2.1 (List.mem_of_getElem? (i := 2) rfl) (by decide)
    have e3 : (nt_I M' (pl 4) 4).toInt = 0 + (1 * r' 14 + (0)) := lw_rd (g := 4) (j := 4) h3.2.2.1 (List.mem_of_getElem? (i := 3) rfl) (by decide)
    have e4 : (nt_I M' (pl 14) 0).toInt = 0 + (1 * r' 15 + (0)) := lw_rd (g := 14) (j := 0) h3.2.2.1 (List.mem_of_getElem? (i := 4) rfl) (by decide)
    have e5 : (nt_I M' (pl 14) 212).toInt = 0 + (1 * r' 16 + (0)) := lw_rd (g := 14) (j := 212) h3.2.2.1 (List.mem_of_getElem? (i := 5) rfl) (by decide)
    have e6 : (nt_I M' (pl 14) 424).toInt = 0 + (1 * r' 17 + (0)) := lw_rd (g := 14) (j := 424) h3.2.2.1 (List.mem_of_getElem? (i := 6) rfl) (by decide)
    have e7 : (nt_I M' (pl 14) 636).toInt = 0 + (1 * r' 18 + (0)) := lw_rd (g := 14) (j := 636) h3.2.2.1 (List.mem_of_getElem? (i := 7) rfl) (by decide)
    have e8 : (nt_I M' (pl 14) 4).toInt = 0 + (1 * r' 19 + (0)) := lw_rd (g := 14) (j := 4) h3.2.2.1 (List.mem_of_getElem? (i := 8) rfl) (by decide)
    have e9 : (nt_I M' (pl 14) 216).toInt = 0 + (1 * r' 20 + (0)) := lw_rd (g := 14) (j := 216) h3.2.2.1 (List.mem_of_getElem? (i := 9) rfl) (by decide)
    have e10 : (nt_I M' (pl 14) 428).toInt = 0 + (1 * r' 21 + (0)) := lw_rd (g := 14) (j := 428) h3.2.2.1 (List.mem_of_getElem? (i := 10) rfl) (by decide)
    have e11 : (nt_I M' (pl 14) 640).toInt = 0 + (1 * r' 22 + (0)) := lw_rd (g := 14) (j := 640) h3.2.2.1 (List.mem_of_getElem? (i := 11) rfl) (by decide)
    have g11 := hr' 11 (by omega)
    rw [h11] at g11
    have g12 := hr' 12 (by omega)
    rw [h12] at g12
    have g13 := hr' 13 (by omega)
    rw [h13] at g13
    have g14 := hr' 14 (by omega)
    rw [h14] at g14
    have g15 := hr' 15 (by omega)
    rw [h15] at g15
    have g16 := hr' 16 (by omega)
    rw [h16] at g16
    have g17 := hr' 17 (by omega)
    rw [h17] at g17
    have g18 := hr' 18 (by omega)
    rw [h18] at g18
    have g19 := hr' 19 (by omega)
    rw [h19] at g19
    have g20 := hr' 20 (by omega)
    rw [h20] at g20
    have g21 := hr' 21 (by omega)
    rw [h21] at g21
    have g22 := hr' 22 (by omega)
    rw [h22] at g22
    exact ⟨y, M', rfl, ⟨e0.trans (lw_s g11), e1.trans (lw_s g12), e2.trans (lw_s g13), e3.trans (lw_s g14), e4.trans (lw_s g15), e5.trans (lw_s g16), e6.trans (lw_s g17), e7.trans (lw_s g18), e8.trans (lw_s g19), e9.trans (lw_s g20), e10.trans (lw_s g21), e11.trans (lw_s g22)⟩⟩
theorem lwd_n_yearsL {X : nt_X} {pl : Nat → Nat} {v : Nat → Int} {M : nt_M} {d : Nat} {o : Option Value × nt_M} {b0 b1 b2 b3 ru : Int32} (hd : 1 ≤ d) (hB : ly_B pl v M) (hb11 : (0 : Int) ≤ (nt_I M (pl 31) 1).toInt ∧ (nt_I M (pl 31) 1).toInt ≤ 1) (hb13 : (0 : Int) ≤ (nt_I M (pl 4) 0).toInt ∧ (nt_I M (pl 4) 0).toInt ≤ 4) (hb23 : (-2147483648 : Int) ≤ ru.toInt ∧ ru.toInt ≤ -2) (k : nt_ev X d 125 [.ref (pl 16), .int ru, .int b0, .int b1, .int b2, .int b3] M o) : ∃ (y : Int32) (M' : nt_M), o = (some (.int y), M') ∧ (((nt_I M' (pl 31) 1).toInt = (nt_I M (pl 31) 1).toInt ∧ (nt_I M' (pl 31) 2).toInt = (nt_I M (pl 31) 2).toInt ∧ (nt_I M' (pl 4) 0).toInt = (nt_I M (pl 4) 0).toInt ∧ (nt_I M' (pl 4) 4).toInt = (nt_I M (pl 4) 4).toInt ∧ (nt_I M' (pl 14) 0).toInt = (nt_I M (pl 14) 0).toInt ∧ (nt_I M' (pl 14) 212).toInt = (nt_I M (pl 14) 212).toInt ∧ (nt_I M' (pl 14) 424).toInt = (nt_I M (pl 14) 424).toInt ∧ (nt_I M' (pl 14) 636).toInt = (nt_I M (pl 14) 636).toInt ∧ (nt_I M' (pl 14) 4).toInt = (nt_I M (pl 14) 4).toInt ∧ (nt_I M' (pl 14) 216).toInt = (nt_I M (pl 14) 216).toInt ∧ (nt_I M' (pl 14) 428).toInt = (nt_I M (pl 14) 428).toInt ∧ (nt_I M' (pl 14) 640).toInt = (nt_I M (pl 14) 640).toInt)) := by
  obtain ⟨r, hr, h11, h12, h13, h14, h15, h16, h17, h18, h19, h20, h21, h22, h23, h24, h25, h26, h27⟩ : ∃ r : Nat → Int, (∀ s, s < 11 → r s = v s) ∧ r 11 = (nt_I M (pl 31) 1).toInt ∧ r 12 = (nt_I M (pl 31) 2).toInt ∧ r 13 = (nt_I M (pl 4) 0).toInt ∧ r 14 = (nt_I M (pl 4) 4).toInt ∧ r 15 = (nt_I M (pl 14) 0).toInt ∧ r 16 = (nt_I M (pl 14) 212).toInt ∧ r 17 = (nt_I M (pl 14) 424).toInt ∧ r 18 = (nt_I M (pl 14) 636).toInt ∧ r 19 = (nt_I M (pl 14) 4).toInt ∧ r 20 = (nt_I M (pl 14) 216).toInt ∧ r 21 = (nt_I M (pl 14) 428).toInt ∧ r 22 = (nt_I M (pl 14) 640).toInt ∧ r 23 = ru.toInt ∧ r 24 = b0.toInt ∧ r 25 = b1.toInt ∧ r 26 = b2.toInt ∧ r 27 = b3.toInt := ⟨fun s => if s = 11 then (nt_I M (pl 31) 1).toInt else if s = 12 then (nt_I M (pl 31) 2).toInt else if s = 13 then (nt_I M (pl 4) 0).toInt else if s = 14 then (nt_I M (pl 4) 4).toInt else if s = 15 then (nt_I M (pl 14) 0).toInt else if s = 16 then (nt_I M (pl 14) 212).toInt else if s = 17 then (nt_I M (pl 14) 424).toInt else if s = 18 then (nt_I M (pl 14) 636).toInt else if s = 19 then (nt_I M (pl 14) 4).toInt else if s = 20 then (nt_I M (pl 14) 216).toInt else if s = 21 then (nt_I M (pl 14) 428).toInt else if s = 22 then (nt_I M (pl 14) 640).toInt else if s = 23 then ru.toInt else if s = 24 then b0.toInt else if s = 25 then b1.toInt else if s = 26 then b2.toInt else if s = 27 then b3.toInt else v s, fun s hs => by dsimp only; rw [if_neg (by omega), if_neg (by omega), if_neg (by omega), if_neg (by omega), if_neg (by omega), if_neg (by omega), if_neg (by omega), if_neg (by omega), if_neg (by omega), if_neg (by omega), if_neg (by omega), if_neg (by omega), if_neg (by omega), if_neg (by omega), if_neg (by omega), if_neg (by omega), if_neg (by omega)], rfl, rfl, rfl, rfl, rfl, rfl, rfl, rfl, rfl, rfl, rfl, rfl, rfl, rfl, rfl, rfl, rfl⟩
  have hij := ly_ij (K := kk_wd_n_yearsL) rfl hB
  have hon := ly_app (K := kk_wd_n_yearsL) (ed := []) (ec := [((31, (1, [])), (0, [(11, 1)])), ((31, (2, [])), (0, [(12, 1)])), ((4, (0, [])), (0, [(13, 1)])), ((4, (4, [])), (0, [(14, 1)])), ((14, (0, [])), (0, [(15, 1)])), ((14, (212, [])), (0, [(16, 1)])), ((14, (424, [])), (0, [(17, 1)])), ((14, (636, [])), (0, [(18, 1)])), ((14, (4, [])), (0, [(19, 1)])), ((14, (216, [])), (0, [(20, 1)])), ((14, (428, [])), (0, [(21, 1)])), ((14, (640, [])), (0, [(22, 1)]))]) (er := []) rfl hB (fun _ _ => rfl) hr hij ly_nil (lw_oiC (g := 31) (j := 1) (by show 31 < 66; decide) (by decide) (by dsimp only; rw [sx_s_e]; exact h11.symm) (lw_oiC (g := 31) (j := 2) (by show 31 < 66; decide) (by decide) (by dsimp only; rw [sx_s_e]; exact h12.symm) (lw_oiC (g := 4) (j := 0) (by show 4 < 66; decide) (by decide) (by dsimp only; rw [sx_s_e]; exact h13.symm) (lw_oiC (g := 4) (j := 4) (by show 4 < 66; decide) (by decide) (by dsimp only; rw [sx_s_e]; exact h14.symm) (lw_oiC (g := 14) (j := 0) (by show 14 < 66; decide) (by decide) (by dsimp only; rw [sx_s_e]; exact h15.symm) (lw_oiC (g := 14) (j := 212) (by show 14 < 66; decide) (by decide) (by dsimp only; rw [sx_s_e]; exact h16.symm) (lw_oiC (g := 14) (j := 424) (by show 14 < 66; decide) (by decide) (by dsimp only; rw [sx_s_e]; exact h17.symm) (lw_oiC (g := 14) (j := 636) (by show 14 < 66; decide) (by decide) (by dsimp only; rw [sx_s_e]; exact h18.symm) (lw_oiC (g := 14) (j := 4) (by show 14 < 66; decide) (by decide) (by dsimp only; rw [sx_s_e]; exact h19.symm) (lw_oiC (g := 14) (j := 216) (by show 14 < 66; decide) (by decide) (by dsimp only; rw [sx_s_e]; exact h20.symm) (lw_oiC (g := 14) (j := 428) (by show 14 < 66; decide) (by decide) (by dsimp only; rw [sx_s_e]; exact h21.symm) (lw_oiC (g := 14) (j := 640) (by show 14 < 66; decide) (by decide) (by dsimp only; rw [sx_s_e]; exact h22.symm) (lw_oiN))))))))))))) (fun q hq => by cases hq) (ly_oba (ly_obr hr (ly_ob hB)) (ly_oba (ly_ob1 (by rw [h11]; exact hb11)) (ly_oba (ly_obI (x := nt_I M (pl 31) 2) h12) (ly_oba (ly_ob1 (by rw [h13]; exact hb13)) (ly_oba (ly_obI (x := nt_I M (pl 4) 4) h14) (ly_oba (ly_obI (x := nt_I M (pl 14) 0) h15) (ly_oba (ly_obI (x := nt_I M (pl 14) 212) h16) (ly_oba (ly_obI (x := nt_I M (pl 14) 424) h17) (ly_oba (ly_obI (x := nt_I M (pl 14) 636) h18) (ly_oba (ly_obI (x := nt_I M (pl 14) 4) h19) (ly_oba (ly_obI (x := nt_I M (pl 14) 216) h20) (ly_oba (ly_obI (x := nt_I M (pl 14) 428) h21) (ly_oba (ly_obI (x := nt_I M (pl 14) 640) h22) (ly_oba (ly_ob1 (by rw [h23]; exact hb23)) (ly_oba (ly_obI h24) (ly_oba (ly_obI h25) (ly_oba (ly_obI h26) (ly_obI h27)))))))))))))))))) ly_oc0
  obtain ⟨p, hp, r', h2, h3⟩ := lw_app (ko_wd_n_yearsL X) rfl hd hon (vs := [.ref (pl 16), .int ru, .int b0, .int b1, .int b2, .int b3]) ⟨rfl, ⟨ru, rfl, (ly_e1 h23).symm⟩, ⟨b0, rfl, (ly_e1 h24).symm⟩, ⟨b1, rfl, (ly_e1 h25).symm⟩, ⟨b2, rfl, (ly_e1 h26).symm⟩, ⟨b3, rfl, (ly_e1 h27).symm⟩, trivial⟩ k
  have hr' : ∀ s, s < 28 → r' s = r s := fun s hs => h3.2.2.2.2.2.1 s hs
  obtain ⟨ov, M'⟩ := o
  rw [List.mem_singleton.mp hp] at h2 h3
  cases ov with
  | none => exact h2.elim
  | some w =>
    obtain ⟨y, rfl, hy⟩ := h2
    have hy : y.toInt = 0 + (1 * r' 28 + (0)) := hy
    have e0 : (nt_I M' (pl 31) 1).toInt = 0 + (1 * r' 11 + (0)) := lw_rd (g := 31) (j := 1) h3.2.2.1 (List.mem_of_getElem? (i := 0) rfl) (by decide)
    have e1 : (nt_I M' (pl 31) 2).toInt = 0 + (1 * r' 12 + (0)) := lw_rd (g := 31) (j := 2) h3.2.2.1 (List.mem_of_getElem? (i := 1) rfl) (by decide)
    have e2 : (nt_I M' (pl 4) 0).toInt = 0 + (1 * r' 13 + (0)) := lw_rd (g := 4) (j := 0) h3.2.2.1 (List.mem_of_getElem? (i := 2) rfl) (by decide)
    have e3 : (nt_I M' (pl 4) 4).toInt = 0 + (1 * r' 14 + (0)) := lw_rd (g := 4) (j := 4) h3.2.2.1 (List.mem_of_getElem? (i := 3) rfl) (by decide)
    have e4 : (nt_I M' (pl 14) 0).toInt = 0 + (1 * r' 15 + (0)) := lw_rd (g := 14) (j := 0) h3.2.2.1 (List.mem_of_getElem? (i := 4) rfl) (by decide)
    have e5 : (nt_I M' (pl 14) 212).toInt = 0 + (1 * r' 16 + (0)) := lw_rd (g := 14) (j := 212) h3.2.2.1 (List.mem_of_getElem? (i := 5) rfl) (by decide)
    have e6 : (nt_I M' (pl 14) 424).toInt = 0 + (1 * r' 17 + (0)) := lw_rd (g := 14) (j := 424) h3.2.2.1 (List.mem_of_getElem? (i := 6) rfl) (by decide)
    have e7 : (nt_I M' (pl 14) 636).toInt = 0 + (1 * r' 18 + (0)) := lw_rd (g := 14) (j := 636) h3.2.2.1 (List.mem_of_getElem? (i := 7) rfl) (by decide)
    have e8 : (nt_I M' (pl 14) 4).toInt = 0 + (1 * r' 19 + (0)) := lw_rd (g := 14) (j := 4) h3.2.2.1 (List.mem_of_getElem? (i := 8) rfl) (by decide)
    have e9 : (nt_I M' (pl 14) 216).toInt = 0 + (1 * r' 20 + (0)) := lw_rd (g := 14) (j := 216) h3.2.2.1 (List.mem_of_getElem? (i := 9) rfl) (by decide)
    have e10 : (nt_I M' (pl 14) 428).toInt = 0 + (1 * r' 21 + (0)) := lw_rd (g := 14) (j := 428) h3.2.2.1 (List.mem_of_getElem? (i := 10) rfl) (by decide)
    have e11 : (nt_I M' (pl 14) 640).toInt = 0 + (1 * r' 22 + (0)) := lw_rd (g := 14) (j := 640) h3.2.2.1 (List.mem_of_getElem? (i := 11) rfl) (by decide)
    have g11 := hr' 11 (by omega)
    rw [h11] at g11
    have g12 := hr' 12 (by omega)
    rw [h12] at g12
    have g13 := hr' 13 (by omega)
    rw [h13] at g13
    have g14 := hr' 14 (by omega)
    rw [h14] at g14
    have g15 := hr' 15 (by omega)
    rw [h15] at g15
    have g16 := hr' 16 (by omega)
    rw [h16] at g16
    have g17 := hr' 17 (by omega)
    rw [h17] at g17
    have g18 := hr' 18 (by omega)
    rw [h18] at g18
    have g19 := hr' 19 (by omega)
    rw [h19] at g19
    have g20 := hr' 20 (by omega)
    rw [h20] at g20
    have g21 := hr' 21 (by omega)
    rw [h21] at g21
    have g22 := hr' 22 (by omega)
    rw [h22] at g22
    exact ⟨y, M', rfl, ⟨e0.trans (lw_s g11), e1.trans (lw_s g12), e2.trans (lw_s g13), e3.trans (lw_s g14), e4.trans (lw_s g15), e5.trans (lw_s g16), e6.trans (lw_s g17), e7.trans (lw_s g18), e8.trans (lw_s g19), e9.trans (lw_s g20), e10.trans (lw_s g21), e11.trans (lw_s g22)⟩⟩
theorem lwd_n_yearsH {X : nt_X} {pl : Nat → Nat} {v : Nat → Int} {M : nt_M} {d : Nat} {o : Option Value × nt_M} {b0 b1 b2 b3 ru : Int32} (hd : 1 ≤ d) (hB : ly_B pl v M) (hb11 : (0 : Int) ≤ (nt_I M (pl 31) 1).toInt ∧ (nt_I M (pl 31) 1).toInt ≤ 1) (hb13 : (0 : Int) ≤ (nt_I M (pl 4) 0).toInt ∧ (nt_I M (pl 4) 0).toInt ≤ 4) (hc0 : (0 : Int) ≤ (-1) * v 2 + ru.toInt) (k : nt_ev X d 125 [.ref (pl 16), .int ru, .int b0, .int b1, .int b2, .int b3] M o) : ∃ (y : Int32) (M' : nt_M), o = (some (.int y), M') ∧ (((nt_I M' (pl 31) 1).toInt = (nt_I M (pl 31) 1).toInt ∧ (nt_I M' (pl 31) 2).toInt = (nt_I M (pl 31) 2).toInt ∧ (nt_I M' (pl 4) 0).toInt = (nt_I M (pl 4) 0).toInt ∧ (nt_I M' (pl 4) 4).toInt = (nt_I M (pl 4) 4).toInt ∧ (nt_I M' (pl 14) 0).toInt = (nt_I M (pl 14) 0).toInt ∧ (nt_I M' (pl 14) 212).toInt = (nt_I M (pl 14) 212).toInt ∧ (nt_I M' (pl 14) 424).toInt = (nt_I M (pl 14) 424).toInt ∧ (nt_I M' (pl 14) 636).toInt = (nt_I M (pl 14) 636).toInt ∧ (nt_I M' (pl 14) 4).toInt = (nt_I M (pl 14) 4).toInt ∧ (nt_I M' (pl 14) 216).toInt = (nt_I M (pl 14) 216).toInt ∧ (nt_I M' (pl 14) 428).toInt = (nt_I M (pl 14) 428).toInt ∧ (nt_I M' (pl 14) 640).toInt = (nt_I M (pl 14) 640).toInt)) := by
  obtain ⟨r, hr, h11, h12, h13, h14, h15, h16, h17, h18, h19, h20, h21, h22, h23, h24, h25, h26, h27⟩ : ∃ r : Nat → Int, (∀ s, s < 11 → r s = v s) ∧ r 11 = (nt_I M (pl 31) 1).toInt ∧ r 12 = (nt_I M (pl 31) 2).toInt ∧ r 13 = (nt_I M (pl 4) 0).toInt ∧ r 14 = (nt_I M (pl 4) 4).toInt ∧ r 15 = (nt_I M (pl 14) 0).toInt ∧ r 16 = (nt_I M (pl 14) 212).toInt ∧ r 17 = (nt_I M (pl 14) 424).toInt ∧ r 18 = (nt_I M (pl 14) 636).toInt ∧ r 19 = (nt_I M (pl 14) 4).toInt ∧ r 20 = (nt_I M (pl 14) 216).toInt ∧ r 21 = (nt_I M (pl 14) 428).toInt ∧ r 22 = (nt_I M (pl 14) 640).toInt ∧ r 23 = ru.toInt ∧ r 24 = b0.toInt ∧ r 25 = b1.toInt ∧ r 26 = b2.toInt ∧ r 27 = b3.toInt := ⟨fun s => if s = 11 then (nt_I M (pl 31) 1).toInt else if s = 12 then (nt_I M (pl 31) 2).toInt else if s = 13 then (nt_I M (pl 4) 0).toInt else if s = 14 then (nt_I M (pl 4) 4).toInt else if s = 15 then (nt_I M (pl 14) 0).toInt else if s = 16 then (nt_I M (pl 14) 212).toInt else if s = 17 then (nt_I M (pl 14) 424).toInt else if s = 18 then (nt_I M (pl 14) 636).toInt else if s = 19 then (nt_I M (pl 14) 4).toInt else if s = 20 then (nt_I M (pl 14) 216).toInt else if s = 21 then (nt_I M (pl 14) 428).toInt else if s = 22 then (nt_I M (pl 14) 640).toInt else if s = 23 then ru.toInt else if s = 24 then b0.toInt else if s = 25 then b1.toInt else if s = 26 then b2.toInt else if s = 27 then b3.toInt else v s, fun s hs => by dsimp only; rw [if_neg (by omega), if_neg (by omega), if_neg (by omega), if_neg (by omega), if_neg (by omega), if_neg (by omega), if_neg (by omega), if_neg (by omega), if_neg (by omega), if_neg (by omega), if_neg (by omega), if_neg (by omega), if_neg (by omega), if_neg (by omega), if_neg (by omega), if_neg (by omega), if_neg (by omega)], rfl, rfl, rfl, rfl, rfl, rfl, rfl, rfl, rfl, rfl, rfl, rfl, rfl, rfl, rfl, rfl, rfl⟩
  have hij := ly_ij (K := kk_wd_n_yearsH) rfl hB
  have hon := ly_app (K := kk_wd_n_yearsH) (ed := []) (ec := [((31, (1, [])), (0, [(11, 1)])), ((31, (2, [])), (0, [(12, 1)])), ((4, (0, [])), (0, [(13, 1)])), ((4, (4, [])), (0, [(14, 1)])), ((14, (0, [])), (0, [(15, 1)])), ((14, (212, [])), (0, [(16, 1)])), ((14, (424, [])), (0, [(17, 1)])), ((14, (636, [])), (0, [(18, 1)])), ((14, (4, [])), (0, [(19, 1)])), ((14, (216, [])), (0, [(20, 1)])), ((14, (428, [])), (0, [(21, 1)])), ((14, (640, [])), (0, [(22, 1)]))]) (er := []) rfl hB (fun _ _ => rfl) hr hij ly_nil (lw_oiC (g := 31) (j := 1) (by show 31 < 66; decide) (by decide) (by dsimp only; rw [sx_s_e]; exact h11.symm) (lw_oiC (g := 31) (j := 2) (by show 31 < 66; decide) (by decide) (by dsimp only; rw [sx_s_e]; exact h12.symm) (lw_oiC (g := 4) (j := 0) (by show 4 < 66; decide) (by decide) (by dsimp only; rw [sx_s_e]; exact h13.symm) (lw_oiC (g := 4) (j := 4) (by show 4 < 66; decide) (by decide) (by dsimp only; rw [sx_s_e]; exact h14.symm) (lw_oiC (g := 14) (j := 0) (by show 14 < 66; decide) (by decide) (by dsimp only; rw [sx_s_e]; exact h15.symm) (lw_oiC (g := 14) (j := 212) (by show 14 < 66; decide) (by decide) (by dsimp only; rw [sx_s_e]; exact h16.symm) (lw_oiC (g := 14) (j := 424) (by show 14 < 66; decide) (by decide) (by dsimp only; rw [sx_s_e]; exact h17.symm) (lw_oiC (g := 14) (j := 636) (by show 14 < 66; decide) (by decide) (by dsimp only; rw [sx_s_e]; exact h18.symm) (lw_oiC (g := 14) (j := 4) (by show 14 < 66; decide) (by decide) (by dsimp only; rw [sx_s_e]; exact h19.symm) (lw_oiC (g := 14) (j := 216) (by show 14 < 66; decide) (by decide) (by dsimp only; rw [sx_s_e]; exact h20.symm) (lw_oiC (g := 14) (j := 428) (by show 14 < 66; decide) (by decide) (by dsimp only; rw [sx_s_e]; exact h21.symm) (lw_oiC (g := 14) (j := 640) (by show 14 < 66; decide) (by decide) (by dsimp only; rw [sx_s_e]; exact h22.symm) (lw_oiN))))))))))))) (fun q hq => by cases hq) (ly_oba (ly_obr hr (ly_ob hB)) (ly_oba (ly_ob1 (by rw [h11]; exact hb11)) (ly_oba (ly_obI (x := nt_I M (pl 31) 2) h12) (ly_oba (ly_ob1 (by rw [h13]; exact hb13)) (ly_oba (ly_obI (x := nt_I M (pl 4) 4) h14) (ly_oba (ly_obI (x := nt_I M (pl 14) 0) h15) (ly_oba (ly_obI (x := nt_I M (pl 14) 212) h16) (ly_oba (ly_obI (x := nt_I M (pl 14) 424) h17) (ly_oba (ly_obI (x := nt_I M (pl 14) 636) h18) (ly_oba (ly_obI (x := nt_I M (pl 14) 4) h19) (ly_oba (ly_obI (x := nt_I M (pl 14) 216) h20) (ly_oba (ly_obI (x := nt_I M (pl 14) 428) h21) (ly_oba (ly_obI (x := nt_I M (pl 14) 640) h22) (ly_oba (ly_obI h23) (ly_oba (ly_obI h24) (ly_oba (ly_obI h25) (ly_oba (ly_obI h26) (ly_obI h27)))))))))))))))))) (fun q hq => by rw [List.mem_singleton.mp hq]; show (0 : Int) ≤ 0 + ((-1) * r 2 + (1 * r 23 + (0))); rw [hr 2 (by omega), h23]; have := hc0; omega)
  obtain ⟨p, hp, r', h2, h3⟩ := lw_app (ko_wd_n_yearsH X) rfl hd hon (vs := [.ref (pl 16), .int ru, .int b0, .int b1, .int b2, .int b3]) ⟨rfl, ⟨ru, rfl, (ly_e1 h23).symm⟩, ⟨b0, rfl, (ly_e1 h24).symm⟩, ⟨b1, rfl, (ly_e1 h25).symm⟩, ⟨b2, rfl, (ly_e1 h26).symm⟩, ⟨b3, rfl, (ly_e1 h27).symm⟩, trivial⟩ k
  have hr' : ∀ s, s < 28 → r' s = r s := fun s hs => h3.2.2.2.2.2.1 s hs
  obtain ⟨ov, M'⟩ := o
  rw [List.mem_singleton.mp hp] at h2 h3
  cases ov with
  | none => exact h2.elim
  | some w =>
    obtain ⟨y, rfl, hy⟩ := h2
    have hy : y.toInt = 0 + (1 * r' 28 + (0)) := hy
    have e0 : (nt_I M' (pl 31) 1).toInt = 0 + (1 * r' 11 + (0)) := lw_rd (g := 31) (j := 1) h3.2.2.1 (List.mem_of_getElem? (i := 0) rfl) (by decide)
    have e1 : (nt_I M' (pl 31) 2).toInt = 0 + (1 * r' 12 + (0)) := lw_rd (g := 31) (j := 2) h3.2.2.1 (List.mem_of_getElem? (i := 1) rfl) (by decide)
    have e2 : (nt_I M' (pl 4) 0).toInt = 0 + (1 * r' 13 + (0)) := lw_rd (g := 4) (j := 0) h3.2.2.1 (List.mem_of_getElem? (i := 2) rfl) (by decide)
    have e3 : (nt_I M' (pl 4) 4).toInt = 0 + (1 * r' 14 + (0)) := lw_rd (g := 4) (j := 4) h3.2.2.1 (List.mem_of_getElem? (i := 3) rfl) (by decide)
    have e4 : (nt_I M' (pl 14) 0).toInt = 0 + (1 * r' 15 + (0)) := lw_rd (g := 14) (j := 0) h3.2.2.1 (List.mem_of_getElem? (i := 4) rfl) (by decide)
    have e5 : (nt_I M' (pl 14) 212).toInt = 0 + (1 * r' 16 + (0)) := lw_rd (g := 14) (j := 212) h3.2.2.1 (List.mem_of_getElem? (i := 5) rfl) (by decide)
    have e6 : (nt_I M' (pl 14) 424).toInt = 0 + (1 * r' 17 + (0)) := lw_rd (g := 14) (j := 424) h3.2.2.1 (List.mem_of_getElem? (i := 6) rfl) (by decide)
    have e7 : (nt_I M' (pl 14) 636).toInt = 0 + (1 * r' 18 + (0)) := lw_rd (g := 14) (j := 636) h3.2.2.1 (List.mem_of_getElem? (i := 7) rfl) (by decide)
    have e8 : (nt_I M' (pl 14) 4).toInt = 0 + (1 * r' 19 + (0)) := lw_rd (g := 14) (j := 4) h3.2.2.1 (List.mem_of_getElem? (i := 8) rfl) (by decide)
    have e9 : (nt_I M' (pl 14) 216).toInt = 0 + (1 * r' 20 + (0)) := lw_rd (g := 14) (j := 216) h3.2.2.1 (List.mem_of_getElem? (i := 9) rfl) (by decide)
    have e10 : (nt_I M' (pl 14) 428).toInt = 0 + (1 * r' 21 + (0)) := lw_rd (g := 14) (j := 428) h3.2.2.1 (List.mem_of_getElem? (i := 10) rfl) (by decide)
    have e11 : (nt_I M' (pl 14) 640).toInt = 0 + (1 * r' 22 + (0)) := lw_rd (g := 14) (j := 640) h3.2.2.1 (List.mem_of_getElem? (i := 11) rfl) (by decide)
    have g11 := hr' 11 (by omega)
    rw [h11] at g11
    have g12 := hr' 12 (by omega)
    rw [h12] at g12
    have g13 := hr' 13 (by omega)
    rw [h13] at g13
    have g14 := hr' 14 (by omega)
    rw [h14] at g14
    have g15 := hr' 15 (by omega)
    rw [h15] at g15
    have g16 := hr' 16 (by omega)
    rw [h16] at g16
    have g17 := hr' 17 (by omega)
    rw [h17] at g17
    have g18 := hr' 18 (by omega)
    rw [h18] at g18
    have g19 := hr' 19 (by omega)
    rw [h19] at g19
    have g20 := hr' 20 (by omega)
    rw [h20] at g20
    have g21 := hr' 21 (by omega)
    rw [h21] at g21
    have g22 := hr' 22 (by omega)
    rw [h22] at g22
    exact ⟨y, M', rfl, ⟨e0.trans (lw_s g11), e1.trans (lw_s g12), e2.trans (lw_s g13), e3.trans (lw_s g14), e4.trans (lw_s g15), e5.trans (lw_s g16), e6.trans (lw_s g17), e7.trans (lw_s g18), e8.trans (lw_s g19), e9.trans (lw_s g20), e10.trans (lw_s g21), e11.trans (lw_s g22)⟩⟩
theorem lwd_n_yearsR {X : nt_X} {pl : Nat → Nat} {v : Nat → Int} {M : nt_M} {d : Nat} {o : Option Value × nt_M} {b0 b1 b2 b3 ru : Int32} (hd : 7 ≤ d) (hB : ly_B pl v M) {mk xi : Nat → Int} (hS : ly_S pl mk xi (v 2) M) (hb11 : (0 : Int) ≤ (nt_I M (pl 31) 1).toInt ∧ (nt_I M (pl 31) 1).toInt ≤ 1) (hb13 : (0 : Int) ≤ (nt_I M (pl 4) 0).toInt ∧ (nt_I M (pl 4) 0).toInt ≤ 4) (hb23 : (0 : Int) ≤ ru.toInt ∧ ru.toInt ≤ 5) (hc0 : (0 : Int) ≤ -1 + v 2 + (-1) * ru.toInt) (k : nt_ev X d 125 [.ref (pl 16), .int ru, .int b0, .int b1, .int b2, .int b3] M o) : ∃ (y : Int32) (M' : nt_M), o = (some (.int y), M') ∧ (((nt_I M' (pl 31) 1).toInt = (nt_I M (pl 31) 1).toInt ∧ (nt_I M' (pl 31) 2).toInt = (nt_I M (pl 31) 2).toInt ∧ (nt_I M' (pl 4) 0).toInt = (nt_I M (pl 4) 0).toInt ∧ (nt_I M' (pl 4) 4).toInt = (nt_I M (pl 4) 4).toInt ∧ (nt_I M' (pl 14) 0).toInt = (nt_I M (pl 14) 0).toInt ∧ (nt_I M' (pl 14) 212).toInt = (nt_I M (pl 14) 212).toInt ∧ (nt_I M' (pl 14) 424).toInt = (nt_I M (pl 14) 424).toInt ∧ (nt_I M' (pl 14) 636).toInt = (nt_I M (pl 14) 636).toInt ∧ (nt_I M' (pl 14) 4).toInt = (nt_I M (pl 14) 4).toInt ∧ (nt_I M' (pl 14) 216).toInt = (nt_I M (pl 14) 216).toInt ∧ (nt_I M' (pl 14) 428).toInt = (nt_I M (pl 14) 428).toInt ∧ (nt_I M' (pl 14) 640).toInt = (nt_I M (pl 14) 640).toInt)) := by
  obtain ⟨r, hr, h11, h12, h13, h14, h15, h16, h17, h18, h19, h20, h21, h22, h23, h24, h25, h26, h27⟩ : ∃ r : Nat → Int, (∀ s, s < 11 → r s = v s) ∧ r 11 = (nt_I M (pl 31) 1).toInt ∧ r 12 = (nt_I M (pl 31) 2).toInt ∧ r 13 = (nt_I M (pl 4) 0).toInt ∧ r 14 = (nt_I M (pl 4) 4).toInt ∧ r 15 = (nt_I M (pl 14) 0).toInt ∧ r 16 = (nt_I M (pl 14) 212).toInt ∧ r 17 = (nt_I M (pl 14) 424).toInt ∧ r 18 = (nt_I M (pl 14) 636).toInt ∧ r 19 = (nt_I M (pl 14) 4).toInt ∧ r 20 = (nt_I M (pl 14) 216).toInt ∧ r 21 = (nt_I M (pl 14) 428).toInt ∧ r 22 = (nt_I M (pl 14) 640).toInt ∧ r 23 = ru.toInt ∧ r 24 = b0.toInt ∧ r 25 = b1.toInt ∧ r 26 = b2.toInt ∧ r 27 = b3.toInt := ⟨fun s => if s = 11 then (nt_I M (pl 31) 1).toInt else if s = 12 then (nt_I M (pl 31) 2).toInt else if s = 13 then (nt_I M (pl 4) 0).toInt else if s = 14 then (nt_I M (pl 4) 4).toInt else if s = 15 then (nt_I M (pl 14) 0).toInt else if s = 16 then (nt_I M (pl 14) 212).toInt else if s = 17 then (nt_I M (pl 14) 424).toInt else if s = 18 then (nt_I M (pl 14) 636).toInt else if s = 19 then (nt_I M (pl 14) 4).toInt else if s = 20 then (nt_I M (pl 14) 216).toInt else if s = 21 then (nt_I M (pl 14) 428).toInt else if s = 22 then (nt_I M (pl 14) 640).toInt else if s = 23 then ru.toInt else if s = 24 then b0.toInt else if s = 25 then b1.toInt else if s = 26 then b2.toInt else if s = 27 then b3.toInt else v s, fun s hs => by dsimp only; rw [if_neg (by omega), if_neg (by omega), if_neg (by omega), if_neg (by omega), if_neg (by omega), if_neg (by omega), if_neg (by omega), if_neg (by omega), if_neg (by omega), if_neg (by omega), if_neg (by omega), if_neg (by omega), if_neg (by omega), if_neg (by omega), if_neg (by omega), if_neg (by omega), if_neg (by omega)], rfl, rfl, rfl, rfl, rfl, rfl, rfl, rfl, rfl, rfl, rfl, rfl, rfl, rfl, rfl, rfl, rfl⟩
  obtain ⟨⟨p1, p2, p3, p4⟩, p5, T, p7, p8⟩ := hS
  obtain ⟨b, c1, c2, c3, c4, c5, c6, c7⟩ := p8 (r 23).toNat (by have := h23; omega)
  have hPL : ∀ h, h < 66 → ly_pl pl b h = pl h := fun h hh => ly_pl1 hh
  have hij : sx_ij (sx_KE (sx_tbs, sx_gps) kk_wd_n_yearsR) (ly_pl pl b) := ly_pij p1 c2 hB.1
  have hon := ly_app (K := kk_wd_n_yearsR) (ed := [(4, 0, 0, 0), (13, 0, 400, 0)]) (ec := [((31, (1, [])), (0, [(11, 1)])), ((31, (2, [])), (0, [(12, 1)])), ((4, (0, [])), (0, [(13, 1)])), ((4, (4, [])), (0, [(14, 1)])), ((14, (0, [])), (0, [(15, 1)])), ((14, (212, [])), (0, [(16, 1)])), ((14, (424, [])), (0, [(17, 1)])), ((14, (636, [])), (0, [(18, 1)])), ((14, (4, [])), (0, [(19, 1)])), ((14, (216, [])), (0, [(20, 1)])), ((14, (428, [])), (0, [(21, 1)])), ((14, (640, [])), (0, [(22, 1)]))]) (er := [((23, (0, [(23, 1)])), 67), ((66, (0, [])), 68)]) rfl hB hPL hr hij (fun h q hq => by rw [ly_pl2 (by omega), show 66 + h - 66 = h from by omega]; exact c6 h q hq) (lw_oiC (g := 31) (j := 1) (by show 31 < 68; decide) (by decide) (by dsimp only; rw [hPL 31 (by decide)]; rw [sx_s_e]; exact h11.symm) (lw_oiC (g := 31) (j := 2) (by show 31 < 68; decide) (by decide) (by dsimp only; rw [hPL 31 (by decide)]; rw [sx_s_e]; exact h12.symm) (lw_oiC (g := 4) (j := 0) (by show 4 < 68; decide) (by decide) (by dsimp only; rw [hPL 4 (by decide)]; rw [sx_s_e]; exact h13.symm) (lw_oiC (g := 4) (j := 4) (by show 4 < 68; decide) (by decide) (by dsimp only; rw [hPL 4 (by decide)]; rw [sx_s_e]; exact h14.symm) (lw_oiC (g := 14) (j := 0) (by show 14 < 68; decide) (by decide) (by dsimp only; rw [hPL 14 (by decide)]; rw [sx_s_e]; exact h15.symm) (lw_oiC (g := 14) (j := 212) (by show 14 < 68; decide) (by decide) (by dsimp only; rw [hPL 14 (by decide)]; rw [sx_s_e]; exact h16.symm) (lw_oiC (g := 14) (j := 424) (by show 14 < 68; decide) (by decide) (by dsimp only; rw [hPL 14 (by decide)]; rw [sx_s_e]; exact h17.symm) (lw_oiC (g := 14) (j := 636) (by show 14 < 68; decide) (by decide) (by dsimp only; rw [hPL 14 (by decide)]; rw [sx_s_e]; exact h18.symm) (lw_oiC (g := 14) (j := 4) (by show 14 < 68; decide) (by decide) (by dsimp only; rw [hPL 14 (by decide)]; rw [sx_s_e]; exact h19.symm) (lw_oiC (g := 14) (j := 216) (by show 14 < 68; decide) (by decide) (by dsimp only; rw [hPL 14 (by decide)]; rw [sx_s_e]; exact h20.symm) (lw_oiC (g := 14) (j := 428) (by show 14 < 68; decide) (by decide) (by dsimp only; rw [hPL 14 (by decide)]; rw [sx_s_e]; exact h21.symm) (lw_oiC (g := 14) (j := 640) (by show 14 < 68; decide) (by decide) (by dsimp only; rw [hPL 14 (by decide)]; rw [sx_s_e]; exact h22.symm) (lw_oiN))))))))))))) (fun q hq => by
    rcases List.mem_cons.mp hq with rfl | hq
    · refine ⟨⟨by show 23 < 68; decide, by show 67 ≤ 68; decide⟩, ?_, ?_⟩
      · dsimp only
        rw [sx_s_e, h23]
        omega
      · dsimp only
        rw [sx_s_e, ly_pl1 (by decide), c1]
        rfl
    · rw [List.mem_singleton.mp hq]
      refine ⟨⟨by show 66 < 68; decide, by show 68 ≤ 68; decide⟩, by dsimp only; rw [sx_c_e]; decide, ?_⟩
      dsimp only
      rw [sx_c_e]
      exact c7) (ly_oba (ly_obr hr (ly_ob hB)) (ly_oba (ly_ob1 (by rw [h11]; exact hb11)) (ly_oba (ly_obI (x := nt_I M (pl 31) 2) h12) (ly_oba (ly_ob1 (by rw [h13]; exact hb13)) (ly_oba (ly_obI (x := nt_I M (pl 4) 4) h14) (ly_oba (ly_obI (x := nt_I M (pl 14) 0) h15) (ly_oba (ly_obI (x := nt_I M (pl 14) 212) h16) (ly_oba (ly_obI (x := nt_I M (pl 14) 424) h17) (ly_oba (ly_obI (x := nt_I M (pl 14) 636) h18) (ly_oba (ly_obI (x := nt_I M (pl 14) 4) h19) (ly_oba (ly_obI (x := nt_I M (pl 14) 216) h20) (ly_oba (ly_obI (x := nt_I M (pl 14) 428) h21) (ly_oba (ly_obI (x := nt_I M (pl 14) 640) h22) (ly_oba (ly_ob1 (by rw [h23]; exact hb23)) (ly_oba (ly_obI h24) (ly_oba (ly_obI h25) (ly_oba (ly_obI h26) (ly_obI h27)))))))))))))))))) (fun q hq => by rw [List.mem_singleton.mp hq]; show (0 : Int) ≤ (-1) + (1 * r 2 + ((-1) * r 23 + (0))); rw [hr 2 (by omega), h23]; have := hc0; omega)
  obtain ⟨p, hp, r', h2, h3⟩ := lw_app (ko_wd_n_yearsR X) rfl hd hon (vs := [.ref (pl 16), .int ru, .int b0, .int b1, .int b2, .int b3]) ⟨by show Value.ref (pl 16) = .ref ((ly_pl pl b) 16); rw [hPL 16 (by decide)], ⟨ru, rfl, (ly_e1 h23).symm⟩, ⟨b0, rfl, (ly_e1 h24).symm⟩, ⟨b1, rfl, (ly_e1 h25).symm⟩, ⟨b2, rfl, (ly_e1 h26).symm⟩, ⟨b3, rfl, (ly_e1 h27).symm⟩, trivial⟩ k
  have hr' : ∀ s, s < 28 → r' s = r s := fun s hs => h3.2.2.2.2.2.1 s hs
  obtain ⟨ov, M'⟩ := o
  rw [List.mem_singleton.mp hp] at h2 h3
  cases ov with
  | none => exact h2.elim
  | some w =>
    obtain ⟨y, rfl, hy⟩ := h2
    have hy : y.toInt = 0 + (1 * r' 28 + (0)) := hy
    have e0 : (nt_I M' ((ly_pl pl b) 31) 1).toInt = 0 + (1 * r' 11 + (0)) := lw_rd (g := 31) (j := 1) h3.2.2.1 (List.mem_of_getElem? (i := 0) rfl) (by decide)
    rw [hPL 31 (by decide)] at e0
    have e1 : (nt_I M' ((ly_pl pl b) 31) 2).toInt = 0 + (1 * r' 12 + (0)) := lw_rd (g := 31) (j := 2) h3.2.2.1 (List.mem_of_getElem? (i := 1) rfl) (by decide)
    rw [hPL 31 (by decide)] at e1
    have e2 : (nt_I M' ((ly_pl pl b) 4) 0).toInt = 0 + (1 * r' 13 + (0)) := lw_rd (g := 4) (j := 0) h3.2.2.1 (List.mem_of_getElem? (i := 2) rfl) (by decide)
    rw [hPL 4 (by decide)] at e2
    have e3 : (nt_I M' ((ly_pl pl b) 4) 4).toInt = 0 + (1 * r' 14 + (0)) := lw_rd (g := 4) (j := 4) h3.2.2.1 (List.mem_of_getElem? (i := 3) rfl) (by decide)
    rw [hPL 4 (by decide)] at e3
    have e4 : (nt_I M' ((ly_pl pl b) 14) 0).toInt = 0 + (1 * r' 15 + (0)) := lw_rd (g := 14) (j := 0) h3.2.2.1 (List.mem_of_getElem? (i := 4) rfl) (by decide)
    rw [hPL 14 (by decide)] at e4
    have e5 : (nt_I M' ((ly_pl pl b) 14) 212).toInt = 0 + (1 * r' 16 + (0)) := lw_rd (g := 14) (j := 212) h3.2.2.1 (List.mem_of_getElem? (i := 5) rfl) (by decide)
    rw [hPL 14 (by decide)] at e5
    have e6 : (nt_I M' ((ly_pl pl b) 14) 424).toInt = 0 + (1 * r' 17 + (0)) := lw_rd (g := 14) (j := 424) h3.2.2.1 (List.mem_of_getElem? (i := 6) rfl) (by decide)
    rw [hPL 14 (by decide)] at e6
    have e7 : (nt_I M' ((ly_pl pl b) 14) 636).toInt = 0 + (1 * r' 18 + (0)) := lw_rd (g := 14) (j := 636) h3.2.2.1 (List.mem_of_getElem? (i := 7) rfl) (by decide)
    rw [hPL 14 (by decide)] at e7
    have e8 : (nt_I M' ((ly_pl pl b) 14) 4).toInt = 0 + (1 * r' 19 + (0)) := lw_rd (g := 14) (j := 4) h3.2.2.1 (List.mem_of_getElem? (i := 8) rfl) (by decide)
    rw [hPL 14 (by decide)] at e8
    have e9 : (nt_I M' ((ly_pl pl b) 14) 216).toInt = 0 + (1 * r' 20 + (0)) := lw_rd (g := 14) (j := 216) h3.2.2.1 (List.mem_of_getElem? (i := 9) rfl) (by decide)
    rw [hPL 14 (by decide)] at e9
    have e10 : (nt_I M' ((ly_pl pl b) 14) 428).toInt = 0 + (1 * r' 21 + (0)) := lw_rd (g := 14) (j := 428) h3.2.2.1 (List.mem_of_getElem? (i := 10) rfl) (by decide)
    rw [hPL 14 (by decide)] at e10
    have e11 : (nt_I M' ((ly_pl pl b) 14) 640).toInt = 0 + (1 * r' 22 + (0)) := lw_rd (g := 14) (j := 640) h3.2.2.1 (List.mem_of_getElem? (i := 11) rfl) (by decide)
    rw [hPL 14 (by decide)] at e11
    have g11 := hr' 11 (by omega)
    rw [h11] at g11
    have g12 := hr' 12 (by omega)
    rw [h12] at g12
    have g13 := hr' 13 (by omega)
    rw [h13] at g13
    have g14 := hr' 14 (by omega)
    rw [h14] at g14
    have g15 := hr' 15 (by omega)
    rw [h15] at g15
    have g16 := hr' 16 (by omega)
    rw [h16] at g16
    have g17 := hr' 17 (by omega)
    rw [h17] at g17
    have g18 := hr' 18 (by omega)
    rw [h18] at g18
    have g19 := hr' 19 (by omega)
    rw [h19] at g19
    have g20 := hr' 20 (by omega)
    rw [h20] at g20
    have g21 := hr' 21 (by omega)
    rw [h21] at g21
    have g22 := hr' 22 (by omega)
    rw [h22] at g22
    exact ⟨y, M', rfl, ⟨e0.trans (lw_s g11), e1.trans (lw_s g12), e2.trans (lw_s g13), e3.trans (lw_s g14), e4.trans (lw_s g15), e5.trans (lw_s g16), e6.trans (lw_s g17), e7.trans (lw_s g18), e8.trans (lw_s g19), e9.trans (lw_s g20), e10.trans (lw_s g21), e11.trans (lw_s g22)⟩⟩
theorem lwd_n_image0 {X : nt_X} {pl : Nat → Nat} {v : Nat → Int} {M : nt_M} {d a : Nat} {o : Option Value × nt_M} (hd : 3 ≤ d) (hB : ly_B pl v M) {x : Int} (p1 : ∀ g, g < 66 → pl g < 66) (c1 : nt_R M (pl 65) 0 = some a) (c3 : 66 ≤ a) (c6 : ly_im a x M) (hb11 : (0 : Int) ≤ (nt_I M (pl 31) 1).toInt ∧ (nt_I M (pl 31) 1).toInt ≤ 1) (hb13 : (0 : Int) ≤ (nt_I M (pl 4) 0).toInt ∧ (nt_I M (pl 4) 0).toInt ≤ 4) (hb24 : (0 : Int) ≤ (nt_I M (a + 0) 1).toInt ∧ (nt_I M (a + 0) 1).toInt ≤ 1) (k : nt_ev X d 127 [.ref (pl 16), .int (nI 0)] M o) : ∃ (y : Int32) (M' : nt_M), o = (some (.int y), M') ∧ ((y.toInt = (nt_I M (pl 31) 2).toInt ∧ (nt_I M' (pl 31) 1).toInt = (nt_I M (pl 31) 1).toInt ∧ (nt_I M' (pl 31) 2).toInt = (nt_I M (pl 31) 2).toInt ∧ (nt_I M' (pl 4) 0).toInt = (nt_I M (pl 4) 0).toInt ∧ (nt_I M' (pl 4) 4).toInt = (nt_I M (pl 4) 4).toInt ∧ (nt_I M' (pl 14) 0).toInt = (nt_I M (pl 14) 0).toInt ∧ (nt_I M' (pl 14) 212).toInt = (nt_I M (pl 14) 212).toInt ∧ (nt_I M' (pl 14) 424).toInt = (nt_I M (pl 14) 424).toInt ∧ (nt_I M' (pl 14) 636).toInt = (nt_I M (pl 14) 636).toInt ∧ (nt_I M' (pl 14) 4).toInt = (nt_I M (pl 14) 4).toInt ∧ (nt_I M' (pl 14) 216).toInt = (nt_I M (pl 14) 216).toInt ∧ (nt_I M' (pl 14) 428).toInt = (nt_I M (pl 14) 428).toInt ∧ (nt_I M' (pl 14) 640).toInt = (nt_I M (pl 14) 640).toInt ∧ (nt_I M' (a + 0) 1).toInt = (nt_I M (pl 31) 1).toInt ∧ (nt_I M' (a + 0) 2).toInt = (nt_I M (pl 31) 2).toInt)) := by
  obtain ⟨r, hr, h11, h12, h13, h14, h15, h16, h17, h18, h19, h20, h21, h22, h23, h24, h25⟩ : ∃ r : Nat → Int, (∀ s, s < 11 → r s = v s) ∧ r 11 = (nt_I M (pl 31) 1).toInt ∧ r 12 = (nt_I M (pl 31) 2).toInt ∧ r 13 = (nt_I M (pl 4) 0).toInt ∧ r 14 = (nt_I M (pl 4) 4).toInt ∧ r 15 = (nt_I M (pl 14) 0).toInt ∧ r 16 = (nt_I M (pl 14) 212).toInt ∧ r 17 = (nt_I M (pl 14) 424).toInt ∧ r 18 = (nt_I M (pl 14) 636).toInt ∧ r 19 = (nt_I M (pl 14) 4).toInt ∧ r 20 = (nt_I M (pl 14) 216).toInt ∧ r 21 = (nt_I M (pl 14) 428).toInt ∧ r 22 = (nt_I M (pl 14) 640).toInt ∧ r 23 = (nt_I M (a + 0) 6).toInt ∧ r 24 = (nt_I M (a + 0) 1).toInt ∧ r 25 = (nt_I M (a + 0) 2).toInt := ⟨fun s => if s = 11 then (nt_I M (pl 31) 1).toInt else if s = 12 then (nt_I M (pl 31) 2).toInt else if s = 13 then (nt_I M (pl 4) 0).toInt else if s = 14 then (nt_I M (pl 4) 4).toInt else if s = 15 then (nt_I M (pl 14) 0).toInt else if s = 16 then (nt_I M (pl 14) 212).toInt else if s = 17 then (nt_I M (pl 14) 424).toInt else if s = 18 then (nt_I M (pl 14) 636).toInt else if s = 19 then (nt_I M (pl 14) 4).toInt else if s = 20 then (nt_I M (pl 14) 216).toInt else if s = 21 then (nt_I M (pl 14) 428).toInt else if s = 22 then (nt_I M (pl 14) 640).toInt else if s = 23 then (nt_I M (a + 0) 6).toInt else if s = 24 then (nt_I M (a + 0) 1).toInt else if s = 25 then (nt_I M (a + 0) 2).toInt else v s, fun s hs => by dsimp only; rw [if_neg (by omega), if_neg (by omega), if_neg (by omega), if_neg (by omega), if_neg (by omega), if_neg (by omega), if_neg (by omega), if_neg (by omega), if_neg (by omega), if_neg (by omega), if_neg (by omega), if_neg (by omega), if_neg (by omega), if_neg (by omega), if_neg (by omega)], rfl, rfl, rfl, rfl, rfl, rfl, rfl, rfl, rfl, rfl, rfl, rfl, rfl, rfl, rfl⟩
  have hPL : ∀ h, h < 66 → ly_pl pl a h = pl h := fun h hh => ly_pl1 hh
  have hij : sx_ij (sx_KE (sx_tbs, sx_gps) kk_wd_n_image0) (ly_pl pl a) := ly_pij p1 c3 hB.1
  have hon := ly_app (K := kk_wd_n_image0) (ed := ly_ED) (ec := [((31, (1, [])), (0, [(11, 1)])), ((31, (2, [])), (0, [(12, 1)])), ((4, (0, [])), (0, [(13, 1)])), ((4, (4, [])), (0, [(14, 1)])), ((14, (0, [])), (0, [(15, 1)])), ((14, (212, [])), (0, [(16, 1)])), ((14, (424, [])), (0, [(17, 1)])), ((14, (636, [])), (0, [(18, 1)])), ((14, (4, [])), (0, [(19, 1)])), ((14, (216, [])), (0, [(20, 1)])), ((14, (428, [])), (0, [(21, 1)])), ((14, (640, [])), (0, [(22, 1)])), ((66, (6, [])), (0, [(23, 1)])), ((66, (1, [])), (0, [(24, 1)])), ((66, (2, [])), (0, [(25, 1)]))]) (er := ((65, (0, [])), 67) :: ly_RI) rfl hB hPL hr hij (ly_hpI c6) (lw_oiC (g := 31) (j := 1) (by show 31 < 83; decide) (by decide) (by dsimp only; rw [hPL 31 (by decide)]; rw [sx_s_e]; exact h11.symm) (lw_oiC (g := 31) (j := 2) (by show 31 < 83; decide) (by decide) (by dsimp only; rw [hPL 31 (by decide)]; rw [sx_s_e]; exact h12.symm) (lw_oiC (g := 4) (j := 0) (by show 4 < 83; decide) (by decide) (by dsimp only; rw [hPL 4 (by decide)]; rw [sx_s_e]; exact h13.symm) (lw_oiC (g := 4) (j := 4) (by show 4 < 83; decide) (by decide) (by dsimp only; rw [hPL 4 (by decide)]; rw [sx_s_e]; exact h14.symm) (lw_oiC (g := 14) (j := 0) (by show 14 < 83; decide) (by decide) (by dsimp only; rw [hPL 14 (by decide)]; rw [sx_s_e]; exact h15.symm) (lw_oiC (g := 14) (j := 212) (by show 14 < 83; decide) (by decide) (by dsimp only; rw [hPL 14 (by decide)]; rw [sx_s_e]; exact h16.symm) (lw_oiC (g := 14) (j := 424) (by show 14 < 83; decide) (by decide) (by dsimp only; rw [hPL 14 (by decide)]; rw [sx_s_e]; exact h17.symm) (lw_oiC (g := 14) (j := 636) (by show 14 < 83; decide) (by decide) (by dsimp only; rw [hPL 14 (by decide)]; rw [sx_s_e]; exact h18.symm) (lw_oiC (g := 14) (j := 4) (by show 14 < 83; decide) (by decide) (by dsimp only; rw [hPL 14 (by decide)]; rw [sx_s_e]; exact h19.symm) (lw_oiC (g := 14) (j := 216) (by show 14 < 83; decide) (by decide) (by dsimp only; rw [hPL 14 (by decide)]; rw [sx_s_e]; exact h20.symm) (lw_oiC (g := 14) (j := 428) (by show 14 < 83; decide) (by decide) (by dsimp only; rw [hPL 14 (by decide)]; rw [sx_s_e]; exact h21.symm) (lw_oiC (g := 14) (j := 640) (by show 14 < 83; decide) (by decide) (by dsimp only; rw [hPL 14 (by decide)]; rw [sx_s_e]; exact h22.symm) (lw_oiC (g := 66) (j := 6) (by show 66 < 83; decide) (by decide) (by dsimp only; rw [ly_pl2 (by decide)]; rw [sx_s_e]; exact h23.symm) (lw_oiC (g := 66) (j := 1) (by show 66 < 83; decide) (by decide) (by dsimp only; rw [ly_pl2 (by decide)]; rw [sx_s_e]; exact h24.symm) (lw_oiC (g := 66) (j := 2) (by show 66 < 83; decide) (by decide) (by dsimp only; rw [ly_pl2 (by decide)]; rw [sx_s_e]; exact h25.symm) (lw_oiN)))))))))))))))) (ly_erI rfl c1 c6) (ly_oba (ly_obr hr (ly_ob hB)) (ly_oba (ly_ob1 (by rw [h11]; exact hb11)) (ly_oba (ly_obI (x := nt_I M (pl 31) 2) h12) (ly_oba (ly_ob1 (by rw [h13]; exact hb13)) (ly_oba (ly_obI (x := nt_I M (pl 4) 4) h14) (ly_oba (ly_obI (x := nt_I M (pl 14) 0) h15) (ly_oba (ly_obI (x := nt_I M (pl 14) 212) h16) (ly_oba (ly_obI (x := nt_I M (pl 14) 424) h17) (ly_oba (ly_obI (x := nt_I M (pl 14) 636) h18) (ly_oba (ly_obI (x := nt_I M (pl 14) 4) h19) (ly_oba (ly_obI (x := nt_I M (pl 14) 216) h20) (ly_oba (ly_obI (x := nt_I M (pl 14) 428) h21) (ly_oba (ly_obI (x := nt_I M (pl 14) 640) h22) (ly_oba (ly_obI (x := nt_I M (a + 0) 6) h23) (ly_oba (ly_ob1 (by rw [h24]; exact hb24)) (ly_obI (x := nt_I M (a + 0) 2) h25)))))))))))))))) ly_oc0
  obtain ⟨p, hp, r', h2, h3⟩ := lw_app (ko_wd_n_image0 X) rfl hd hon (vs := [.ref (pl 16), .int (nI 0)]) ⟨by show Value.ref (pl 16) = .ref ((ly_pl pl a) 16); rw [hPL 16 (by decide)], ⟨_, rfl, by rw [sx_c_e]; decide⟩, trivial⟩ k
  have hr' : ∀ s, s < 26 → r' s = r s := fun s hs => h3.2.2.2.2.2.1 s hs
  obtain ⟨ov, M'⟩ := o
  rw [List.mem_singleton.mp hp] at h2 h3
  cases ov with
  | none => exact h2.elim
  | some w =>
    obtain ⟨y, rfl, hy⟩ := h2
    have hy : y.toInt = 0 + (1 * r' 12 + (0)) := hy
    have e0 : (nt_I M' ((ly_pl pl a) 31) 1).toInt = 0 + (1 * r' 11 + (0)) := lw_rd (g := 31) (j := 1) h3.2.2.1 (List.mem_of_getElem? (i := 0) rfl) (by decide)
    rw [hPL 31 (by decide)] at e0
    have e1 : (nt_I M' ((ly_pl pl a) 31) 2).toInt = 0 + (1 * r' 12 + (0)) := lw_rd (g := 31) (j := 2) h3.2.2.1 (List.mem_of_getElem? (i := 1) rfl) (by decide)
    rw [hPL 31 (by decide)] at e1
    have e2 : (nt_I M' ((ly_pl pl a) 4) 0).toInt = 0 + (1 * r' 13 + (0)) := lw_rd (g := 4) (j := 0) h3.2.2.1 (List.mem_of_getElem? (i := 2) rfl) (by decide)
    rw [hPL 4 (by decide)] at e2
    have e3 : (nt_I M' ((ly_pl pl a) 4) 4).toInt = 0 + (1 * r' 14 + (0)) := lw_rd (g := 4) (j := 4) h3.2.2.1 (List.mem_of_getElem? (i := 3) rfl) (by decide)
    rw [hPL 4 (by decide)] at e3
    have e4 : (nt_I M' ((ly_pl pl a) 14) 0).toInt = 0 + (1 * r' 15 + (0)) := lw_rd (g := 14) (j := 0) h3.2.2.1 (List.mem_of_getElem? (i := 4) rfl) (by decide)
    rw [hPL 14 (by decide)] at e4
    have e5 : (nt_I M' ((ly_pl pl a) 14) 212).toInt = 0 + (1 * r' 16 + (0)) := lw_rd (g := 14) (j := 212) h3.2.2.1 (List.mem_of_getElem? (i := 5) rfl) (by decide)
    rw [hPL 14 (by decide)] at e5
    have e6 : (nt_I M' ((ly_pl pl a) 14) 424).toInt = 0 + (1 * r' 17 + (0)) := lw_rd (g := 14) (j := 424) h3.2.2.1 (List.mem_of_getElem? (i := 6) rfl) (by decide)
    rw [hPL 14 (by decide)] at e6
    have e7 : (nt_I M' ((ly_pl pl a) 14) 636).toInt = 0 + (1 * r' 18 + (0)) := lw_rd (g := 14) (j := 636) h3.2.2.1 (List.mem_of_getElem? (i := 7) rfl) (by decide)
    rw [hPL 14 (by decide)] at e7
    have e8 : (nt_I M' ((ly_pl pl a) 14) 4).toInt = 0 + (1 * r' 19 + (0)) := lw_rd (g := 14) (j := 4) h3.2.2.1 (List.mem_of_getElem? (i := 8) rfl) (by decide)
    rw [hPL 14 (by decide)] at e8
    have e9 : (nt_I M' ((ly_pl pl a) 14) 216).toInt = 0 + (1 * r' 20 + (0)) := lw_rd (g := 14) (j := 216) h3.2.2.1 (List.mem_of_getElem? (i := 9) rfl) (by decide)
    rw [hPL 14 (by decide)] at e9
    have e10 : (nt_I M' ((ly_pl pl a) 14) 428).toInt = 0 + (1 * r' 21 + (0)) := lw_rd (g := 14) (j := 428) h3.2.2.1 (List.mem_of_getElem? (i := 10) rfl) (by decide)
    rw [hPL 14 (by decide)] at e10
    have e11 : (nt_I M' ((ly_pl pl a) 14) 640).toInt = 0 + (1 * r' 22 + (0)) := lw_rd (g := 14) (j := 640) h3.2.2.1 (List.mem_of_getElem? (i := 11) rfl) (by decide)
    rw [hPL 14 (by decide)] at e11
    have e12 : (nt_I M' ((ly_pl pl a) 66) 1).toInt = 0 + (1 * r' 11 + (0)) := lw_rd (g := 66) (j := 1) h3.2.2.1 (List.mem_of_getElem? (i := 12) rfl) (by decide)
    rw [ly_pl2 (by decide)] at e12
    have e12 : (nt_I M' (a + 0) 1).toInt = 0 + (1 * r' 11 + (0)) := e12
    have e13 : (nt_I M' ((ly_pl pl a) 66) 2).toInt = 0 + (1 * r' 12 + (0)) := lw_rd (g := 66) (j := 2) h3.2.2.1 (List.mem_of_getElem? (i := 13) rfl) (by decide)
    rw [ly_pl2 (by decide)] at e13
    have e13 : (nt_I M' (a + 0) 2).toInt = 0 + (1 * r' 12 + (0)) := e13
    have g11 := hr' 11 (by omega)
    rw [h11] at g11
    have g12 := hr' 12 (by omega)
    rw [h12] at g12
    have g13 := hr' 13 (by omega)
    rw [h13] at g13
    have g14 := hr' 14 (by omega)
    rw [h14] at g14
    have g15 := hr' 15 (by omega)
    rw [h15] at g15
    have g16 := hr' 16 (by omega)
    rw [h16] at g16
    have g17 := hr' 17 (by omega)
    rw [h17] at g17
    have g18 := hr' 18 (by omega)
    rw [h18] at g18
    have g19 := hr' 19 (by omega)
    rw [h19] at g19
    have g20 := hr' 20 (by omega)
    rw [h20] at g20
    have g21 := hr' 21 (by omega)
    rw [h21] at g21
    have g22 := hr' 22 (by omega)
    rw [h22] at g22
    exact ⟨y, M', rfl, ⟨by omega, e0.trans (lw_s g11), e1.trans (lw_s g12), e2.trans (lw_s g13), e3.trans (lw_s g14), e4.trans (lw_s g15), e5.trans (lw_s g16), e6.trans (lw_s g17), e7.trans (lw_s g18), e8.trans (lw_s g19), e9.trans (lw_s g20), e10.trans (lw_s g21), e11.trans (lw_s g22), e12.trans (lw_s g11), e13.trans (lw_s g12)⟩⟩
theorem lwd_n_back0 {X : nt_X} {pl : Nat → Nat} {v : Nat → Int} {M : nt_M} {d a : Nat} {o : Option Value × nt_M} (hd : 3 ≤ d) (hB : ly_B pl v M) {x : Int} (p1 : ∀ g, g < 66 → pl g < 66) (c1 : nt_R M (pl 65) 0 = some a) (c3 : 66 ≤ a) (c6 : ly_im a x M) (hb11 : (0 : Int) ≤ (nt_I M (pl 31) 1).toInt ∧ (nt_I M (pl 31) 1).toInt ≤ 1) (hb13 : (0 : Int) ≤ (nt_I M (pl 4) 0).toInt ∧ (nt_I M (pl 4) 0).toInt ≤ 4) (hb24 : (0 : Int) ≤ (nt_I M (a + 0) 1).toInt ∧ (nt_I M (a + 0) 1).toInt ≤ 1) (k : nt_ev X d 128 [.ref (pl 16), .int (nI 0)] M o) : ∃ (y : Int32) (M' : nt_M), o = (some (.int y), M') ∧ ((y.toInt = (nt_I M (a + 0) 2).toInt ∧ (nt_I M' (pl 31) 1).toInt = (nt_I M (a + 0) 1).toInt ∧ (nt_I M' (pl 31) 2).toInt = (nt_I M (a + 0) 2).toInt ∧ (nt_I M' (pl 4) 0).toInt = (nt_I M (pl 4) 0).toInt ∧ (nt_I M' (pl 4) 4).toInt = (nt_I M (pl 4) 4).toInt ∧ (nt_I M' (pl 14) 0).toInt = (nt_I M (pl 14) 0).toInt ∧ (nt_I M' (pl 14) 212).toInt = (nt_I M (pl 14) 212).toInt ∧ (nt_I M' (pl 14) 424).toInt = (nt_I M (pl 14) 424).toInt ∧ (nt_I M' (pl 14) 636).toInt = (nt_I M (pl 14) 636).toInt ∧ (nt_I M' (pl 14) 4).toInt = (nt_I M (pl 14) 4).toInt ∧ (nt_I M' (pl 14) 216).toInt = (nt_I M (pl 14) 216).toInt ∧ (nt_I M' (pl 14) 428).toInt = (nt_I M (pl 14) 428).toInt ∧ (nt_I M' (pl 14) 640).toInt = (nt_I M (pl 14) 640).toInt ∧ (nt_I M' (a + 0) 1).toInt = (nt_I M (a + 0) 1).toInt ∧ (nt_I M' (a + 0) 2).toInt = (nt_I M (a + 0) 2).toInt)) := by
  obtain ⟨r, hr, h11, h12, h13, h14, h15, h16, h17, h18, h19, h20, h21, h22, h23, h24, h25⟩ : ∃ r : Nat → Int, (∀ s, s < 11 → r s = v s) ∧ r 11 = (nt_I M (pl 31) 1).toInt ∧ r 12 = (nt_I M (pl 31) 2).toInt ∧ r 13 = (nt_I M (pl 4) 0).toInt ∧ r 14 = (nt_I M (pl 4) 4).toInt ∧ r 15 = (nt_I M (pl 14) 0).toInt ∧ r 16 = (nt_I M (pl 14) 212).toInt ∧ r 17 = (nt_I M (pl 14) 424).toInt ∧ r 18 = (nt_I M (pl 14) 636).toInt ∧ r 19 = (nt_I M (pl 14) 4).toInt ∧ r 20 = (nt_I M (pl 14) 216).toInt ∧ r 21 = (nt_I M (pl 14) 428).toInt ∧ r 22 = (nt_I M (pl 14) 640).toInt ∧ r 23 = (nt_I M (a + 0) 6).toInt ∧ r 24 = (nt_I M (a + 0) 1).toInt ∧ r 25 = (nt_I M (a + 0) 2).toInt := ⟨fun s => if s = 11 then (nt_I M (pl 31) 1).toInt else if s = 12 then (nt_I M (pl 31) 2).toInt else if s = 13 then (nt_I M (pl 4) 0).toInt else if s = 14 then (nt_I M (pl 4) 4).toInt else if s = 15 then (nt_I M (pl 14) 0).toInt else if s = 16 then (nt_I M (pl 14) 212).toInt else if s = 17 then (nt_I M (pl 14) 424).toInt else if s = 18 then (nt_I M (pl 14) 636).toInt else if s = 19 then (nt_I M (pl 14) 4).toInt else if s = 20 then (nt_I M (pl 14) 216).toInt else if s = 21 then (nt_I M (pl 14) 428).toInt else if s = 22 then (nt_I M (pl 14) 640).toInt else if s = 23 then (nt_I M (a + 0) 6).toInt else if s = 24 then (nt_I M (a + 0) 1).toInt else if s = 25 then (nt_I M (a + 0) 2).toInt else v s, fun s hs => by dsimp only; rw [if_neg (by omega), if_neg (by omega), if_neg (by omega), if_neg (by omega), if_neg (by omega), if_neg (by omega), if_neg (by omega), if_neg (by omega), if_neg (by omega), if_neg (by omega), if_neg (by omega), if_neg (by omega), if_neg (by omega), if_neg (by omega), if_neg (by omega)], rfl, rfl, rfl, rfl, rfl, rfl, rfl, rfl, rfl, rfl, rfl, rfl, rfl, rfl, rfl⟩
  have hPL : ∀ h, h < 66 → ly_pl pl a h = pl h := fun h hh => ly_pl1 hh
  have hij : sx_ij (sx_KE (sx_tbs, sx_gps) kk_wd_n_back0) (ly_pl pl a) := ly_pij p1 c3 hB.1
  have hon := ly_app (K := kk_wd_n_back0) (ed := ly_ED) (ec := [((31, (1, [])), (0, [(11, 1)])), ((31, (2, [])), (0, [(12, 1)])), ((4, (0, [])), (0, [(13, 1)])), ((4, (4, [])), (0, [(14, 1)])), ((14, (0, [])), (0, [(15, 1)])), ((14, (212, [])), (0, [(16, 1)])), ((14, (424, [])), (0, [(17, 1)])), ((14, (636, [])), (0, [(18, 1)])), ((14, (4, [])), (0, [(19, 1)])), ((14, (216, [])), (0, [(20, 1)])), ((14, (428, [])), (0, [(21, 1)])), ((14, (640, [])), (0, [(22, 1)])), ((66, (6, [])), (0, [(23, 1)])), ((66, (1, [])), (0, [(24, 1)])), ((66, (2, [])), (0, [(25, 1)]))]) (er := ((65, (0, [])), 67) :: ly_RI) rfl hB hPL hr hij (ly_hpI c6) (lw_oiC (g := 31) (j := 1) (by show 31 < 83; decide) (by decide) (by dsimp only; rw [hPL 31 (by decide)]; rw [sx_s_e]; exact h11.symm) (lw_oiC (g := 31) (j := 2) (by show 31 < 83; decide) (by decide) (by dsimp only; rw [hPL 31 (by decide)]; rw [sx_s_e]; exact h12.symm) (lw_oiC (g := 4) (j := 0) (by show 4 < 83; decide) (by decide) (by dsimp only; rw [hPL 4 (by decide)]; rw [sx_s_e]; exact h13.symm) (lw_oiC (g := 4) (j := 4) (by show 4 < 83; decide) (by decide) (by dsimp only; rw [hPL 4 (by decide)]; rw [sx_s_e]; exact h14.symm) (lw_oiC (g := 14) (j := 0) (by show 14 < 83; decide) (by decide) (by dsimp only; rw [hPL 14 (by decide)]; rw [sx_s_e]; exact h15.symm) (lw_oiC (g := 14) (j := 212) (by show 14 < 83; decide) (by decide) (by dsimp only; rw [hPL 14 (by decide)]; rw [sx_s_e]; exact h16.symm) (lw_oiC (g := 14) (j := 424) (by show 14 < 83; decide) (by decide) (by dsimp only; rw [hPL 14 (by decide)]; rw [sx_s_e]; exact h17.symm) (lw_oiC (g := 14) (j := 636) (by show 14 < 83; decide) (by decide) (by dsimp only; rw [hPL 14 (by decide)]; rw [sx_s_e]; exact h18.symm) (lw_oiC (g := 14) (j := 4) (by show 14 < 83; decide) (by decide) (by dsimp only; rw [hPL 14 (by decide)]; rw [sx_s_e]; exact h19.symm) (lw_oiC (g := 14) (j := 216) (by show 14 < 83; decide) (by decide) (by dsimp only; rw [hPL 14 (by decide)]; rw [sx_s_e]; exact h20.symm) (lw_oiC (g := 14) (j := 428) (by show 14 < 83; decide) (by decide) (by dsimp only; rw [hPL 14 (by decide)]; rw [sx_s_e]; exact h21.symm) (lw_oiC (g := 14) (j := 640) (by show 14 < 83; decide) (by decide) (by dsimp only; rw [hPL 14 (by decide)]; rw [sx_s_e]; exact h22.symm) (lw_oiC (g := 66) (j := 6) (by show 66 < 83; decide) (by decide) (by dsimp only; rw [ly_pl2 (by decide)]; rw [sx_s_e]; exact h23.symm) (lw_oiC (g := 66) (j := 1) (by show 66 < 83; decide) (by decide) (by dsimp only; rw [ly_pl2 (by decide)]; rw [sx_s_e]; exact h24.symm) (lw_oiC (g := 66) (j := 2) (by show 66 < 83; decide) (by decide) (by dsimp only; rw [ly_pl2 (by decide)]; rw [sx_s_e]; exact h25.symm) (lw_oiN)))))))))))))))) (ly_erI rfl c1 c6) (ly_oba (ly_obr hr (ly_ob hB)) (ly_oba (ly_ob1 (by rw [h11]; exact hb11)) (ly_oba (ly_obI (x := nt_I M (pl 31) 2) h12) (ly_oba (ly_ob1 (by rw [h13]; exact hb13)) (ly_oba (ly_obI (x := nt_I M (pl 4) 4) h14) (ly_oba (ly_obI (x := nt_I M (pl 14) 0) h15) (ly_oba (ly_obI (x := nt_I M (pl 14) 212) h16) (ly_oba (ly_obI (x := nt_I M (pl 14) 424) h17) (ly_oba (ly_obI (x := nt_I M (pl 14) 636) h18) (ly_oba (ly_obI (x := nt_I M (pl 14) 4) h19) (ly_oba (ly_obI (x := nt_I M (pl 14) 216) h20) (ly_oba (ly_obI (x := nt_I M (pl 14) 428) h21) (ly_oba (ly_obI (x := nt_I M (pl 14) 640) h22) (ly_oba (ly_obI (x := nt_I M (a + 0) 6) h23) (ly_oba (ly_ob1 (by rw [h24]; exact hb24)) (ly_obI (x := nt_I M (a + 0) 2) h25)))))))))))))))) ly_oc0
  obtain ⟨p, hp, r', h2, h3⟩ := lw_app (ko_wd_n_back0 X) rfl hd hon (vs := [.ref (pl 16), .int (nI 0)]) ⟨by show Value.ref (pl 16) = .ref ((ly_pl pl a) 16); rw [hPL 16 (by decide)], ⟨_, rfl, by rw [sx_c_e]; decide⟩, trivial⟩ k
  have hr' : ∀ s, s < 26 → r' s = r s := fun s hs => h3.2.2.2.2.2.1 s hs
  obtain ⟨ov, M'⟩ := o
  rw [List.mem_singleton.mp hp] at h2 h3
  cases ov with
  | none => exact h2.elim
  | some w =>
    obtain ⟨y, rfl, hy⟩ := h2
    have hy : y.toInt = 0 + (1 * r' 25 + (0)) := hy
    have e0 : (nt_I M' ((ly_pl pl a) 31) 1).toInt = 0 + (1 * r' 24 + (0)) := lw_rd (g := 31) (j := 1) h3.2.2.1 (List.mem_of_getElem? (i := 0) rfl) (by decide)
    rw [hPL 31 (by decide)] at e0
    have e1 : (nt_I M' ((ly_pl pl a) 31) 2).toInt = 0 + (1 * r' 25 + (0)) := lw_rd (g := 31) (j := 2) h3.2.2.1 (List.mem_of_getElem? (i := 1) rfl) (by decide)
    rw [hPL 31 (by decide)] at e1
    have e2 : (nt_I M' ((ly_pl pl a) 4) 0).toInt = 0 + (1 * r' 13 + (0)) := lw_rd (g := 4) (j := 0) h3.2.2.1 (List.mem_of_getElem? (i := 2) rfl) (by decide)
    rw [hPL 4 (by decide)] at e2
    have e3 : (nt_I M' ((ly_pl pl a) 4) 4).toInt = 0 + (1 * r' 14 + (0)) := lw_rd (g := 4) (j := 4) h3.2.2.1 (List.mem_of_getElem? (i := 3) rfl) (by decide)
    rw [hPL 4 (by decide)] at e3
    have e4 : (nt_I M' ((ly_pl pl a) 14) 0).toInt = 0 + (1 * r' 15 + (0)) := lw_rd (g := 14) (j := 0) h3.2.2.1 (List.mem_of_getElem? (i := 4) rfl) (by decide)
    rw [hPL 14 (by decide)] at e4
    have e5 : (nt_I M' ((ly_pl pl a) 14) 212).toInt = 0 + (1 * r' 16 + (0)) := lw_rd (g := 14) (j := 212) h3.2.2.1 (List.mem_of_getElem? (i := 5) rfl) (by decide)
    rw [hPL 14 (by decide)] at e5
    have e6 : (nt_I M' ((ly_pl pl a) 14) 424).toInt = 0 + (1 * r' 17 + (0)) := lw_rd (g := 14) (j := 424) h3.2.2.1 (List.mem_of_getElem? (i := 6) rfl) (by decide)
    rw [hPL 14 (by decide)] at e6
    have e7 : (nt_I M' ((ly_pl pl a) 14) 636).toInt = 0 + (1 * r' 18 + (0)) := lw_rd (g := 14) (j := 636) h3.2.2.1 (List.mem_of_getElem? (i := 7) rfl) (by decide)
    rw [hPL 14 (by decide)] at e7
    have e8 : (nt_I M' ((ly_pl pl a) 14) 4).toInt = 0 + (1 * r' 19 + (0)) := lw_rd (g := 14) (j := 4) h3.2.2.1 (List.mem_of_getElem? (i := 8) rfl) (by decide)
    rw [hPL 14 (by decide)] at e8
    have e9 : (nt_I M' ((ly_pl pl a) 14) 216).toInt = 0 + (1 * r' 20 + (0)) := lw_rd (g := 14) (j := 216) h3.2.2.1 (List.mem_of_getElem? (i := 9) rfl) (by decide)
    rw [hPL 14 (by decide)] at e9
    have e10 : (nt_I M' ((ly_pl pl a) 14) 428).toInt = 0 + (1 * r' 21 + (0)) := lw_rd (g := 14) (j := 428) h3.2.2.1 (List.mem_of_getElem? (i := 10) rfl) (by decide)
    rw [hPL 14 (by decide)] at e10
    have e11 : (nt_I M' ((ly_pl pl a) 14) 640).toInt = 0 + (1 * r' 22 + (0)) := lw_rd (g := 14) (j := 640) h3.2.2.1 (List.mem_of_getElem? (i := 11) rfl) (by decide)
    rw [hPL 14 (by decide)] at e11
    have e12 : (nt_I M' ((ly_pl pl a) 66) 1).toInt = 0 + (1 * r' 24 + (0)) := lw_rd (g := 66) (j := 1) h3.2.2.1 (List.mem_of_getElem? (i := 12) rfl) (by decide)
    rw [ly_pl2 (by decide)] at e12
    have e12 : (nt_I M' (a + 0) 1).toInt = 0 + (1 * r' 24 + (0)) := e12
    have e13 : (nt_I M' ((ly_pl pl a) 66) 2).toInt = 0 + (1 * r' 25 + (0)) := lw_rd (g := 66) (j := 2) h3.2.2.1 (List.mem_of_getElem? (i := 13) rfl) (by decide)
    rw [ly_pl2 (by decide)] at e13
    have e13 : (nt_I M' (a + 0) 2).toInt = 0 + (1 * r' 25 + (0)) := e13
    have g13 := hr' 13 (by omega)
    rw [h13] at g13
    have g14 := hr' 14 (by omega)
    rw [h14] at g14
    have g15 := hr' 15 (by omega)
    rw [h15] at g15
    have g16 := hr' 16 (by omega)
    rw [h16] at g16
    have g17 := hr' 17 (by omega)
    rw [h17] at g17
    have g18 := hr' 18 (by omega)
    rw [h18] at g18
    have g19 := hr' 19 (by omega)
    rw [h19] at g19
    have g20 := hr' 20 (by omega)
    rw [h20] at g20
    have g21 := hr' 21 (by omega)
    rw [h21] at g21
    have g22 := hr' 22 (by omega)
    rw [h22] at g22
    have g24 := hr' 24 (by omega)
    rw [h24] at g24
    have g25 := hr' 25 (by omega)
    rw [h25] at g25
    exact ⟨y, M', rfl, ⟨by omega, e0.trans (lw_s g24), e1.trans (lw_s g25), e2.trans (lw_s g13), e3.trans (lw_s g14), e4.trans (lw_s g15), e5.trans (lw_s g16), e6.trans (lw_s g17), e7.trans (lw_s g18), e8.trans (lw_s g19), e9.trans (lw_s g20), e10.trans (lw_s g21), e11.trans (lw_s g22), e12.trans (lw_s g24), e13.trans (lw_s g25)⟩⟩
theorem lwd_n_back0N {X : nt_X} {pl : Nat → Nat} {v : Nat → Int} {M : nt_M} {d : Nat} {o : Option Value × nt_M} (hd : 0 ≤ d) (hB : ly_B pl v M) (hn : nt_R M (pl 65) 0 = none) (hb11 : (0 : Int) ≤ (nt_I M (pl 31) 1).toInt ∧ (nt_I M (pl 31) 1).toInt ≤ 1) (hb13 : (0 : Int) ≤ (nt_I M (pl 4) 0).toInt ∧ (nt_I M (pl 4) 0).toInt ≤ 4) (k : nt_ev X d 128 [.ref (pl 16), .int (nI 0)] M o) : ∃ (y : Int32) (M' : nt_M), o = (some (.int y), M') ∧ ((y.toInt = -1 ∧ (nt_I M' (pl 31) 1).toInt = (nt_I M (pl 31) 1).toInt ∧ (nt_I M' (pl 31) 2).toInt = (nt_I M (pl 31) 2).toInt ∧ (nt_I M' (pl 4) 0).toInt = (nt_I M (pl 4) 0).toInt ∧ (nt_I M' (pl 4) 4).toInt = (nt_I M (pl 4) 4).toInt ∧ (nt_I M' (pl 14) 0).toInt = (nt_I M (pl 14) 0).toInt ∧ (nt_I M' (pl 14) 212).toInt = (nt_I M (pl 14) 212).toInt ∧ (nt_I M' (pl 14) 424).toInt = (nt_I M (pl 14) 424).toInt ∧ (nt_I M' (pl 14) 636).toInt = (nt_I M (pl 14) 636).toInt ∧ (nt_I M' (pl 14) 4).toInt = (nt_I M (pl 14) 4).toInt ∧ (nt_I M' (pl 14) 216).toInt = (nt_I M (pl 14) 216).toInt ∧ (nt_I M' (pl 14) 428).toInt = (nt_I M (pl 14) 428).toInt ∧ (nt_I M' (pl 14) 640).toInt = (nt_I M (pl 14) 640).toInt)) := by
  obtain ⟨r, hr, h11, h12, h13, h14, h15, h16, h17, h18, h19, h20, h21, h22⟩ : ∃ r : Nat → Int, (∀ s, s < 11 → r s = v s) ∧ r 11 = (nt_I M (pl 31) 1).toInt ∧ r 12 = (nt_I M (pl 31) 2).toInt ∧ r 13 = (nt_I M (pl 4) 0).toInt ∧ r 14 = (nt_I M (pl 4) 4).toInt ∧ r 15 = (nt_I M (pl 14) 0).toInt ∧ r 16 = (nt_I M (pl 14) 212).toInt ∧ r 17 = (nt_I M (pl 14) 424).toInt ∧ r 18 = (nt_I M (pl 14) 636).toInt ∧ r 19 = (nt_I M (pl 14) 4).toInt ∧ r 20 = (nt_I M (pl 14) 216).toInt ∧ r 21 = (nt_I M (pl 14) 428).toInt ∧ r 22 = (nt_I M (pl 14) 640).toInt := ⟨fun s => if s = 11 then (nt_I M (pl 31) 1).toInt else if s = 12 then (nt_I M (pl 31) 2).toInt else if s = 13 then (nt_I M (pl 4) 0).toInt else if s = 14 then (nt_I M (pl 4) 4).toInt else if s = 15 then (nt_I M (pl 14) 0).toInt else if s = 16 then (nt_I M (pl 14) 212).toInt else if s = 17 then (nt_I M (pl 14) 424).toInt else if s = 18 then (nt_I M (pl 14) 636).toInt else if s = 19 then (nt_I M (pl 14) 4).toInt else if s = 20 then (nt_I M (pl 14) 216).toInt else if s = 21 then (nt_I M (pl 14) 428).toInt else if s = 22 then (nt_I M (pl 14) 640).toInt else v s, fun s hs => by dsimp only; rw [if_neg (by omega), if_neg (by omega), if_neg (by omega), if_neg (by omega), if_neg (by omega), if_neg (by omega), if_neg (by omega), if_neg (by omega), if_neg (by omega), if_neg (by omega), if_neg (by omega), if_neg (by omega)], rfl, rfl, rfl, rfl, rfl, rfl, rfl, rfl, rfl, rfl, rfl, rfl⟩
  have hij := ly_ij (K := kk_wd_n_back0N) rfl hB
  have hon := ly_app (K := kk_wd_n_back0N) (ed := []) (ec := [((31, (1, [])), (0, [(11, 1)])), ((31, (2, [])), (0, [(12, 1)])), ((4, (0, [])), (0, [(13, 1)])), ((4, (4, [])), (0, [(14, 1)])), ((14, (0, [])), (0, [(15, 1)])), ((14, (212, [])), (0, [(16, 1)])), ((14, (424, [])), (0, [(17, 1)])), ((14, (636, [])), (0, [(18, 1)])), ((14, (4, [])), (0, [(19, 1)])), ((14, (216, [])), (0, [(20, 1)])), ((14, (428, [])), (0, [(21, 1)])), ((14, (640, [])), (0, [(22, 1)]))]) (er := [((65, (0, [])), 0)]) rfl hB (fun _ _ => rfl) hr hij ly_nil (lw_oiC (g := 31) (j := 1) (by show 31 < 66; decide) (by decide) (by dsimp only; rw [sx_s_e]; exact h11.symm) (lw_oiC (g := 31) (j := 2) (by show 31 < 66; decide) (by decide) (by dsimp only; rw [sx_s_e]; exact h12.symm) (lw_oiC (g := 4) (j := 0) (by show 4 < 66; decide) (by decide) (by dsimp only; rw [sx_s_e]; exact h13.symm) (lw_oiC (g := 4) (j := 4) (by show 4 < 66; decide) (by decide) (by dsimp only; rw [sx_s_e]; exact h14.symm) (lw_oiC (g := 14) (j := 0) (by show 14 < 66; decide) (by decide) (by dsimp only; rw [sx_s_e]; exact h15.symm) (lw_oiC (g := 14) (j := 212) (by show 14 < 66; decide) (by decide) (by dsimp only; rw [sx_s_e]; exact h16.symm) (lw_oiC (g := 14) (j := 424) (by show 14 < 66; decide) (by decide) (by dsimp only; rw [sx_s_e]; exact h17.symm) (lw_oiC (g := 14) (j := 636) (by show 14 < 66; decide) (by decide) (by dsimp only; rw [sx_s_e]; exact h18.symm) (lw_oiC (g := 14) (j := 4) (by show 14 < 66; decide) (by decide) (by dsimp only; rw [sx_s_e]; exact h19.symm) (lw_oiC (g := 14) (j := 216) (by show 14 < 66; decide) (by decide) (by dsimp only; rw [sx_s_e]; exact h20.symm) (lw_oiC (g := 14) (j := 428) (by show 14 < 66; decide) (by decide) (by dsimp only; rw [sx_s_e]; exact h21.symm) (lw_oiC (g := 14) (j := 640) (by show 14 < 66; decide) (by decide) (by dsimp only; rw [sx_s_e]; exact h22.symm) (lw_oiN))))))))))))) (fun q hq => by
    rw [List.mem_singleton.mp hq]
    refine ⟨⟨by show 65 < 66; decide, by show 0 ≤ 66; decide⟩, by dsimp only; rw [sx_c_e]; decide, ?_⟩
    dsimp only
    rw [sx_c_e]
    exact hn) (ly_oba (ly_obr hr (ly_ob hB)) (ly_oba (ly_ob1 (by rw [h11]; exact hb11)) (ly_oba (ly_obI (x := nt_I M (pl 31) 2) h12) (ly_oba (ly_ob1 (by rw [h13]; exact hb13)) (ly_oba (ly_obI (x := nt_I M (pl 4) 4) h14) (ly_oba (ly_obI (x := nt_I M (pl 14) 0) h15) (ly_oba (ly_obI (x := nt_I M (pl 14) 212) h16) (ly_oba (ly_obI (x := nt_I M (pl 14) 424) h17) (ly_oba (ly_obI (x := nt_I M (pl 14) 636) h18) (ly_oba (ly_obI (x := nt_I M (pl 14) 4) h19) (ly_oba (ly_obI (x := nt_I M (pl 14) 216) h20) (ly_oba (ly_obI (x := nt_I M (pl 14) 428) h21) (ly_obI (x := nt_I M (pl 14) 640) h22))))))))))))) ly_oc0
  obtain ⟨p, hp, r', h2, h3⟩ := lw_app (ko_wd_n_back0N X) rfl hd hon (vs := [.ref (pl 16), .int (nI 0)]) ⟨rfl, ⟨_, rfl, by rw [sx_c_e]; decide⟩, trivial⟩ k
  have hr' : ∀ s, s < 23 → r' s = r s := fun s hs => h3.2.2.2.2.2.1 s hs
  obtain ⟨ov, M'⟩ := o
  rw [List.mem_singleton.mp hp] at h2 h3
  cases ov with
  | none => exact h2.elim
  | some w =>
    obtain ⟨y, rfl, hy⟩ := h2
    have hy : y.toInt = (-1) + 0 := hy
    have e0 : (nt_I M' (pl 31) 1).toInt = 0 + (1 * r' 11 + (0)) := lw_rd (g := 31) (j := 1) h3.2.2.1 (List.mem_of_getElem? (i := 0) rfl) (by decide)
    have e1 : (nt_I M' (pl 31) 2).toInt = 0 + (1 * r' 12 + (0)) := lw_rd (g := 31) (j := 2) h3.2.2.1 (List.mem_of_getElem? (i := 1) rfl) (by decide)
    have e2 : (nt_I M' (pl 4) 0).toInt = 0 + (1 * r' 13 + (0)) := lw_rd (g := 4) (j := 0) h3.2.2.1 (List.mem_of_getElem? (i := 2) rfl) (by decide)
    have e3 : (nt_I M' (pl 4) 4).toInt = 0 + (1 * r' 14 + (0)) := lw_rd (g := 4) (j := 4) h3.2.2.1 (List.mem_of_getElem? (i := 3) rfl) (by decide)
    have e4 : (nt_I M' (pl 14) 0).toInt = 0 + (1 * r' 15 + (0)) := lw_rd (g := 14) (j := 0) h3.2.2.1 (List.mem_of_getElem? (i := 4) rfl) (by decide)
    have e5 : (nt_I M' (pl 14) 212).toInt = 0 + (1 * r' 16 + (0)) := lw_rd (g := 14) (j := 212) h3.2.2.1 (List.mem_of_getElem? (i := 5) rfl) (by decide)
    have e6 : (nt_I M' (pl 14) 424).toInt = 0 + (1 * r' 17 + (0)) := lw_rd (g := 14) (j := 424) h3.2.2.1 (List.mem_of_getElem? (i := 6) rfl) (by decide)
    have e7 : (nt_I M' (pl 14) 636).toInt = 0 + (1 * r' 18 + (0)) := lw_rd (g := 14) (j := 636) h3.2.2.1 (List.mem_of_getElem? (i := 7) rfl) (by decide)
    have e8 : (nt_I M' (pl 14) 4).toInt = 0 + (1 * r' 19 + (0)) := lw_rd (g := 14) (j := 4) h3.2.2.1 (List.mem_of_getElem? (i := 8) rfl) (by decide)
    have e9 : (nt_I M' (pl 14) 216).toInt = 0 + (1 * r' 20 + (0)) := lw_rd (g := 14) (j := 216) h3.2.2.1 (List.mem_of_getElem? (i := 9) rfl) (by decide)
    have e10 : (nt_I M' (pl 14) 428).toInt = 0 + (1 * r' 21 + (0)) := lw_rd (g := 14) (j := 428) h3.2.2.1 (List.mem_of_getElem? (i := 10) rfl) (by decide)
    have e11 : (nt_I M' (pl 14) 640).toInt = 0 + (1 * r' 22 + (0)) := lw_rd (g := 14) (j := 640) h3.2.2.1 (List.mem_of_getElem? (i := 11) rfl) (by decide)
    have g11 := hr' 11 (by omega)
    rw [h11] at g11
    have g12 := hr' 12 (by omega)
    rw [h12] at g12
    have g13 := hr' 13 (by omega)
    rw [h13] at g13
    have g14 := hr' 14 (by omega)
    rw [h14] at g14
    have g15 := hr' 15 (by omega)
    rw [h15] at g15
    have g16 := hr' 16 (by omega)
    rw [h16] at g16
    have g17 := hr' 17 (by omega)
    rw [h17] at g17
    have g18 := hr' 18 (by omega)
    rw [h18] at g18
    have g19 := hr' 19 (by omega)
    rw [h19] at g19
    have g20 := hr' 20 (by omega)
    rw [h20] at g20
    have g21 := hr' 21 (by omega)
    rw [h21] at g21
    have g22 := hr' 22 (by omega)
    rw [h22] at g22
    exact ⟨y, M', rfl, ⟨by omega, e0.trans (lw_s g11), e1.trans (lw_s g12), e2.trans (lw_s g13), e3.trans (lw_s g14), e4.trans (lw_s g15), e5.trans (lw_s g16), e6.trans (lw_s g17), e7.trans (lw_s g18), e8.trans (lw_s g19), e9.trans (lw_s g20), e10.trans (lw_s g21), e11.trans (lw_s g22)⟩⟩
theorem lwd_image0 {X : nt_X} {pl : Nat → Nat} {v : Nat → Int} {M : nt_M} {d : Nat} {o : Option Value × nt_M} (hd : 1 ≤ d) (hB : ly_B pl v M) (hb11 : (0 : Int) ≤ (nt_I M (pl 31) 1).toInt ∧ (nt_I M (pl 31) 1).toInt ≤ 1) (hb13 : (0 : Int) ≤ (nt_I M (pl 4) 0).toInt ∧ (nt_I M (pl 4) 0).toInt ≤ 4) (k : nt_ev X d 234 [.ref (pl 0), .int (nI 0)] M o) : ∃ (y : Int32) (M' : nt_M), o = (some (.int y), M') ∧ ((y.toInt = (nt_I M (pl 4) 4).toInt ∧ (nt_I M' (pl 31) 1).toInt = (nt_I M (pl 31) 1).toInt ∧ (nt_I M' (pl 31) 2).toInt = (nt_I M (pl 31) 2).toInt ∧ (nt_I M' (pl 4) 0).toInt = (nt_I M (pl 4) 0).toInt ∧ (nt_I M' (pl 4) 4).toInt = (nt_I M (pl 4) 4).toInt ∧ (nt_I M' (pl 14) 0).toInt = (nt_I M (pl 4) 0).toInt ∧ (nt_I M' (pl 14) 212).toInt = (nt_I M (pl 14) 212).toInt ∧ (nt_I M' (pl 14) 424).toInt = (nt_I M (pl 14) 424).toInt ∧ (nt_I M' (pl 14) 636).toInt = (nt_I M (pl 14) 636).toInt ∧ (nt_I M' (pl 14) 4).toInt = (nt_I M (pl 4) 4).toInt ∧ (nt_I M' (pl 14) 216).toInt = (nt_I M (pl 14) 216).toInt ∧ (nt_I M' (pl 14) 428).toInt = (nt_I M (pl 14) 428).toInt ∧ (nt_I M' (pl 14) 640).toInt = (nt_I M (pl 14) 640).toInt)) := by
  obtain ⟨r, hr, h11, h12, h13, h14, h15, h16, h17, h18, h19, h20, h21, h22⟩ : ∃ r : Nat → Int, (∀ s, s < 11 → r s = v s) ∧ r 11 = (nt_I M (pl 31) 1).toInt ∧ r 12 = (nt_I M (pl 31) 2).toInt ∧ r 13 = (nt_I M (pl 4) 0).toInt ∧ r 14 = (nt_I M (pl 4) 4).toInt ∧ r 15 = (nt_I M (pl 14) 0).toInt ∧ r 16 = (nt_I M (pl 14) 212).toInt ∧ r 17 = (nt_I M (pl 14) 424).toInt ∧ r 18 = (nt_I M (pl 14) 636).toInt ∧ r 19 = (nt_I M (pl 14) 4).toInt ∧ r 20 = (nt_I M (pl 14) 216).toInt ∧ r 21 = (nt_I M (pl 14) 428).toInt ∧ r 22 = (nt_I M (pl 14) 640).toInt := ⟨fun s => if s = 11 then (nt_I M (pl 31) 1).toInt else if s = 12 then (nt_I M (pl 31) 2).toInt else if s = 13 then (nt_I M (pl 4) 0).toInt else if s = 14 then (nt_I M (pl 4) 4).toInt else if s = 15 then (nt_I M (pl 14) 0).toInt else if s = 16 then (nt_I M (pl 14) 212).toInt else if s = 17 then (nt_I M (pl 14) 424).toInt else if s = 18 then (nt_I M (pl 14) 636).toInt else if s = 19 then (nt_I M (pl 14) 4).toInt else if s = 20 then (nt_I M (pl 14) 216).toInt else if s = 21 then (nt_I M (pl 14) 428).toInt else if s = 22 then (nt_I M (pl 14) 640).toInt else v s, fun s hs => by dsimp only; rw [if_neg (by omega), if_neg (by omega), if_neg (by omega), if_neg (by omega), if_neg (by omega), if_neg (by omega), if_neg (by omega), if_neg (by omega), if_neg (by omega), if_neg (by omega), if_neg (by omega), if_neg (by omega)], rfl, rfl, rfl, rfl, rfl, rfl, rfl, rfl, rfl, rfl, rfl, rfl⟩
  have hij := ly_ij (K := kk_wd_image0) rfl hB
  have hon := ly_app (K := kk_wd_image0) (ed := []) (ec := [((31, (1, [])), (0, [(11, 1)])), ((31, (2, [])), (0, [(12, 1)])), ((4, (0, [])), (0, [(13, 1)])), ((4, (4, [])), (0, [(14, 1)])), ((14, (0, [])), (0, [(15, 1)])), ((14, (212, [])), (0, [(16, 1)])), ((14, (424, [])), (0, [(17, 1)])), ((14, (636, [])), (0, [(18, 1)])), ((14, (4, [])), (0, [(19, 1)])), ((14, (216, [])), (0, [(20, 1)])), ((14, (428, [])), (0, [(21, 1)])), ((14, (640, [])), (0, [(22, 1)]))]) (er := []) rfl hB (fun _ _ => rfl) hr hij ly_nil (lw_oiC (g := 31) (j := 1) (by show 31 < 66; decide) (by decide) (by dsimp only; rw [sx_s_e]; exact h11.symm) (lw_oiC (g := 31) (j := 2) (by show 31 < 66; decide) (by decide) (by dsimp only; rw [sx_s_e]; exact h12.symm) (lw_oiC (g := 4) (j := 0) (by show 4 < 66; decide) (by decide) (by dsimp only; rw [sx_s_e]; exact h13.symm) (lw_oiC (g := 4) (j := 4) (by show 4 < 66; decide) (by decide) (by dsimp only; rw [sx_s_e]; exact h14.symm) (lw_oiC (g := 14) (j := 0) (by show 14 < 66; decide) (by decide) (by dsimp only; rw [sx_s_e]; exact h15.symm) (lw_oiC (g := 14) (j := 212) (by show 14 < 66; decide) (by decide) (by dsimp only; rw [sx_s_e]; exact h16.symm) (lw_oiC (g := 14) (j := 424) (by show 14 < 66; decide) (by decide) (by dsimp only; rw [sx_s_e]; exact h17.symm) (lw_oiC (g := 14) (j := 636) (by show 14 < 66; decide) (by decide) (by dsimp only; rw [sx_s_e]; exact h18.symm) (lw_oiC (g := 14) (j := 4) (by show 14 < 66; decide) (by decide) (by dsimp only; rw [sx_s_e]; exact h19.symm) (lw_oiC (g := 14) (j := 216) (by show 14 < 66; decide) (by decide) (by dsimp only; rw [sx_s_e]; exact h20.symm) (lw_oiC (g := 14) (j := 428) (by show 14 < 66; decide) (by decide) (by dsimp only; rw [sx_s_e]; exact h21.symm) (lw_oiC (g := 14) (j := 640) (by show 14 < 66; decide) (by decide) (by dsimp only; rw [sx_s_e]; exact h22.symm) (lw_oiN))))))))))))) (fun q hq => by cases hq) (ly_oba (ly_obr hr (ly_ob hB)) (ly_oba (ly_ob1 (by rw [h11]; exact hb11)) (ly_oba (ly_obI (x := nt_I M (pl 31) 2) h12) (ly_oba (ly_ob1 (by rw [h13]; exact hb13)) (ly_oba (ly_obI (x := nt_I M (pl 4) 4) h14) (ly_oba (ly_obI (x := nt_I M (pl 14) 0) h15) (ly_oba (ly_obI (x := nt_I M (pl 14) 212) h16) (ly_oba (ly_obI (x := nt_I M (pl 14) 424) h17) (ly_oba (ly_obI (x := nt_I M (pl 14) 636) h18) (ly_oba (ly_obI (x := nt_I M (pl 14) 4) h19) (ly_oba (ly_obI (x := nt_I M (pl 14) 216) h20) (ly_oba (ly_obI (x := nt_I M (pl 14) 428) h21) (ly_obI (x := nt_I M (pl 14) 640) h22))))))))))))) ly_oc0
  obtain ⟨p, hp, r', h2, h3⟩ := lw_app (ko_wd_image0 X) rfl hd hon (vs := [.ref (pl 0), .int (nI 0)]) ⟨rfl, ⟨_, rfl, by rw [sx_c_e]; decide⟩, trivial⟩ k
  have hr' : ∀ s, s < 23 → r' s = r s := fun s hs => h3.2.2.2.2.2.1 s hs
  obtain ⟨ov, M'⟩ := o
  rw [List.mem_singleton.mp hp] at h2 h3
  cases ov with
  | none => exact h2.elim
  | some w =>
    obtain ⟨y, rfl, hy⟩ := h2
    have hy : y.toInt = 0 + (1 * r' 14 + (0)) := hy
    have e0 : (nt_I M' (pl 31) 1).toInt = 0 + (1 * r' 11 + (0)) := lw_rd (g := 31) (j := 1) h3.2.2.1 (List.mem_of_getElem? (i := 0) rfl) (by decide)
    have e1 : (nt_I M' (pl 31) 2).toInt = 0 + (1 * r' 12 + (0)) := lw_rd (g := 31) (j := 2) h3.2.2.1 (List.mem_of_getElem? (i := 1) rfl) (by decide)
    have e2 : (nt_I M' (pl 4) 0).toInt = 0 + (1 * r' 13 + (0)) := lw_rd (g := 4) (j := 0) h3.2.2.1 (List.mem_of_getElem? (i := 2) rfl) (by decide)
    have e3 : (nt_I M' (pl 4) 4).toInt = 0 + (1 * r' 14 + (0)) := lw_rd (g := 4) (j := 4) h3.2.2.1 (List.mem_of_getElem? (i := 3) rfl) (by decide)
    have e4 : (nt_I M' (pl 14) 0).toInt = 0 + (1 * r' 13 + (0)) := lw_rd (g := 14) (j := 0) h3.2.2.1 (List.mem_of_getElem? (i := 4) rfl) (by decide)
    have e5 : (nt_I M' (pl 14) 212).toInt = 0 + (1 * r' 16 + (0)) := lw_rd (g := 14) (j := 212) h3.2.2.1 (List.mem_of_getElem? (i := 5) rfl) (by decide)
    have e6 : (nt_I M' (pl 14) 424).toInt = 0 + (1 * r' 17 + (0)) := lw_rd (g := 14) (j := 424) h3.2.2.1 (List.mem_of_getElem? (i := 6) rfl) (by decide)
    have e7 : (nt_I M' (pl 14) 636).toInt = 0 + (1 * r' 18 + (0)) := lw_rd (g := 14) (j := 636) h3.2.2.1 (List.mem_of_getElem? (i := 7) rfl) (by decide)
    have e8 : (nt_I M' (pl 14) 4).toInt = 0 + (1 * r' 14 + (0)) := lw_rd (g := 14) (j := 4) h3.2.2.1 (List.mem_of_getElem? (i := 8) rfl) (by decide)
    have e9 : (nt_I M' (pl 14) 216).toInt = 0 + (1 * r' 20 + (0)) := lw_rd (g := 14) (j := 216) h3.2.2.1 (List.mem_of_getElem? (i := 9) rfl) (by decide)
    have e10 : (nt_I M' (pl 14) 428).toInt = 0 + (1 * r' 21 + (0)) := lw_rd (g := 14) (j := 428) h3.2.2.1 (List.mem_of_getElem? (i := 10) rfl) (by decide)
    have e11 : (nt_I M' (pl 14) 640).toInt = 0 + (1 * r' 22 + (0)) := lw_rd (g := 14) (j := 640) h3.2.2.1 (List.mem_of_getElem? (i := 11) rfl) (by decide)
    have g11 := hr' 11 (by omega)
    rw [h11] at g11
    have g12 := hr' 12 (by omega)
    rw [h12] at g12
    have g13 := hr' 13 (by omega)
    rw [h13] at g13
    have g14 := hr' 14 (by omega)
    rw [h14] at g14
    have g16 := hr' 16 (by omega)
    rw [h16] at g16
    have g17 := hr' 17 (by omega)
    rw [h17] at g17
    have g18 := hr' 18 (by omega)
    rw [h18] at g18
    have g20 := hr' 20 (by omega)
    rw [h20] at g20
    have g21 := hr' 21 (by omega)
    rw [h21] at g21
    have g22 := hr' 22 (by omega)
    rw [h22] at g22
    exact ⟨y, M', rfl, ⟨by omega, e0.trans (lw_s g11), e1.trans (lw_s g12), e2.trans (lw_s g13), e3.trans (lw_s g14), e4.trans (lw_s g13), e5.trans (lw_s g16), e6.trans (lw_s g17), e7.trans (lw_s g18), e8.trans (lw_s g14), e9.trans (lw_s g20), e10.trans (lw_s g21), e11.trans (lw_s g22)⟩⟩
theorem lwd_back0 {X : nt_X} {pl : Nat → Nat} {v : Nat → Int} {M : nt_M} {d : Nat} {o : Option Value × nt_M} (hd : 1 ≤ d) (hB : ly_B pl v M) (hb11 : (0 : Int) ≤ (nt_I M (pl 31) 1).toInt ∧ (nt_I M (pl 31) 1).toInt ≤ 1) (hb13 : (0 : Int) ≤ (nt_I M (pl 4) 0).toInt ∧ (nt_I M (pl 4) 0).toInt ≤ 4) (hv3 : v 3 = 1) (k : nt_ev X d 235 [.ref (pl 0), .int (nI 0)] M o) : ∃ (y : Int32) (M' : nt_M), o = (some (.int y), M') ∧ ((y.toInt = (nt_I M (pl 14) 4).toInt ∧ (nt_I M' (pl 31) 1).toInt = (nt_I M (pl 31) 1).toInt ∧ (nt_I M' (pl 31) 2).toInt = (nt_I M (pl 31) 2).toInt ∧ (nt_I M' (pl 4) 0).toInt = (nt_I M (pl 14) 0).toInt ∧ (nt_I M' (pl 4) 4).toInt = (nt_I M (pl 14) 4).toInt ∧ (nt_I M' (pl 14) 0).toInt = (nt_I M (pl 14) 0).toInt ∧ (nt_I M' (pl 14) 212).toInt = (nt_I M (pl 14) 212).toInt ∧ (nt_I M' (pl 14) 424).toInt = (nt_I M (pl 14) 424).toInt ∧ (nt_I M' (pl 14) 636).toInt = (nt_I M (pl 14) 636).toInt ∧ (nt_I M' (pl 14) 4).toInt = (nt_I M (pl 14) 4).toInt ∧ (nt_I M' (pl 14) 216).toInt = (nt_I M (pl 14) 216).toInt ∧ (nt_I M' (pl 14) 428).toInt = (nt_I M (pl 14) 428).toInt ∧ (nt_I M' (pl 14) 640).toInt = (nt_I M (pl 14) 640).toInt)) := by
  obtain ⟨r, hr, h11, h12, h13, h14, h15, h16, h17, h18, h19, h20, h21, h22⟩ : ∃ r : Nat → Int, (∀ s, s < 11 → r s = v s) ∧ r 11 = (nt_I M (pl 31) 1).toInt ∧ r 12 = (nt_I M (pl 31) 2).toInt ∧ r 13 = (nt_I M (pl 4) 0).toInt ∧ r 14 = (nt_I M (pl 4) 4).toInt ∧ r 15 = (nt_I M (pl 14) 0).toInt ∧ r 16 = (nt_I M (pl 14) 212).toInt ∧ r 17 = (nt_I M (pl 14) 424).toInt ∧ r 18 = (nt_I M (pl 14) 636).toInt ∧ r 19 = (nt_I M (pl 14) 4).toInt ∧ r 20 = (nt_I M (pl 14) 216).toInt ∧ r 21 = (nt_I M (pl 14) 428).toInt ∧ r 22 = (nt_I M (pl 14) 640).toInt := ⟨fun s => if s = 11 then (nt_I M (pl 31) 1).toInt else if s = 12 then (nt_I M (pl 31) 2).toInt else if s = 13 then (nt_I M (pl 4) 0).toInt else if s = 14 then (nt_I M (pl 4) 4).toInt else if s = 15 then (nt_I M (pl 14) 0).toInt else if s = 16 then (nt_I M (pl 14) 212).toInt else if s = 17 then (nt_I M (pl 14) 424).toInt else if s = 18 then (nt_I M (pl 14) 636).toInt else if s = 19 then (nt_I M (pl 14) 4).toInt else if s = 20 then (nt_I M (pl 14) 216).toInt else if s = 21 then (nt_I M (pl 14) 428).toInt else if s = 22 then (nt_I M (pl 14) 640).toInt else v s, fun s hs => by dsimp only; rw [if_neg (by omega), if_neg (by omega), if_neg (by omega), if_neg (by omega), if_neg (by omega), if_neg (by omega), if_neg (by omega), if_neg (by omega), if_neg (by omega), if_neg (by omega), if_neg (by omega), if_neg (by omega)], rfl, rfl, rfl, rfl, rfl, rfl, rfl, rfl, rfl, rfl, rfl, rfl⟩
  have hij := ly_ij (K := kk_wd_back0) rfl hB
  have hon := ly_app (K := kk_wd_back0) (ed := []) (ec := [((31, (1, [])), (0, [(11, 1)])), ((31, (2, [])), (0, [(12, 1)])), ((4, (0, [])), (0, [(13, 1)])), ((4, (4, [])), (0, [(14, 1)])), ((14, (0, [])), (0, [(15, 1)])), ((14, (212, [])), (0, [(16, 1)])), ((14, (424, [])), (0, [(17, 1)])), ((14, (636, [])), (0, [(18, 1)])), ((14, (4, [])), (0, [(19, 1)])), ((14, (216, [])), (0, [(20, 1)])), ((14, (428, [])), (0, [(21, 1)])), ((14, (640, [])), (0, [(22, 1)]))]) (er := []) rfl hB (fun _ _ => rfl) hr hij ly_nil (lw_oiC (g := 31) (j := 1) (by show 31 < 66; decide) (by decide) (by dsimp only; rw [sx_s_e]; exact h11.symm) (lw_oiC (g := 31) (j := 2) (by show 31 < 66; decide) (by decide) (by dsimp only; rw [sx_s_e]; exact h12.symm) (lw_oiC (g := 4) (j := 0) (by show 4 < 66; decide) (by decide) (by dsimp only; rw [sx_s_e]; exact h13.symm) (lw_oiC (g := 4) (j := 4) (by show 4 < 66; decide) (by decide) (by dsimp only; rw [sx_s_e]; exact h14.symm) (lw_oiC (g := 14) (j := 0) (by show 14 < 66; decide) (by decide) (by dsimp only; rw [sx_s_e]; exact h15.symm) (lw_oiC (g := 14) (j := 212) (by show 14 < 66; decide) (by decide) (by dsimp only; rw [sx_s_e]; exact h16.symm) (lw_oiC (g := 14) (j := 424) (by show 14 < 66; decide) (by decide) (by dsimp only; rw [sx_s_e]; exact h17.symm) (lw_oiC (g := 14) (j := 636) (by show 14 < 66; decide) (by decide) (by dsimp only; rw [sx_s_e]; exact h18.symm) (lw_oiC (g := 14) (j := 4) (by show 14 < 66; decide) (by decide) (by dsimp only; rw [sx_s_e]; exact h19.symm) (lw_oiC (g := 14) (j := 216) (by show 14 < 66; decide) (by decide) (by dsimp only; rw [sx_s_e]; exact h20.symm) (lw_oiC (g := 14) (j := 428) (by show 14 < 66; decide) (by decide) (by dsimp only; rw [sx_s_e]; exact h21.symm) (lw_oiC (g := 14) (j := 640) (by show 14 < 66; decide) (by decide) (by dsimp only; rw [sx_s_e]; exact h22.symm) (lw_oiN))))))))))))) (fun q hq => by cases hq) (ly_oba (ly_oba (ly_ob1 (by rw [hr 3 (by omega), hv3]; omega)) (ly_obr hr (ly_ob hB))) (ly_oba (ly_ob1 (by rw [h11]; exact hb11)) (ly_oba (ly_obI (x := nt_I M (pl 31) 2) h12) (ly_oba (ly_ob1 (by rw [h13]; exact hb13)) (ly_oba (ly_obI (x := nt_I M (pl 4) 4) h14) (ly_oba (ly_obI (x := nt_I M (pl 14) 0) h15) (ly_oba (ly_obI (x := nt_I M (pl 14) 212) h16) (ly_oba (ly_obI (x := nt_I M (pl 14) 424) h17) (ly_oba (ly_obI (x := nt_I M (pl 14) 636) h18) (ly_oba (ly_obI (x := nt_I M (pl 14) 4) h19) (ly_oba (ly_obI (x := nt_I M (pl 14) 216) h20) (ly_oba (ly_obI (x := nt_I M (pl 14) 428) h21) (ly_obI (x := nt_I M (pl 14) 640) h22))))))))))))) ly_oc0
  obtain ⟨p, hp, r', h2, h3⟩ := lw_app (ko_wd_back0 X) rfl hd hon (vs := [.ref (pl 0), .int (nI 0)]) ⟨rfl, ⟨_, rfl, by rw [sx_c_e]; decide⟩, trivial⟩ k
  have hr' : ∀ s, s < 23 → r' s = r s := fun s hs => h3.2.2.2.2.2.1 s hs
  obtain ⟨ov, M'⟩ := o
  rw [List.mem_singleton.mp hp] at h2 h3
  cases ov with
  | none => exact h2.elim
  | some w =>
    obtain ⟨y, rfl, hy⟩ := h2
    have hy : y.toInt = 0 + (1 * r' 19 + (0)) := hy
    have e0 : (nt_I M' (pl 31) 1).toInt = 0 + (1 * r' 11 + (0)) := lw_rd (g := 31) (j := 1) h3.2.2.1 (List.mem_of_getElem? (i := 0) rfl) (by decide)
    have e1 : (nt_I M' (pl 31) 2).toInt = 0 + (1 * r' 12 + (0)) := lw_rd (g := 31) (j := 2) h3.2.2.1 (List.mem_of_getElem? (i := 1) rfl) (by decide)
    have e2 : (nt_I M' (pl 4) 0).toInt = 0 + (1 * r' 15 + (0)) := lw_rd (g := 4) (j := 0) h3.2.2.1 (List.mem_of_getElem? (i := 2) rfl) (by decide)
    have e3 : (nt_I M' (pl 4) 4).toInt = 0 + (1 * r' 19 + (0)) := lw_rd (g := 4) (j := 4) h3.2.2.1 (List.mem_of_getElem? (i := 3) rfl) (by decide)
    have e4 : (nt_I M' (pl 14) 0).toInt = 0 + (1 * r' 15 + (0)) := lw_rd (g := 14) (j := 0) h3.2.2.1 (List.mem_of_getElem? (i := 4) rfl) (by decide)
    have e5 : (nt_I M' (pl 14) 212).toInt = 0 + (1 * r' 16 + (0)) := lw_rd (g := 14) (j := 212) h3.2.2.1 (List.mem_of_getElem? (i := 5) rfl) (by decide)
    have e6 : (nt_I M' (pl 14) 424).toInt = 0 + (1 * r' 17 + (0)) := lw_rd (g := 14) (j := 424) h3.2.2.1 (List.mem_of_getElem? (i := 6) rfl) (by decide)
    have e7 : (nt_I M' (pl 14) 636).toInt = 0 + (1 * r' 18 + (0)) := lw_rd (g := 14) (j := 636) h3.2.2.1 (List.mem_of_getElem? (i := 7) rfl) (by decide)
    have e8 : (nt_I M' (pl 14) 4).toInt = 0 + (1 * r' 19 + (0)) := lw_rd (g := 14) (j := 4) h3.2.2.1 (List.mem_of_getElem? (i := 8) rfl) (by decide)
    have e9 : (nt_I M' (pl 14) 216).toInt = 0 + (1 * r' 20 + (0)) := lw_rd (g := 14) (j := 216) h3.2.2.1 (List.mem_of_getElem? (i := 9) rfl) (by decide)
    have e10 : (nt_I M' (pl 14) 428).toInt = 0 + (1 * r' 21 + (0)) := lw_rd (g := 14) (j := 428) h3.2.2.1 (List.mem_of_getElem? (i := 10) rfl) (by decide)
    have e11 : (nt_I M' (pl 14) 640).toInt = 0 + (1 * r' 22 + (0)) := lw_rd (g := 14) (j := 640) h3.2.2.1 (List.mem_of_getElem? (i := 11) rfl) (by decide)
    have g11 := hr' 11 (by omega)
    rw [h11] at g11
    have g12 := hr' 12 (by omega)
    rw [h12] at g12
    have g15 := hr' 15 (by omega)
    rw [h15] at g15
    have g16 := hr' 16 (by omega)
    rw [h16] at g16
    have g17 := hr' 17 (by omega)
    rw [h17] at g17
    have g18 := hr' 18 (by omega)
    rw [h18] at g18
    have g19 := hr' 19 (by omega)
    rw [h19] at g19
    have g20 := hr' 20 (by omega)
    rw [h20] at g20
    have g21 := hr' 21 (by omega)
    rw [h21] at g21
    have g22 := hr' 22 (by omega)
    rw [h22] at g22
    exact ⟨y, M', rfl, ⟨by omega, e0.trans (lw_s g11), e1.trans (lw_s g12), e2.trans (lw_s g15), e3.trans (lw_s g19), e4.trans (lw_s g15), e5.trans (lw_s g16), e6.trans (lw_s g17), e7.trans (lw_s g18), e8.trans (lw_s g19), e9.trans (lw_s g20), e10.trans (lw_s g21), e11.trans (lw_s g22)⟩⟩
theorem lwd_back0N {X : nt_X} {pl : Nat → Nat} {v : Nat → Int} {M : nt_M} {d : Nat} {o : Option Value × nt_M} (hd : 1 ≤ d) (hB : ly_B pl v M) (hb11 : (0 : Int) ≤ (nt_I M (pl 31) 1).toInt ∧ (nt_I M (pl 31) 1).toInt ≤ 1) (hb13 : (0 : Int) ≤ (nt_I M (pl 4) 0).toInt ∧ (nt_I M (pl 4) 0).toInt ≤ 4) (hv3 : v 3 = 0) (k : nt_ev X d 235 [.ref (pl 0), .int (nI 0)] M o) : ∃ (y : Int32) (M' : nt_M), o = (some (.int y), M') ∧ ((y.toInt = -1 ∧ (nt_I M' (pl 31) 1).toInt = (nt_I M (pl 31) 1).toInt ∧ (nt_I M' (pl 31) 2).toInt = (nt_I M (pl 31) 2).toInt ∧ (nt_I M' (pl 4) 0).toInt = (nt_I M (pl 4) 0).toInt ∧ (nt_I M' (pl 4) 4).toInt = (nt_I M (pl 4) 4).toInt ∧ (nt_I M' (pl 14) 0).toInt = (nt_I M (pl 14) 0).toInt ∧ (nt_I M' (pl 14) 212).toInt = (nt_I M (pl 14) 212).toInt ∧ (nt_I M' (pl 14) 424).toInt = (nt_I M (pl 14) 424).toInt ∧ (nt_I M' (pl 14) 636).toInt = (nt_I M (pl 14) 636).toInt ∧ (nt_I M' (pl 14) 4).toInt = (nt_I M (pl 14) 4).toInt ∧ (nt_I M' (pl 14) 216).toInt = (nt_I M (pl 14) 216).toInt ∧ (nt_I M' (pl 14) 428).toInt = (nt_I M (pl 14) 428).toInt ∧ (nt_I M' (pl 14) 640).toInt = (nt_I M (pl 14) 640).toInt)) := by
  obtain ⟨r, hr, h11, h12, h13, h14, h15, h16, h17, h18, h19, h20, h21, h22⟩ : ∃ r : Nat → Int, (∀ s, s < 11 → r s = v s) ∧ r 11 = (nt_I M (pl 31) 1).toInt ∧ r 12 = (nt_I M (pl 31) 2).toInt ∧ r 13 = (nt_I M (pl 4) 0).toInt ∧ r 14 = (nt_I M (pl 4) 4).toInt ∧ r 15 = (nt_I M (pl 14) 0).toInt ∧ r 16 = (nt_I M (pl 14) 212).toInt ∧ r 17 = (nt_I M (pl 14) 424).toInt ∧ r 18 = (nt_I M (pl 14) 636).toInt ∧ r 19 = (nt_I M (pl 14) 4).toInt ∧ r 20 = (nt_I M (pl 14) 216).toInt ∧ r 21 = (nt_I M (pl 14) 428).toInt ∧ r 22 = (nt_I M (pl 14) 640).toInt := ⟨fun s => if s = 11 then (nt_I M (pl 31) 1).toInt else if s = 12 then (nt_I M (pl 31) 2).toInt else if s = 13 then (nt_I M (pl 4) 0).toInt else if s = 14 then (nt_I M (pl 4) 4).toInt else if s = 15 then (nt_I M (pl 14) 0).toInt else if s = 16 then (nt_I M (pl 14) 212).toInt else if s = 17 then (nt_I M (pl 14) 424).toInt else if s = 18 then (nt_I M (pl 14) 636).toInt else if s = 19 then (nt_I M (pl 14) 4).toInt else if s = 20 then (nt_I M (pl 14) 216).toInt else if s = 21 then (nt_I M (pl 14) 428).toInt else if s = 22 then (nt_I M (pl 14) 640).toInt else v s, fun s hs => by dsimp only; rw [if_neg (by omega), if_neg (by omega), if_neg (by omega), if_neg (by omega), if_neg (by omega), if_neg (by omega), if_neg (by omega), if_neg (by omega), if_neg (by omega), if_neg (by omega), if_neg (by omega), if_neg (by omega)], rfl, rfl, rfl, rfl, rfl, rfl, rfl, rfl, rfl, rfl, rfl, rfl⟩
  have hij := ly_ij (K := kk_wd_back0N) rfl hB
  have hon := ly_app (K := kk_wd_back0N) (ed := []) (ec := [((31, (1, [])), (0, [(11, 1)])), ((31, (2, [])), (0, [(12, 1)])), ((4, (0, [])), (0, [(13, 1)])), ((4, (4, [])), (0, [(14, 1)])), ((14, (0, [])), (0, [(15, 1)])), ((14, (212, [])), (0, [(16, 1)])), ((14, (424, [])), (0, [(17, 1)])), ((14, (636, [])), (0, [(18, 1)])), ((14, (4, [])), (0, [(19, 1)])), ((14, (216, [])), (0, [(20, 1)])), ((14, (428, [])), (0, [(21, 1)])), ((14, (640, [])), (0, [(22, 1)]))]) (er := []) rfl hB (fun _ _ => rfl) hr hij ly_nil (lw_oiC (g := 31) (j := 1) (by show 31 < 66; decide) (by decide) (by dsimp only; rw [sx_s_e]; exact h11.symm) (lw_oiC (g := 31) (j := 2) (by show 31 < 66; decide) (by decide) (by dsimp only; rw [sx_s_e]; exact h12.symm) (lw_oiC (g := 4) (j := 0) (by show 4 < 66; decide) (by decide) (by dsimp only; rw [sx_s_e]; exact h13.symm) (lw_oiC (g := 4) (j := 4) (by show 4 < 66; decide) (by decide) (by dsimp only; rw [sx_s_e]; exact h14.symm) (lw_oiC (g := 14) (j := 0) (by show 14 < 66; decide) (by decide) (by dsimp only; rw [sx_s_e]; exact h15.symm) (lw_oiC (g := 14) (j := 212) (by show 14 < 66; decide) (by decide) (by dsimp only; rw [sx_s_e]; exact h16.symm) (lw_oiC (g := 14) (j := 424) (by show 14 < 66; decide) (by decide) (by dsimp only; rw [sx_s_e]; exact h17.symm) (lw_oiC (g := 14) (j := 636) (by show 14 < 66; decide) (by decide) (by dsimp only; rw [sx_s_e]; exact h18.symm) (lw_oiC (g := 14) (j := 4) (by show 14 < 66; decide) (by decide) (by dsimp only; rw [sx_s_e]; exact h19.symm) (lw_oiC (g := 14) (j := 216) (by show 14 < 66; decide) (by decide) (by dsimp only; rw [sx_s_e]; exact h20.symm) (lw_oiC (g := 14) (j := 428) (by show 14 < 66; decide) (by decide) (by dsimp only; rw [sx_s_e]; exact h21.symm) (lw_oiC (g := 14) (j := 640) (by show 14 < 66; decide) (by decide) (by dsimp only; rw [sx_s_e]; exact h22.symm) (lw_oiN))))))))))))) (fun q hq => by cases hq) (ly_oba (ly_oba (ly_ob1 (by rw [hr 3 (by omega), hv3]; omega)) (ly_obr hr (ly_ob hB))) (ly_oba (ly_ob1 (by rw [h11]; exact hb11)) (ly_oba (ly_obI (x := nt_I M (pl 31) 2) h12) (ly_oba (ly_ob1 (by rw [h13]; exact hb13)) (ly_oba (ly_obI (x := nt_I M (pl 4) 4) h14) (ly_oba (ly_obI (x := nt_I M (pl 14) 0) h15) (ly_oba (ly_obI (x := nt_I M (pl 14) 212) h16) (ly_oba (ly_obI (x := nt_I M (pl 14) 424) h17) (ly_oba (ly_obI (x := nt_I M (pl 14) 636) h18) (ly_oba (ly_obI (x := nt_I M (pl 14) 4) h19) (ly_oba (ly_obI (x := nt_I M (pl 14) 216) h20) (ly_oba (ly_obI (x := nt_I M (pl 14) 428) h21) (ly_obI (x := nt_I M (pl 14) 640) h22))))))))))))) ly_oc0
  obtain ⟨p, hp, r', h2, h3⟩ := lw_app (ko_wd_back0N X) rfl hd hon (vs := [.ref (pl 0), .int (nI 0)]) ⟨rfl, ⟨_, rfl, by rw [sx_c_e]; decide⟩, trivial⟩ k
  have hr' : ∀ s, s < 23 → r' s = r s := fun s hs => h3.2.2.2.2.2.1 s hs
  obtain ⟨ov, M'⟩ := o
  rw [List.mem_singleton.mp hp] at h2 h3
  cases ov with
  | none => exact h2.elim
  | some w =>
    obtain ⟨y, rfl, hy⟩ := h2
    have hy : y.toInt = (-1) + 0 := hy
    have e0 : (nt_I M' (pl 31) 1).toInt = 0 + (1 * r' 11 + (0)) := lw_rd (g := 31) (j := 1) h3.2.2.1 (List.mem_of_getElem? (i := 0) rfl) (by decide)
    have e1 : (nt_I M' (pl 31) 2).toInt = 0 + (1 * r' 12 + (0)) := lw_rd (g := 31) (j := 2) h3.2.2.1 (List.mem_of_getElem? (i := 1) rfl) (by decide)
    have e2 : (nt_I M' (pl 4) 0).toInt = 0 + (1 * r' 13 + (0)) := lw_rd (g := 4) (j := 0) h3.2.2.1 (List.mem_of_getElem? (i := 2) rfl) (by decide)
    have e3 : (nt_I M' (pl 4) 4).toInt = 0 + (1 * r' 14 + (0)) := lw_rd (g := 4) (j := 4) h3.2.2.1 (List.mem_of_getElem? (i := 3) rfl) (by decide)
    have e4 : (nt_I M' (pl 14) 0).toInt = 0 + (1 * r' 15 + (0)) := lw_rd (g := 14) (j := 0) h3.2.2.1 (List.mem_of_getElem? (i := 4) rfl) (by decide)
    have e5 : (nt_I M' (pl 14) 212).toInt = 0 + (1 * r' 16 + (0)) := lw_rd (g := 14) (j := 212) h3.2.2.1 (List.mem_of_getElem? (i := 5) rfl) (by decide)
    have e6 : (nt_I M' (pl 14) 424).toInt = 0 + (1 * r' 17 + (0)) := lw_rd (g := 14) (j := 424) h3.2.2.1 (List.mem_of_getElem? (i := 6) rfl) (by decide)
    have e7 : (nt_I M' (pl 14) 636).toInt = 0 + (1 * r' 18 + (0)) := lw_rd (g := 14) (j := 636) h3.2.2.1 (List.mem_of_getElem? (i := 7) rfl) (by decide)
    have e8 : (nt_I M' (pl 14) 4).toInt = 0 + (1 * r' 19 + (0)) := lw_rd (g := 14) (j := 4) h3.2.2.1 (List.mem_of_getElem? (i := 8) rfl) (by decide)
    have e9 : (nt_I M' (pl 14) 216).toInt = 0 + (1 * r' 20 + (0)) := lw_rd (g := 14) (j := 216) h3.2.2.1 (List.mem_of_getElem? (i := 9) rfl) (by decide)
    have e10 : (nt_I M' (pl 14) 428).toInt = 0 + (1 * r' 21 + (0)) := lw_rd (g := 14) (j := 428) h3.2.2.1 (List.mem_of_getElem? (i := 10) rfl) (by decide)
    have e11 : (nt_I M' (pl 14) 640).toInt = 0 + (1 * r' 22 + (0)) := lw_rd (g := 14) (j := 640) h3.2.2.1 (List.mem_of_getElem? (i := 11) rfl) (by decide)
    have g11 := hr' 11 (by omega)
    rw [h11] at g11
    have g12 := hr' 12 (by omega)
    rw [h12] at g12
    have g13 := hr' 13 (by omega)
    rw [h13] at g13
    have g14 := hr' 14 (by omega)
    rw [h14] at g14
    have g15 := hr' 15 (by omega)
    rw [h15] at g15
    have g16 := hr' 16 (by omega)
    rw [h16] at g16
    have g17 := hr' 17 (by omega)
    rw [h17] at g17
    have g18 := hr' 18 (by omega)
    rw [h18] at g18
    have g19 := hr' 19 (by omega)
    rw [h19] at g19
    have g20 := hr' 20 (by omega)
    rw [h20] at g20
    have g21 := hr' 21 (by omega)
    rw [h21] at g21
    have g22 := hr' 22 (by omega)
    rw [h22] at g22
    exact ⟨y, M', rfl, ⟨by omega, e0.trans (lw_s g11), e1.trans (lw_s g12), e2.trans (lw_s g13), e3.trans (lw_s g14), e4.trans (lw_s g15), e5.trans (lw_s g16), e6.trans (lw_s g17), e7.trans (lw_s g18), e8.trans (lw_s g19), e9.trans (lw_s g20), e10.trans (lw_s g21), e11.trans (lw_s g22)⟩⟩
theorem lwd_n_image1 {X : nt_X} {pl : Nat → Nat} {v : Nat → Int} {M : nt_M} {d a : Nat} {o : Option Value × nt_M} (hd : 3 ≤ d) (hB : ly_B pl v M) {x : Int} (p1 : ∀ g, g < 66 → pl g < 66) (c1 : nt_R M (pl 65) 1 = some a) (c3 : 66 ≤ a) (c6 : ly_im a x M) (hb11 : (0 : Int) ≤ (nt_I M (pl 31) 1).toInt ∧ (nt_I M (pl 31) 1).toInt ≤ 1) (hb13 : (0 : Int) ≤ (nt_I M (pl 4) 0).toInt ∧ (nt_I M (pl 4) 0).toInt ≤ 4) (hb24 : (0 : Int) ≤ (nt_I M (a + 0) 1).toInt ∧ (nt_I M (a + 0) 1).toInt ≤ 1) (k : nt_ev X d 127 [.ref (pl 16), .int (nI 1)] M o) : ∃ (y : Int32) (M' : nt_M), o = (some (.int y), M') ∧ ((y.toInt = (nt_I M (pl 31) 2).toInt ∧ (nt_I M' (pl 31) 1).toInt = (nt_I M (pl 31) 1).toInt ∧ (nt_I M' (pl 31) 2).toInt = (nt_I M (pl 31) 2).toInt ∧ (nt_I M' (pl 4) 0).toInt = (nt_I M (pl 4) 0).toInt ∧ (nt_I M' (pl 4) 4).toInt = (nt_I M (pl 4) 4).toInt ∧ (nt_I M' (pl 14) 0).toInt = (nt_I M (pl 14) 0).toInt ∧ (nt_I M' (pl 14) 212).toInt = (nt_I M (pl 14) 212).toInt ∧ (nt_I M' (pl 14) 424).toInt = (nt_I M (pl 14) 424).toInt ∧ (nt_I M' (pl 14) 636).toInt = (nt_I M (pl 14) 636).toInt ∧ (nt_I M' (pl 14) 4).toInt = (nt_I M (pl 14) 4).toInt ∧ (nt_I M' (pl 14) 216).toInt = (nt_I M (pl 14) 216).toInt ∧ (nt_I M' (pl 14) 428).toInt = (nt_I M (pl 14) 428).toInt ∧ (nt_I M' (pl 14) 640).toInt = (nt_I M (pl 14) 640).toInt ∧ (nt_I M' (a + 0) 1).toInt = (nt_I M (pl 31) 1).toInt ∧ (nt_I M' (a + 0) 2).toInt = (nt_I M (pl 31) 2).toInt)) := by
  obtain ⟨r, hr, h11, h12, h13, h14, h15, h16, h17, h18, h19, h20, h21, h22, h23, h24, h25⟩ : ∃ r : Nat → Int, (∀ s, s < 11 → r s = v s) ∧ r 11 = (nt_I M (pl 31) 1).toInt ∧ r 12 = (nt_I M (pl 31) 2).toInt ∧ r 13 = (nt_I M (pl 4) 0).toInt ∧ r 14 = (nt_I M (pl 4) 4).toInt ∧ r 15 = (nt_I M (pl 14) 0).toInt ∧ r 16 = (nt_I M (pl 14) 212).toInt ∧ r 17 = (nt_I M (pl 14) 424).toInt ∧ r 18 = (nt_I M (pl 14) 636).toInt ∧ r 19 = (nt_I M (pl 14) 4).toInt ∧ r 20 = (nt_I M (pl 14) 216).toInt ∧ r 21 = (nt_I M (pl 14) 428).toInt ∧ r 22 = (nt_I M (pl 14) 640).toInt ∧ r 23 = (nt_I M (a + 0) 6).toInt ∧ r 24 = (nt_I M (a + 0) 1).toInt ∧ r 25 = (nt_I M (a + 0) 2).toInt := ⟨fun s => if s = 11 then (nt_I M (pl 31) 1).toInt else if s = 12 then (nt_I M (pl 31) 2).toInt else if s = 13 then (nt_I M (pl 4) 0).toInt else if s = 14 then (nt_I M (pl 4) 4).toInt else if s = 15 then (nt_I M (pl 14) 0).toInt else if s = 16 then (nt_I M (pl 14) 212).toInt else if s = 17 then (nt_I M (pl 14) 424).toInt else if s = 18 then (nt_I M (pl 14) 636).toInt else if s = 19 then (nt_I M (pl 14) 4).toInt else if s = 20 then (nt_I M (pl 14) 216).toInt else if s = 21 then (nt_I M (pl 14) 428).toInt else if s = 22 then (nt_I M (pl 14) 640).toInt else if s = 23 then (nt_I M (a + 0) 6).toInt else if s = 24 then (nt_I M (a + 0) 1).toInt else if s = 25 then (nt_I M (a + 0) 2).toInt else v s, fun s hs => by dsimp only; rw [if_neg (by omega), if_neg (by omega), if_neg (by omega), if_neg (by omega), if_neg (by omega), if_neg (by omega), if_neg (by omega), if_neg (by omega), if_neg (by omega), if_neg (by omega), if_neg (by omega), if_neg (by omega), if_neg (by omega), if_neg (by omega), if_neg (by omega)], rfl, rfl, rfl, rfl, rfl, rfl, rfl, rfl, rfl, rfl, rfl, rfl, rfl, rfl, rfl⟩
  have hPL : ∀ h, h < 66 → ly_pl pl a h = pl h := fun h hh => ly_pl1 hh
  have hij : sx_ij (sx_KE (sx_tbs, sx_gps) kk_wd_n_image1) (ly_pl pl a) := ly_pij p1 c3 hB.1
  have hon := ly_app (K := kk_wd_n_image1) (ed := ly_ED) (ec := [((31, (1, [])), (0, [(11, 1)])), ((31, (2, [])), (0, [(12, 1)])), ((4, (0, [])), (0, [(13, 1)])), ((4, (4, [])), (0, [(14, 1)])), ((14, (0, [])), (0, [(15, 1)])), ((14, (212, [])), (0, [(16, 1)])), ((14, (424, [])), (0, [(17, 1)])), ((14, (636, [])), (0, [(18, 1)])), ((14, (4, [])), (0, [(19, 1)])), ((14, (216, [])), (0, [(20, 1)])), ((14, (428, [])), (0, [(21, 1)])), ((14, (640, [])), (0, [(22, 1)])), ((66, (6, [])), (0, [(23, 1)])), ((66, (1, [])), (0, [(24, 1)])), ((66, (2, [])), (0, [(25, 1)]))]) (er := ((65, (1, [])), 67) :: ly_RI) rfl hB hPL hr hij (ly_hpI c6) (lw_oiC (g := 31) (j := 1) (by show 31 < 83; decide) (by decide) (by dsimp only; rw [hPL 31 (by decide)]; rw [sx_s_e]; exact h11.symm) (lw_oiC (g := 31) (j := 2) (by show 31 < 83; decide) (by decide) (by dsimp only; rw [hPL 31 (by decide)]; rw [sx_s_e]; exact h12.symm) (lw_oiC (g := 4) (j := 0) (by show 4 < 83; decide) (by decide) (by dsimp only; rw [hPL 4 (by decide)]; rw [sx_s_e]; exact h13.symm) (lw_oiC (g := 4) (j := 4) (by show 4 < 83; decide) (by decide) (by dsimp only; rw [hPL 4 (by decide)]; rw [sx_s_e]; exact h14.symm) (lw_oiC (g := 14) (j := 0) (by show 14 < 83; decide) (by decide) (by dsimp only; rw [hPL 14 (by decide)]; rw [sx_s_e]; exact h15.symm) (lw_oiC (g := 14) (j := 212) (by show 14 < 83; decide) (by decide) (by dsimp only; rw [hPL 14 (by decide)]; rw [sx_s_e]; exact h16.symm) (lw_oiC (g := 14) (j := 424) (by show 14 < 83; decide) (by decide) (by dsimp only; rw [hPL 14 (by decide)]; rw [sx_s_e]; exact h17.symm) (lw_oiC (g := 14) (j := 636) (by show 14 < 83; decide) (by decide) (by dsimp only; rw [hPL 14 (by decide)]; rw [sx_s_e]; exact h18.symm) (lw_oiC (g := 14) (j := 4) (by show 14 < 83; decide) (by decide) (by dsimp only; rw [hPL 14 (by decide)]; rw [sx_s_e]; exact h19.symm) (lw_oiC (g := 14) (j := 216) (by show 14 < 83; decide) (by decide) (by dsimp only; rw [hPL 14 (by decide)]; rw [sx_s_e]; exact h20.symm) (lw_oiC (g := 14) (j := 428) (by show 14 < 83; decide) (by decide) (by dsimp only; rw [hPL 14 (by decide)]; rw [sx_s_e]; exact h21.symm) (lw_oiC (g := 14) (j := 640) (by show 14 < 83; decide) (by decide) (by dsimp only; rw [hPL 14 (by decide)]; rw [sx_s_e]; exact h22.symm) (lw_oiC (g := 66) (j := 6) (by show 66 < 83; decide) (by decide) (by dsimp only; rw [ly_pl2 (by decide)]; rw [sx_s_e]; exact h23.symm) (lw_oiC (g := 66) (j := 1) (by show 66 < 83; decide) (by decide) (by dsimp only; rw [ly_pl2 (by decide)]; rw [sx_s_e]; exact h24.symm) (lw_oiC (g := 66) (j := 2) (by show 66 < 83; decide) (by decide) (by dsimp only; rw [ly_pl2 (by decide)]; rw [sx_s_e]; exact h25.symm) (lw_oiN)))))))))))))))) (ly_erI rfl c1 c6) (ly_oba (ly_obr hr (ly_ob hB)) (ly_oba (ly_ob1 (by rw [h11]; exact hb11)) (ly_oba (ly_obI (x := nt_I M (pl 31) 2) h12) (ly_oba (ly_ob1 (by rw [h13]; exact hb13)) (ly_oba (ly_obI (x := nt_I M (pl 4) 4) h14) (ly_oba (ly_obI (x := nt_I M (pl 14) 0) h15) (ly_oba (ly_obI (x := nt_I M (pl 14) 212) h16) (ly_oba (ly_obI (x := nt_I M (pl 14) 424) h17) (ly_oba (ly_obI (x := nt_I M (pl 14) 636) h18) (ly_oba (ly_obI (x := nt_I M (pl 14) 4) h19) (ly_oba (ly_obI (x := nt_I M (pl 14) 216) h20) (ly_oba (ly_obI (x := nt_I M (pl 14) 428) h21) (ly_oba (ly_obI (x := nt_I M (pl 14) 640) h22) (ly_oba (ly_obI (x := nt_I M (a + 0) 6) h23) (ly_oba (ly_ob1 (by rw [h24]; exact hb24)) (ly_obI (x := nt_I M (a + 0) 2) h25)))))))))))))))) ly_oc0
  obtain ⟨p, hp, r', h2, h3⟩ := lw_app (ko_wd_n_image1 X) rfl hd hon (vs := [.ref (pl 16), .int (nI 1)]) ⟨by show Value.ref (pl 16) = .ref ((ly_pl pl a) 16); rw [hPL 16 (by decide)], ⟨_, rfl, by rw [sx_c_e]; decide⟩, trivial⟩ k
  have hr' : ∀ s, s < 26 → r' s = r s := fun s hs => h3.2.2.2.2.2.1 s hs
  obtain ⟨ov, M'⟩ := o
  rw [List.mem_singleton.mp hp] at h2 h3
  cases ov with
  | none => exact h2.elim
  | some w =>
    obtain ⟨y, rfl, hy⟩ := h2
    have hy : y.toInt = 0 + (1 * r' 12 + (0)) := hy
    have e0 : (nt_I M' ((ly_pl pl a) 31) 1).toInt = 0 + (1 * r' 11 + (0)) := lw_rd (g := 31) (j := 1) h3.2.2.1 (List.mem_of_getElem? (i := 0) rfl) (by decide)
    rw [hPL 31 (by decide)] at e0
    have e1 : (nt_I M' ((ly_pl pl a) 31) 2).toInt = 0 + (1 * r' 12 + (0)) := lw_rd (g := 31) (j := 2) h3.2.2.1 (List.mem_of_getElem? (i := 1) rfl) (by decide)
    rw [hPL 31 (by decide)] at e1
    have e2 : (nt_I M' ((ly_pl pl a) 4) 0).toInt = 0 + (1 * r' 13 + (0)) := lw_rd (g := 4) (j := 0) h3.2.2.1 (List.mem_of_getElem? (i := 2) rfl) (by decide)
    rw [hPL 4 (by decide)] at e2
    have e3 : (nt_I M' ((ly_pl pl a) 4) 4).toInt = 0 + (1 * r' 14 + (0)) := lw_rd (g := 4) (j := 4) h3.2.2.1 (List.mem_of_getElem? (i := 3) rfl) (by decide)
    rw [hPL 4 (by decide)] at e3
    have e4 : (nt_I M' ((ly_pl pl a) 14) 0).toInt = 0 + (1 * r' 15 + (0)) := lw_rd (g := 14) (j := 0) h3.2.2.1 (List.mem_of_getElem? (i := 4) rfl) (by decide)
    rw [hPL 14 (by decide)] at e4
    have e5 : (nt_I M' ((ly_pl pl a) 14) 212).toInt = 0 + (1 * r' 16 + (0)) := lw_rd (g := 14) (j := 212) h3.2.2.1 (List.mem_of_getElem? (i := 5) rfl) (by decide)
    rw [hPL 14 (by decide)] at e5
    have e6 : (nt_I M' ((ly_pl pl a) 14) 424).toInt = 0 + (1 * r' 17 + (0)) := lw_rd (g := 14) (j := 424) h3.2.2.1 (List.mem_of_getElem? (i := 6) rfl) (by decide)
    rw [hPL 14 (by decide)] at e6
    have e7 : (nt_I M' ((ly_pl pl a) 14) 636).toInt = 0 + (1 * r' 18 + (0)) := lw_rd (g := 14) (j := 636) h3.2.2.1 (List.mem_of_getElem? (i := 7) rfl) (by decide)
    rw [hPL 14 (by decide)] at e7
    have e8 : (nt_I M' ((ly_pl pl a) 14) 4).toInt = 0 + (1 * r' 19 + (0)) := lw_rd (g := 14) (j := 4) h3.2.2.1 (List.mem_of_getElem? (i := 8) rfl) (by decide)
    rw [hPL 14 (by decide)] at e8
    have e9 : (nt_I M' ((ly_pl pl a) 14) 216).toInt = 0 + (1 * r' 20 + (0)) := lw_rd (g := 14) (j := 216) h3.2.2.1 (List.mem_of_getElem? (i := 9) rfl) (by decide)
    rw [hPL 14 (by decide)] at e9
    have e10 : (nt_I M' ((ly_pl pl a) 14) 428).toInt = 0 + (1 * r' 21 + (0)) := lw_rd (g := 14) (j := 428) h3.2.2.1 (List.mem_of_getElem? (i := 10) rfl) (by decide)
    rw [hPL 14 (by decide)] at e10
    have e11 : (nt_I M' ((ly_pl pl a) 14) 640).toInt = 0 + (1 * r' 22 + (0)) := lw_rd (g := 14) (j := 640) h3.2.2.1 (List.mem_of_getElem? (i := 11) rfl) (by decide)
    rw [hPL 14 (by decide)] at e11
    have e12 : (nt_I M' ((ly_pl pl a) 66) 1).toInt = 0 + (1 * r' 11 + (0)) := lw_rd (g := 66) (j := 1) h3.2.2.1 (List.mem_of_getElem? (i := 12) rfl) (by decide)
    rw [ly_pl2 (by decide)] at e12
    have e12 : (nt_I M' (a + 0) 1).toInt = 0 + (1 * r' 11 + (0)) := e12
    have e13 : (nt_I M' ((ly_pl pl a) 66) 2).toInt = 0 + (1 * r' 12 + (0)) := lw_rd (g := 66) (j := 2) h3.2.2.1 (List.mem_of_getElem? (i := 13) rfl) (by decide)
    rw [ly_pl2 (by decide)] at e13
    have e13 : (nt_I M' (a + 0) 2).toInt = 0 + (1 * r' 12 + (0)) := e13
    have g11 := hr' 11 (by omega)
    rw [h11] at g11
    have g12 := hr' 12 (by omega)
    rw [h12] at g12
    have g13 := hr' 13 (by omega)
    rw [h13] at g13
    have g14 := hr' 14 (by omega)
    rw [h14] at g14
    have g15 := hr' 15 (by omega)
    rw [h15] at g15
    have g16 := hr' 16 (by omega)
    rw [h16] at g16
    have g17 := hr' 17 (by omega)
    rw [h17] at g17
    have g18 := hr' 18 (by omega)
    rw [h18] at g18
    have g19 := hr' 19 (by omega)
    rw [h19] at g19
    have g20 := hr' 20 (by omega)
    rw [h20] at g20
    have g21 := hr' 21 (by omega)
    rw [h21] at g21
    have g22 := hr' 22 (by omega)
    rw [h22] at g22
    exact ⟨y, M', rfl, ⟨by omega, e0.trans (lw_s g11), e1.trans (lw_s g12), e2.trans (lw_s g13), e3.trans (lw_s g14), e4.trans (lw_s g15), e5.trans (lw_s g16), e6.trans (lw_s g17), e7.trans (lw_s g18), e8.trans (lw_s g19), e9.trans (lw_s g20), e10.trans (lw_s g21), e11.trans (lw_s g22), e12.trans (lw_s g11), e13.trans (lw_s g12)⟩⟩
theorem lwd_n_back1 {X : nt_X} {pl : Nat → Nat} {v : Nat → Int} {M : nt_M} {d a : Nat} {o : Option Value × nt_M} (hd : 3 ≤ d) (hB : ly_B pl v M) {x : Int} (p1 : ∀ g, g < 66 → pl g < 66) (c1 : nt_R M (pl 65) 1 = some a) (c3 : 66 ≤ a) (c6 : ly_im a x M) (hb11 : (0 : Int) ≤ (nt_I M (pl 31) 1).toInt ∧ (nt_I M (pl 31) 1).toInt ≤ 1) (hb13 : (0 : Int) ≤ (nt_I M (pl 4) 0).toInt ∧ (nt_I M (pl 4) 0).toInt ≤ 4) (hb24 : (0 : Int) ≤ (nt_I M (a + 0) 1).toInt ∧ (nt_I M (a + 0) 1).toInt ≤ 1) (k : nt_ev X d 128 [.ref (pl 16), .int (nI 1)] M o) : ∃ (y : Int32) (M' : nt_M), o = (some (.int y), M') ∧ ((y.toInt = (nt_I M (a + 0) 2).toInt ∧ (nt_I M' (pl 31) 1).toInt = (nt_I M (a + 0) 1).toInt ∧ (nt_I M' (pl 31) 2).toInt = (nt_I M (a + 0) 2).toInt ∧ (nt_I M' (pl 4) 0).toInt = (nt_I M (pl 4) 0).toInt ∧ (nt_I M' (pl 4) 4).toInt = (nt_I M (pl 4) 4).toInt ∧ (nt_I M' (pl 14) 0).toInt = (nt_I M (pl 14) 0).toInt ∧ (nt_I M' (pl 14) 212).toInt = (nt_I M (pl 14) 212).toInt ∧ (nt_I M' (pl 14) 424).toInt = (nt_I M (pl 14) 424).toInt ∧ (nt_I M' (pl 14) 636).toInt = (nt_I M (pl 14) 636).toInt ∧ (nt_I M' (pl 14) 4).toInt = (nt_I M (pl 14) 4).toInt ∧ (nt_I M' (pl 14) 216).toInt = (nt_I M (pl 14) 216).toInt ∧ (nt_I M' (pl 14) 428).toInt = (nt_I M (pl 14) 428).toInt ∧ (nt_I M' (pl 14) 640).toInt = (nt_I M (pl 14) 640).toInt ∧ (nt_I M' (a + 0) 1).toInt = (nt_I M (a + 0) 1).toInt ∧ (nt_I M' (a + 0) 2).toInt = (nt_I M (a + 0) 2).toInt)) := by
  obtain ⟨r, hr, h11, h12, h13, h14, h15, h16, h17, h18, h19, h20, h21, h22, h23, h24, h25⟩ : ∃ r : Nat → Int, (∀ s, s < 11 → r s = v s) ∧ r 11 = (nt_I M (pl 31) 1).toInt ∧ r 12 = (nt_I M (pl 31) 2).toInt ∧ r 13 = (nt_I M (pl 4) 0).toInt ∧ r 14 = (nt_I M (pl 4) 4).toInt ∧ r 15 = (nt_I M (pl 14) 0).toInt ∧ r 16 = (nt_I M (pl 14) 212).toInt ∧ r 17 = (nt_I M (pl 14) 424).toInt ∧ r 18 = (nt_I M (pl 14) 636).toInt ∧ r 19 = (nt_I M (pl 14) 4).toInt ∧ r 20 = (nt_I M (pl 14) 216).toInt ∧ r 21 = (nt_I M (pl 14) 428).toInt ∧ r 22 = (nt_I M (pl 14) 640).toInt ∧ r 23 = (nt_I M (a + 0) 6).toInt ∧ r 24 = (nt_I M (a + 0) 1).toInt ∧ r 25 = (nt_I M (a + 0) 2).toInt := ⟨fun s => if s = 11 then (nt_I M (pl 31) 1).toInt else if s = 12 then (nt_I M (pl 31) 2).toInt else if s = 13 then (nt_I M (pl 4) 0).toInt else if s = 14 then (nt_I M (pl 4) 4).toInt else if s = 15 then (nt_I M (pl 14) 0).toInt else if s = 16 then (nt_I M (pl 14) 212).toInt else if s = 17 then (nt_I M (pl 14) 424).toInt else if s = 18 then (nt_I M (pl 14) 636).toInt else if s = 19 then (nt_I M (pl 14) 4).toInt else if s = 20 then (nt_I M (pl 14) 216).toInt else if s = 21 then (nt_I M (pl 14) 428).toInt else if s = 22 then (nt_I M (pl 14) 640).toInt else if s = 23 then (nt_I M (a + 0) 6).toInt else if s = 24 then (nt_I M (a + 0) 1).toInt else if s = 25 then (nt_I M (a + 0) 2).toInt else v s, fun s hs => by dsimp only; rw [if_neg (by omega), if_neg (by omega), if_neg (by omega), if_neg (by omega), if_neg (by omega), if_neg (by omega), if_neg (by omega), if_neg (by omega), if_neg (by omega), if_neg (by omega), if_neg (by omega), if_neg (by omega), if_neg (by omega), if_neg (by omega), if_neg (by omega)], rfl, rfl, rfl, rfl, rfl, rfl, rfl, rfl, rfl, rfl, rfl, rfl, rfl, rfl, rfl⟩
  have hPL : ∀ h, h < 66 → ly_pl pl a h = pl h := fun h hh => ly_pl1 hh
  have hij : sx_ij (sx_KE (sx_tbs, sx_gps) kk_wd_n_back1) (ly_pl pl a) := ly_pij p1 c3 hB.1
  have hon := ly_app (K := kk_wd_n_back1) (ed := ly_ED) (ec := [((31, (1, [])), (0, [(11, 1)])), ((31, (2, [])), (0, [(12, 1)])), ((4, (0, [])), (0, [(13, 1)])), ((4, (4, [])), (0, [(14, 1)])), ((14, (0, [])), (0, [(15, 1)])), ((14, (212, [])), (0, [(16, 1)])), ((14, (424, [])), (0, [(17, 1)])), ((14, (636, [])), (0, [(18, 1)])), ((14, (4, [])), (0, [(19, 1)])), ((14, (216, [])), (0, [(20, 1)])), ((14, (428, [])), (0, [(21, 1)])), ((14, (640, [])), (0, [(22, 1)])), ((66, (6, [])), (0, [(23, 1)])), ((66, (1, [])), (0, [(24, 1)])), ((66, (2, [])), (0, [(25, 1)]))]) (er := ((65, (1, [])), 67) :: ly_RI) rfl hB hPL hr hij (ly_hpI c6) (lw_oiC (g := 31) (j := 1) (by show 31 < 83; decide) (by decide) (by dsimp only; rw [hPL 31 (by decide)]; rw [sx_s_e]; exact h11.symm) (lw_oiC (g := 31) (j := 2) (by show 31 < 83; decide) (by decide) (by dsimp only; rw [hPL 31 (by decide)]; rw [sx_s_e]; exact h12.symm) (lw_oiC (g := 4) (j := 0) (by show 4 < 83; decide) (by decide) (by dsimp only; rw [hPL 4 (by decide)]; rw [sx_s_e]; exact h13.symm) (lw_oiC (g := 4) (j := 4) (by show 4 < 83; decide) (by decide) (by dsimp only; rw [hPL 4 (by decide)]; rw [sx_s_e]; exact h14.symm) (lw_oiC (g := 14) (j := 0) (by show 14 < 83; decide) (by decide) (by dsimp only; rw [hPL 14 (by decide)]; rw [sx_s_e]; exact h15.symm) (lw_oiC (g := 14) (j := 212) (by show 14 < 83; decide) (by decide) (by dsimp only; rw [hPL 14 (by decide)]; rw [sx_s_e]; exact h16.symm) (lw_oiC (g := 14) (j := 424) (by show 14 < 83; decide) (by decide) (by dsimp only; rw [hPL 14 (by decide)]; rw [sx_s_e]; exact h17.symm) (lw_oiC (g := 14) (j := 636) (by show 14 < 83; decide) (by decide) (by dsimp only; rw [hPL 14 (by decide)]; rw [sx_s_e]; exact h18.symm) (lw_oiC (g := 14) (j := 4) (by show 14 < 83; decide) (by decide) (by dsimp only; rw [hPL 14 (by decide)]; rw [sx_s_e]; exact h19.symm) (lw_oiC (g := 14) (j := 216) (by show 14 < 83; decide) (by decide) (by dsimp only; rw [hPL 14 (by decide)]; rw [sx_s_e]; exact h20.symm) (lw_oiC (g := 14) (j := 428) (by show 14 < 83; decide) (by decide) (by dsimp only; rw [hPL 14 (by decide)]; rw [sx_s_e]; exact h21.symm) (lw_oiC (g := 14) (j := 640) (by show 14 < 83; decide) (by decide) (by dsimp only; rw [hPL 14 (by decide)]; rw [sx_s_e]; exact h22.symm) (lw_oiC (g := 66) (j := 6) (by show 66 < 83; decide) (by decide) (by dsimp only; rw [ly_pl2 (by decide)]; rw [sx_s_e]; exact h23.symm) (lw_oiC (g := 66) (j := 1) (by show 66 < 83; decide) (by decide) (by dsimp only; rw [ly_pl2 (by decide)]; rw [sx_s_e]; exact h24.symm) (lw_oiC (g := 66) (j := 2) (by show 66 < 83; decide) (by decide) (by dsimp only; rw [ly_pl2 (by decide)]; rw [sx_s_e]; exact h25.symm) (lw_oiN)))))))))))))))) (ly_erI rfl c1 c6) (ly_oba (ly_obr hr (ly_ob hB)) (ly_oba (ly_ob1 (by rw [h11]; exact hb11)) (ly_oba (ly_obI (x := nt_I M (pl 31) 2) h12) (ly_oba (ly_ob1 (by rw [h13]; exact hb13)) (ly_oba (ly_obI (x := nt_I M (pl 4) 4) h14) (ly_oba (ly_obI (x := nt_I M (pl 14) 0) h15) (ly_oba (ly_obI (x := nt_I M (pl 14) 212) h16) (ly_oba (ly_obI (x := nt_I M (pl 14) 424) h17) (ly_oba (ly_obI (x := nt_I M (pl 14) 636) h18) (ly_oba (ly_obI (x := nt_I M (pl 14) 4) h19) (ly_oba (ly_obI (x := nt_I M (pl 14) 216) h20) (ly_oba (ly_obI (x := nt_I M (pl 14) 428) h21) (ly_oba (ly_obI (x := nt_I M (pl 14) 640) h22) (ly_oba (ly_obI (x := nt_I M (a + 0) 6) h23) (ly_oba (ly_ob1 (by rw [h24]; exact hb24)) (ly_obI (x := nt_I M (a + 0) 2) h25)))))))))))))))) ly_oc0
  obtain ⟨p, hp, r', h2, h3⟩ := lw_app (ko_wd_n_back1 X) rfl hd hon (vs := [.ref (pl 16), .int (nI 1)]) ⟨by show Value.ref (pl 16) = .ref ((ly_pl pl a) 16); rw [hPL 16 (by decide)], ⟨_, rfl, by rw [sx_c_e]; decide⟩, trivial⟩ k
  have hr' : ∀ s, s < 26 → r' s = r s := fun s hs => h3.2.2.2.2.2.1 s hs
  obtain ⟨ov, M'⟩ := o
  rw [List.mem_singleton.mp hp] at h2 h3
  cases ov with
  | none => exact h2.elim
  | some w =>
    obtain ⟨y, rfl, hy⟩ := h2
    have hy : y.toInt = 0 + (1 * r' 25 + (0)) := hy
    have e0 : (nt_I M' ((ly_pl pl a) 31) 1).toInt = 0 + (1 * r' 24 + (0)) := lw_rd (g := 31) (j := 1) h3.2.2.1 (List.mem_of_getElem? (i := 0) rfl) (by decide)
    rw [hPL 31 (by decide)] at e0
    have e1 : (nt_I M' ((ly_pl pl a) 31) 2).toInt = 0 + (1 * r' 25 + (0)) := lw_rd (g := 31) (j := 2) h3.2.2.1 (List.mem_of_getElem? (i := 1) rfl) (by decide)
    rw [hPL 31 (by decide)] at e1
    have e2 : (nt_I M' ((ly_pl pl a) 4) 0).toInt = 0 + (1 * r' 13 + (0)) := lw_rd (g := 4) (j := 0) h3.2.2.1 (List.mem_of_getElem? (i := 2) rfl) (by decide)
    rw [hPL 4 (by decide)] at e2
    have e3 : (nt_I M' ((ly_pl pl a) 4) 4).toInt = 0 + (1 * r' 14 + (0)) := lw_rd (g := 4) (j := 4) h3.2.2.1 (List.mem_of_getElem? (i := 3) rfl) (by decide)
    rw [hPL 4 (by decide)] at e3
    have e4 : (nt_I M' ((ly_pl pl a) 14) 0).toInt = 0 + (1 * r' 15 + (0)) := lw_rd (g := 14) (j := 0) h3.2.2.1 (List.mem_of_getElem? (i := 4) rfl) (by decide)
    rw [hPL 14 (by decide)] at e4
    have e5 : (nt_I M' ((ly_pl pl a) 14) 212).toInt = 0 + (1 * r' 16 + (0)) := lw_rd (g := 14) (j := 212) h3.2.2.1 (List.mem_of_getElem? (i := 5) rfl) (by decide)
    rw [hPL 14 (by decide)] at e5
    have e6 : (nt_I M' ((ly_pl pl a) 14) 424).toInt = 0 + (1 * r' 17 + (0)) := lw_rd (g := 14) (j := 424) h3.2.2.1 (List.mem_of_getElem? (i := 6) rfl) (by decide)
    rw [hPL 14 (by decide)] at e6
    have e7 : (nt_I M' ((ly_pl pl a) 14) 636).toInt = 0 + (1 * r' 18 + (0)) := lw_rd (g := 14) (j := 636) h3.2.2.1 (List.mem_of_getElem? (i := 7) rfl) (by decide)
    rw [hPL 14 (by decide)] at e7
    have e8 : (nt_I M' ((ly_pl pl a) 14) 4).toInt = 0 + (1 * r' 19 + (0)) := lw_rd (g := 14) (j := 4) h3.2.2.1 (List.mem_of_getElem? (i := 8) rfl) (by decide)
    rw [hPL 14 (by decide)] at e8
    have e9 : (nt_I M' ((ly_pl pl a) 14) 216).toInt = 0 + (1 * r' 20 + (0)) := lw_rd (g := 14) (j := 216) h3.2.2.1 (List.mem_of_getElem? (i := 9) rfl) (by decide)
    rw [hPL 14 (by decide)] at e9
    have e10 : (nt_I M' ((ly_pl pl a) 14) 428).toInt = 0 + (1 * r' 21 + (0)) := lw_rd (g := 14) (j := 428) h3.2.2.1 (List.mem_of_getElem? (i := 10) rfl) (by decide)
    rw [hPL 14 (by decide)] at e10
    have e11 : (nt_I M' ((ly_pl pl a) 14) 640).toInt = 0 + (1 * r' 22 + (0)) := lw_rd (g := 14) (j := 640) h3.2.2.1 (List.mem_of_getElem? (i := 11) rfl) (by decide)
    rw [hPL 14 (by decide)] at e11
    have e12 : (nt_I M' ((ly_pl pl a) 66) 1).toInt = 0 + (1 * r' 24 + (0)) := lw_rd (g := 66) (j := 1) h3.2.2.1 (List.mem_of_getElem? (i := 12) rfl) (by decide)
    rw [ly_pl2 (by decide)] at e12
    have e12 : (nt_I M' (a + 0) 1).toInt = 0 + (1 * r' 24 + (0)) := e12
    have e13 : (nt_I M' ((ly_pl pl a) 66) 2).toInt = 0 + (1 * r' 25 + (0)) := lw_rd (g := 66) (j := 2) h3.2.2.1 (List.mem_of_getElem? (i := 13) rfl) (by decide)
    rw [ly_pl2 (by decide)] at e13
    have e13 : (nt_I M' (a + 0) 2).toInt = 0 + (1 * r' 25 + (0)) := e13
    have g13 := hr' 13 (by omega)
    rw [h13] at g13
    have g14 := hr' 14 (by omega)
    rw [h14] at g14
    have g15 := hr' 15 (by omega)
    rw [h15] at g15
    have g16 := hr' 16 (by omega)
    rw [h16] at g16
    have g17 := hr' 17 (by omega)
    rw [h17] at g17
    have g18 := hr' 18 (by omega)
    rw [h18] at g18
    have g19 := hr' 19 (by omega)
    rw [h19] at g19
    have g20 := hr' 20 (by omega)
    rw [h20] at g20
    have g21 := hr' 21 (by omega)
    rw [h21] at g21
    have g22 := hr' 22 (by omega)
    rw [h22] at g22
    have g24 := hr' 24 (by omega)
    rw [h24] at g24
    have g25 := hr' 25 (by omega)
    rw [h25] at g25
    exact ⟨y, M', rfl, ⟨by omega, e0.trans (lw_s g24), e1.trans (lw_s g25), e2.trans (lw_s g13), e3.trans (lw_s g14), e4.trans (lw_s g15), e5.trans (lw_s g16), e6.trans (lw_s g17), e7.trans (lw_s g18), e8.trans (lw_s g19), e9.trans (lw_s g20), e10.trans (lw_s g21), e11.trans (lw_s g22), e12.trans (lw_s g24), e13.trans (lw_s g25)⟩⟩
theorem lwd_n_back1N {X : nt_X} {pl : Nat → Nat} {v : Nat → Int} {M : nt_M} {d : Nat} {o : Option Value × nt_M} (hd : 0 ≤ d) (hB : ly_B pl v M) (hn : nt_R M (pl 65) 1 = none) (hb11 : (0 : Int) ≤ (nt_I M (pl 31) 1).toInt ∧ (nt_I M (pl 31) 1).toInt ≤ 1) (hb13 : (0 : Int) ≤ (nt_I M (pl 4) 0).toInt ∧ (nt_I M (pl 4) 0).toInt ≤ 4) (k : nt_ev X d 128 [.ref (pl 16), .int (nI 1)] M o) : ∃ (y : Int32) (M' : nt_M), o = (some (.int y), M') ∧ ((y.toInt = -1 ∧ (nt_I M' (pl 31) 1).toInt = (nt_I M (pl 31) 1).toInt ∧ (nt_I M' (pl 31) 2).toInt = (nt_I M (pl 31) 2).toInt ∧ (nt_I M' (pl 4) 0).toInt = (nt_I M (pl 4) 0).toInt ∧ (nt_I M' (pl 4) 4).toInt = (nt_I M (pl 4) 4).toInt ∧ (nt_I M' (pl 14) 0).toInt = (nt_I M (pl 14) 0).toInt ∧ (nt_I M' (pl 14) 212).toInt = (nt_I M (pl 14) 212).toInt ∧ (nt_I M' (pl 14) 424).toInt = (nt_I M (pl 14) 424).toInt ∧ (nt_I M' (pl 14) 636).toInt = (nt_I M (pl 14) 636).toInt ∧ (nt_I M' (pl 14) 4).toInt = (nt_I M (pl 14) 4).toInt ∧ (nt_I M' (pl 14) 216).toInt = (nt_I M (pl 14) 216).toInt ∧ (nt_I M' (pl 14) 428).toInt = (nt_I M (pl 14) 428).toInt ∧ (nt_I M' (pl 14) 640).toInt = (nt_I M (pl 14) 640).toInt)) := by
  obtain ⟨r, hr, h11, h12, h13, h14, h15, h16, h17, h18, h19, h20, h21, h22⟩ : ∃ r : Nat → Int, (∀ s, s < 11 → r s = v s) ∧ r 11 = (nt_I M (pl 31) 1).toInt ∧ r 12 = (nt_I M (pl 31) 2).toInt ∧ r 13 = (nt_I M (pl 4) 0).toInt ∧ r 14 = (nt_I M (pl 4) 4).toInt ∧ r 15 = (nt_I M (pl 14) 0).toInt ∧ r 16 = (nt_I M (pl 14) 212).toInt ∧ r 17 = (nt_I M (pl 14) 424).toInt ∧ r 18 = (nt_I M (pl 14) 636).toInt ∧ r 19 = (nt_I M (pl 14) 4).toInt ∧ r 20 = (nt_I M (pl 14) 216).toInt ∧ r 21 = (nt_I M (pl 14) 428).toInt ∧ r 22 = (nt_I M (pl 14) 640).toInt := ⟨fun s => if s = 11 then (nt_I M (pl 31) 1).toInt else if s = 12 then (nt_I M (pl 31) 2).toInt else if s = 13 then (nt_I M (pl 4) 0).toInt else if s = 14 then (nt_I M (pl 4) 4).toInt else if s = 15 then (nt_I M (pl 14) 0).toInt else if s = 16 then (nt_I M (pl 14) 212).toInt else if s = 17 then (nt_I M (pl 14) 424).toInt else if s = 18 then (nt_I M (pl 14) 636).toInt else if s = 19 then (nt_I M (pl 14) 4).toInt else if s = 20 then (nt_I M (pl 14) 216).toInt else if s = 21 then (nt_I M (pl 14) 428).toInt else if s = 22 then (nt_I M (pl 14) 640).toInt else v s, fun s hs => by dsimp only; rw [if_neg (by omega), if_neg (by omega), if_neg (by omega), if_neg (by omega), if_neg (by omega), if_neg (by omega), if_neg (by omega), if_neg (by omega), if_neg (by omega), if_neg (by omega), if_neg (by omega), if_neg (by omega)], rfl, rfl, rfl, rfl, rfl, rfl, rfl, rfl, rfl, rfl, rfl, rfl⟩
  have hij := ly_ij (K := kk_wd_n_back1N) rfl hB
  have hon := ly_app (K := kk_wd_n_back1N) (ed := []) (ec := [((31, (1, [])), (0, [(11, 1)])), ((31, (2, [])), (0, [(12, 1)])), ((4, (0, [])), (0, [(13, 1)])), ((4, (4, [])), (0, [(14, 1)])), ((14, (0, [])), (0, [(15, 1)])), ((14, (212, [])), (0, [(16, 1)])), ((14, (424, [])), (0, [(17, 1)])), ((14, (636, [])), (0, [(18, 1)])), ((14, (4, [])), (0, [(19, 1)])), ((14, (216, [])), (0, [(20, 1)])), ((14, (428, [])), (0, [(21, 1)])), ((14, (640, [])), (0, [(22, 1)]))]) (er := [((65, (1, [])), 0)]) rfl hB (fun _ _ => rfl) hr hij ly_nil (lw_oiC (g := 31) (j := 1) (by show 31 < 66; decide) (by decide) (by dsimp only; rw [sx_s_e]; exact h11.symm) (lw_oiC (g := 31) (j := 2) (by show 31 < 66; decide) (by decide) (by dsimp only; rw [sx_s_e]; exact h12.symm) (lw_oiC (g := 4) (j := 0) (by show 4 < 66; decide) (by decide) (by dsimp only; rw [sx_s_e]; exact h13.symm) (lw_oiC (g := 4) (j := 4) (by show 4 < 66; decide) (by decide) (by dsimp only; rw [sx_s_e]; exact h14.symm) (lw_oiC (g := 14) (j := 0) (by show 14 < 66; decide) (by decide) (by dsimp only; rw [sx_s_e]; exact h15.symm) (lw_oiC (g := 14) (j := 212) (by show 14 < 66; decide) (by decide) (by dsimp only; rw [sx_s_e]; exact h16.symm) (lw_oiC (g := 14) (j := 424) (by show 14 < 66; decide) (by decide) (by dsimp only; rw [sx_s_e]; exact h17.symm) (lw_oiC (g := 14) (j := 636) (by show 14 < 66; decide) (by decide) (by dsimp only; rw [sx_s_e]; exact h18.symm) (lw_oiC (g := 14) (j := 4) (by show 14 < 66; decide) (by decide) (by dsimp only; rw [sx_s_e]; exact h19.symm) (lw_oiC (g := 14) (j := 216) (by show 14 < 66; decide) (by decide) (by dsimp only; rw [sx_s_e]; exact h20.symm) (lw_oiC (g := 14) (j := 428) (by show 14 < 66; decide) (by decide) (by dsimp only; rw [sx_s_e]; exact h21.symm) (lw_oiC (g := 14) (j := 640) (by show 14 < 66; decide) (by decide) (by dsimp only; rw [sx_s_e]; exact h22.symm) (lw_oiN))))))))))))) (fun q hq => by
    rw [List.mem_singleton.mp hq]
    refine ⟨⟨by show 65 < 66; decide, by show 0 ≤ 66; decide⟩, by dsimp only; rw [sx_c_e]; decide, ?_⟩
    dsimp only
    rw [sx_c_e]
    exact hn) (ly_oba (ly_obr hr (ly_ob hB)) (ly_oba (ly_ob1 (by rw [h11]; exact hb11)) (ly_oba (ly_obI (x := nt_I M (pl 31) 2) h12) (ly_oba (ly_ob1 (by rw [h13]; exact hb13)) (ly_oba (ly_obI (x := nt_I M (pl 4) 4) h14) (ly_oba (ly_obI (x := nt_I M (pl 14) 0) h15) (ly_oba (ly_obI (x := nt_I M (pl 14) 212) h16) (ly_oba (ly_obI (x := nt_I M (pl 14) 424) h17) (ly_oba (ly_obI (x := nt_I M (pl 14) 636) h18) (ly_oba (ly_obI (x := nt_I M (pl 14) 4) h19) (ly_oba (ly_obI (x := nt_I M (pl 14) 216) h20) (ly_oba (ly_obI (x := nt_I M (pl 14) 428) h21) (ly_obI (x := nt_I M (pl 14) 640) h22))))))))))))) ly_oc0
  obtain ⟨p, hp, r', h2, h3⟩ := lw_app (ko_wd_n_back1N X) rfl hd hon (vs := [.ref (pl 16), .int (nI 1)]) ⟨rfl, ⟨_, rfl, by rw [sx_c_e]; decide⟩, trivial⟩ k
  have hr' : ∀ s, s < 23 → r' s = r s := fun s hs => h3.2.2.2.2.2.1 s hs
  obtain ⟨ov, M'⟩ := o
  rw [List.mem_singleton.mp hp] at h2 h3
  cases ov with
  | none => exact h2.elim
  | some w =>
    obtain ⟨y, rfl, hy⟩ := h2
    have hy : y.toInt = (-1) + 0 := hy
    have e0 : (nt_I M' (pl 31) 1).toInt = 0 + (1 * r' 11 + (0)) := lw_rd (g := 31) (j := 1) h3.2.2.1 (List.mem_of_getElem? (i := 0) rfl) (by decide)
    have e1 : (nt_I M' (pl 31) 2).toInt = 0 + (1 * r' 12 + (0)) := lw_rd (g := 31) (j := 2) h3.2.2.1 (List.mem_of_getElem? (i := 1) rfl) (by decide)
    have e2 : (nt_I M' (pl 4) 0).toInt = 0 + (1 * r' 13 + (0)) := lw_rd (g := 4) (j := 0) h3.2.2.1 (List.mem_of_getElem? (i := 2) rfl) (by decide)
    have e3 : (nt_I M' (pl 4) 4).toInt = 0 + (1 * r' 14 + (0)) := lw_rd (g := 4) (j := 4) h3.2.2.1 (List.mem_of_getElem? (i := 3) rfl) (by decide)
    have e4 : (nt_I M' (pl 14) 0).toInt = 0 + (1 * r' 15 + (0)) := lw_rd (g := 14) (j := 0) h3.2.2.1 (List.mem_of_getElem? (i := 4) rfl) (by decide)
    have e5 : (nt_I M' (pl 14) 212).toInt = 0 + (1 * r' 16 + (0)) := lw_rd (g := 14) (j := 212) h3.2.2.1 (List.mem_of_getElem? (i := 5) rfl) (by decide)
    have e6 : (nt_I M' (pl 14) 424).toInt = 0 + (1 * r' 17 + (0)) := lw_rd (g := 14) (j := 424) h3.2.2.1 (List.mem_of_getElem? (i := 6) rfl) (by decide)
    have e7 : (nt_I M' (pl 14) 636).toInt = 0 + (1 * r' 18 + (0)) := lw_rd (g := 14) (j := 636) h3.2.2.1 (List.mem_of_getElem? (i := 7) rfl) (by decide)
    have e8 : (nt_I M' (pl 14) 4).toInt = 0 + (1 * r' 19 + (0)) := lw_rd (g := 14) (j := 4) h3.2.2.1 (List.mem_of_getElem? (i := 8) rfl) (by decide)
    have e9 : (nt_I M' (pl 14) 216).toInt = 0 + (1 * r' 20 + (0)) := lw_rd (g := 14) (j := 216) h3.2.2.1 (List.mem_of_getElem? (i := 9) rfl) (by decide)
    have e10 : (nt_I M' (pl 14) 428).toInt = 0 + (1 * r' 21 + (0)) := lw_rd (g := 14) (j := 428) h3.2.2.1 (List.mem_of_getElem? (i := 10) rfl) (by decide)
    have e11 : (nt_I M' (pl 14) 640).toInt = 0 + (1 * r' 22 + (0)) := lw_rd (g := 14) (j := 640) h3.2.2.1 (List.mem_of_getElem? (i := 11) rfl) (by decide)
    have g11 := hr' 11 (by omega)
    rw [h11] at g11
    have g12 := hr' 12 (by omega)
    rw [h12] at g12
    have g13 := hr' 13 (by omega)
    rw [h13] at g13
    have g14 := hr' 14 (by omega)
    rw [h14] at g14
    have g15 := hr' 15 (by omega)
    rw [h15] at g15
    have g16 := hr' 16 (by omega)
    rw [h16] at g16
    have g17 := hr' 17 (by omega)
    rw [h17] at g17
    have g18 := hr' 18 (by omega)
    rw [h18] at g18
    have g19 := hr' 19 (by omega)
    rw [h19] at g19
    have g20 := hr' 20 (by omega)
    rw [h20] at g20
    have g21 := hr' 21 (by omega)
    rw [h21] at g21
    have g22 := hr' 22 (by omega)
    rw [h22] at g22
    exact ⟨y, M', rfl, ⟨by omega, e0.trans (lw_s g11), e1.trans (lw_s g12), e2.trans (lw_s g13), e3.trans (lw_s g14), e4.trans (lw_s g15), e5.trans (lw_s g16), e6.trans (lw_s g17), e7.trans (lw_s g18), e8.trans (lw_s g19), e9.trans (lw_s g20), e10.trans (lw_s g21), e11.trans (lw_s g22)⟩⟩
theorem lwd_image1 {X : nt_X} {pl : Nat → Nat} {v : Nat → Int} {M : nt_M} {d : Nat} {o : Option Value × nt_M} (hd : 1 ≤ d) (hB : ly_B pl v M) (hb11 : (0 : Int) ≤ (nt_I M (pl 31) 1).toInt ∧ (nt_I M (pl 31) 1).toInt ≤ 1) (hb13 : (0 : Int) ≤ (nt_I M (pl 4) 0).toInt ∧ (nt_I M (pl 4) 0).toInt ≤ 4) (k : nt_ev X d 234 [.ref (pl 0), .int (nI 1)] M o) : ∃ (y : Int32) (M' : nt_M), o = (some (.int y), M') ∧ ((y.toInt = (nt_I M (pl 4) 4).toInt ∧ (nt_I M' (pl 31) 1).toInt = (nt_I M (pl 31) 1).toInt ∧ (nt_I M' (pl 31) 2).toInt = (nt_I M (pl 31) 2).toInt ∧ (nt_I M' (pl 4) 0).toInt = (nt_I M (pl 4) 0).toInt ∧ (nt_I M' (pl 4) 4).toInt = (nt_I M (pl 4) 4).toInt ∧ (nt_I M' (pl 14) 0).toInt = (nt_I M (pl 14) 0).toInt ∧ (nt_I M' (pl 14) 212).toInt = (nt_I M (pl 4) 0).toInt ∧ (nt_I M' (pl 14) 424).toInt = (nt_I M (pl 14) 424).toInt ∧ (nt_I M' (pl 14) 636).toInt = (nt_I M (pl 14) 636).toInt ∧ (nt_I M' (pl 14) 4).toInt = (nt_I M (pl 14) 4).toInt ∧ (nt_I M' (pl 14) 216).toInt = (nt_I M (pl 4) 4).toInt ∧ (nt_I M' (pl 14) 428).toInt = (nt_I M (pl 14) 428).toInt ∧ (nt_I M' (pl 14) 640).toInt = (nt_I M (pl 14) 640).toInt)) := by
  obtain ⟨r, hr, h11, h12, h13, h14, h15, h16, h17, h18, h19, h20, h21, h22⟩ : ∃ r : Nat → Int, (∀ s, s < 11 → r s = v s) ∧ r 11 = (nt_I M (pl 31) 1).toInt ∧ r 12 = (nt_I M (pl 31) 2).toInt ∧ r 13 = (nt_I M (pl 4) 0).toInt ∧ r 14 = (nt_I M (pl 4) 4).toInt ∧ r 15 = (nt_I M (pl 14) 0).toInt ∧ r 16 = (nt_I M (pl 14) 212).toInt ∧ r 17 = (nt_I M (pl 14) 424).toInt ∧ r 18 = (nt_I M (pl 14) 636).toInt ∧ r 19 = (nt_I M (pl 14) 4).toInt ∧ r 20 = (nt_I M (pl 14) 216).toInt ∧ r 21 = (nt_I M (pl 14) 428).toInt ∧ r 22 = (nt_I M (pl 14) 640).toInt := ⟨fun s => if s = 11 then (nt_I M (pl 31) 1).toInt else if s = 12 then (nt_I M (pl 31) 2).toInt else if s = 13 then (nt_I M (pl 4) 0).toInt else if s = 14 then (nt_I M (pl 4) 4).toInt else if s = 15 then (nt_I M (pl 14) 0).toInt else if s = 16 then (nt_I M (pl 14) 212).toInt else if s = 17 then (nt_I M (pl 14) 424).toInt else if s = 18 then (nt_I M (pl 14) 636).toInt else if s = 19 then (nt_I M (pl 14) 4).toInt else if s = 20 then (nt_I M (pl 14) 216).toInt else if s = 21 then (nt_I M (pl 14) 428).toInt else if s = 22 then (nt_I M (pl 14) 640).toInt else v s, fun s hs => by dsimp only; rw [if_neg (by omega), if_neg (by omega), if_neg (by omega), if_neg (by omega), if_neg (by omega), if_neg (by omega), if_neg (by omega), if_neg (by omega), if_neg (by omega), if_neg (by omega), if_neg (by omega), if_neg (by omega)], rfl, rfl, rfl, rfl, rfl, rfl, rfl, rfl, rfl, rfl, rfl, rfl⟩
  have hij := ly_ij (K := kk_wd_image1) rfl hB
  have hon := ly_app (K := kk_wd_image1) (ed := []) (ec := [((31, (1, [])), (0, [(11, 1)])), ((31, (2, [])), (0, [(12, 1)])), ((4, (0, [])), (0, [(13, 1)])), ((4, (4, [])), (0, [(14, 1)])), ((14, (0, [])), (0, [(15, 1)])), ((14, (212, [])), (0, [(16, 1)])), ((14, (424, [])), (0, [(17, 1)])), ((14, (636, [])), (0, [(18, 1)])), ((14, (4, [])), (0, [(19, 1)])), ((14, (216, [])), (0, [(20, 1)])), ((14, (428, [])), (0, [(21, 1)])), ((14, (640, [])), (0, [(22, 1)]))]) (er := []) rfl hB (fun _ _ => rfl) hr hij ly_nil (lw_oiC (g := 31) (j := 1) (by show 31 < 66; decide) (by decide) (by dsimp only; rw [sx_s_e]; exact h11.symm) (lw_oiC (g := 31) (j := 2) (by show 31 < 66; decide) (by decide) (by dsimp only; rw [sx_s_e]; exact h12.symm) (lw_oiC (g := 4) (j := 0) (by show 4 < 66; decide) (by decide) (by dsimp only; rw [sx_s_e]; exact h13.symm) (lw_oiC (g := 4) (j := 4) (by show 4 < 66; decide) (by decide) (by dsimp only; rw [sx_s_e]; exact h14.symm) (lw_oiC (g := 14) (j := 0) (by show 14 < 66; decide) (by decide) (by dsimp only; rw [sx_s_e]; exact h15.symm) (lw_oiC (g := 14) (j := 212) (by show 14 < 66; decide) (by decide) (by dsimp only; rw [sx_s_e]; exact h16.symm) (lw_oiC (g := 14) (j := 424) (by show 14 < 66; decide) (by decide) (by dsimp only; rw [sx_s_e]; exact h17.symm) (lw_oiC (g := 14) (j := 636) (by show 14 < 66; decide) (by decide) (by dsimp only; rw [sx_s_e]; exact h18.symm) (lw_oiC (g := 14) (j := 4) (by show 14 < 66; decide) (by decide) (by dsimp only; rw [sx_s_e]; exact h19.symm) (lw_oiC (g := 14) (j := 216) (by show 14 < 66; decide) (by decide) (by dsimp only; rw [sx_s_e]; exact h20.symm) (lw_oiC (g := 14) (j := 428) (by show 14 < 66; decide) (by decide) (by dsimp only; rw [sx_s_e]; exact h21.symm) (lw_oiC (g := 14) (j := 640) (by show 14 < 66; decide) (by decide) (by dsimp only; rw [sx_s_e]; exact h22.symm) (lw_oiN))))))))))))) (fun q hq => by cases hq) (ly_oba (ly_obr hr (ly_ob hB)) (ly_oba (ly_ob1 (by rw [h11]; exact hb11)) (ly_oba (ly_obI (x := nt_I M (pl 31) 2) h12) (ly_oba (ly_ob1 (by rw [h13]; exact hb13)) (ly_oba (ly_obI (x := nt_I M (pl 4) 4) h14) (ly_oba (ly_obI (x := nt_I M (pl 14) 0) h15) (ly_oba (ly_obI (x := nt_I M (pl 14) 212) h16) (ly_oba (ly_obI (x := nt_I M (pl 14) 424) h17) (ly_oba (ly_obI (x := nt_I M (pl 14) 636) h18) (ly_oba (ly_obI (x := nt_I M (pl 14) 4) h19) (ly_oba (ly_obI (x := nt_I M (pl 14) 216) h20) (ly_oba (ly_obI (x := nt_I M (pl 14) 428) h21) (ly_obI (x := nt_I M (pl 14) 640) h22))))))))))))) ly_oc0
  obtain ⟨p, hp, r', h2, h3⟩ := lw_app (ko_wd_image1 X) rfl hd hon (vs := [.ref (pl 0), .int (nI 1)]) ⟨rfl, ⟨_, rfl, by rw [sx_c_e]; decide⟩, trivial⟩ k
  have hr' : ∀ s, s < 23 → r' s = r s := fun s hs => h3.2.2.2.2.2.1 s hs
  obtain ⟨ov, M'⟩ := o
  rw [List.mem_singleton.mp hp] at h2 h3
  cases ov with
  | none => exact h2.elim
  | some w =>
    obtain ⟨y, rfl, hy⟩ := h2
    have hy : y.toInt = 0 + (1 * r' 14 + (0)) := hy
    have e0 : (nt_I M' (pl 31) 1).toInt = 0 + (1 * r' 11 + (0)) := lw_rd (g := 31) (j := 1) h3.2.2.1 (List.mem_of_getElem? (i := 0) rfl) (by decide)
    have e1 : (nt_I M' (pl 31) 2).toInt = 0 + (1 * r' 12 + (0)) := lw_rd (g := 31) (j := 2) h3.2.2.1 (List.mem_of_getElem? (i := 1) rfl) (by decide)
    have e2 : (nt_I M' (pl 4) 0).toInt = 0 + (1 * r' 13 + (0)) := lw_rd (g := 4) (j := 0) h3.2.2.1 (List.mem_of_getElem? (i := 2) rfl) (by decide)
    have e3 : (nt_I M' (pl 4) 4).toInt = 0 + (1 * r' 14 + (0)) := lw_rd (g := 4) (j := 4) h3.2.2.1 (List.mem_of_getElem? (i := 3) rfl) (by decide)
    have e4 : (nt_I M' (pl 14) 0).toInt = 0 + (1 * r' 15 + (0)) := lw_rd (g := 14) (j := 0) h3.2.2.1 (List.mem_of_getElem? (i := 4) rfl) (by decide)
    have e5 : (nt_I M' (pl 14) 212).toInt = 0 + (1 * r' 13 + (0)) := lw_rd (g := 14) (j := 212) h3.2.2.1 (List.mem_of_getElem? (i := 5) rfl) (by decide)
    have e6 : (nt_I M' (pl 14) 424).toInt = 0 + (1 * r' 17 + (0)) := lw_rd (g := 14) (j := 424) h3.2.2.1 (List.mem_of_getElem? (i := 6) rfl) (by decide)
    have e7 : (nt_I M' (pl 14) 636).toInt = 0 + (1 * r' 18 + (0)) := lw_rd (g := 14) (j := 636) h3.2.2.1 (List.mem_of_getElem? (i := 7) rfl) (by decide)
    have e8 : (nt_I M' (pl 14) 4).toInt = 0 + (1 * r' 19 + (0)) := lw_rd (g := 14) (j := 4) h3.2.2.1 (List.mem_of_getElem? (i := 8) rfl) (by decide)
    have e9 : (nt_I M' (pl 14) 216).toInt = 0 + (1 * r' 14 + (0)) := lw_rd (g := 14) (j := 216) h3.2.2.1 (List.mem_of_getElem? (i := 9) rfl) (by decide)
    have e10 : (nt_I M' (pl 14) 428).toInt = 0 + (1 * r' 21 + (0)) := lw_rd (g := 14) (j := 428) h3.2.2.1 (List.mem_of_getElem? (i := 10) rfl) (by decide)
    have e11 : (nt_I M' (pl 14) 640).toInt = 0 + (1 * r' 22 + (0)) := lw_rd (g := 14) (j := 640) h3.2.2.1 (List.mem_of_getElem? (i := 11) rfl) (by decide)
    have g11 := hr' 11 (by omega)
    rw [h11] at g11
    have g12 := hr' 12 (by omega)
    rw [h12] at g12
    have g13 := hr' 13 (by omega)
    rw [h13] at g13
    have g14 := hr' 14 (by omega)
    rw [h14] at g14
    have g15 := hr' 15 (by omega)
    rw [h15] at g15
    have g17 := hr' 17 (by omega)
    rw [h17] at g17
    have g18 := hr' 18 (by omega)
    rw [h18] at g18
    have g19 := hr' 19 (by omega)
    rw [h19] at g19
    have g21 := hr' 21 (by omega)
    rw [h21] at g21
    have g22 := hr' 22 (by omega)
    rw [h22] at g22
    exact ⟨y, M', rfl, ⟨by omega, e0.trans (lw_s g11), e1.trans (lw_s g12), e2.trans (lw_s g13), e3.trans (lw_s g14), e4.trans (lw_s g15), e5.trans (lw_s g13), e6.trans (lw_s g17), e7.trans (lw_s g18), e8.trans (lw_s g19), e9.trans (lw_s g14), e10.trans (lw_s g21), e11.trans (lw_s g22)⟩⟩
theorem lwd_back1 {X : nt_X} {pl : Nat → Nat} {v : Nat → Int} {M : nt_M} {d : Nat} {o : Option Value × nt_M} (hd : 1 ≤ d) (hB : ly_B pl v M) (hb11 : (0 : Int) ≤ (nt_I M (pl 31) 1).toInt ∧ (nt_I M (pl 31) 1).toInt ≤ 1) (hb13 : (0 : Int) ≤ (nt_I M (pl 4) 0).toInt ∧ (nt_I M (pl 4) 0).toInt ≤ 4) (hv4 : v 4 = 1) (k : nt_ev X d 235 [.ref (pl 0), .int (nI 1)] M o) : ∃ (y : Int32) (M' : nt_M), o = (some (.int y), M') ∧ ((y.toInt = (nt_I M (pl 14) 216).toInt ∧ (nt_I M' (pl 31) 1).toInt = (nt_I M (pl 31) 1).toInt ∧ (nt_I M' (pl 31) 2).toInt = (nt_I M (pl 31) 2).toInt ∧ (nt_I M' (pl 4) 0).toInt = (nt_I M (pl 14) 212).toInt ∧ (nt_I M' (pl 4) 4).toInt = (nt_I M (pl 14) 216).toInt ∧ (nt_I M' (pl 14) 0).toInt = (nt_I M (pl 14) 0).toInt ∧ (nt_I M' (pl 14) 212).toInt = (nt_I M (pl 14) 212).toInt ∧ (nt_I M' (pl 14) 424).toInt = (nt_I M (pl 14) 424).toInt ∧ (nt_I M' (pl 14) 636).toInt = (nt_I M (pl 14) 636).toInt ∧ (nt_I M' (pl 14) 4).toInt = (nt_I M (pl 14) 4).toInt ∧ (nt_I M' (pl 14) 216).toInt = (nt_I M (pl 14) 216).toInt ∧ (nt_I M' (pl 14) 428).toInt = (nt_I M (pl 14) 428).toInt ∧ (nt_I M' (pl 14) 640).toInt = (nt_I M (pl 14) 640).toInt)) := by
  obtain ⟨r, hr, h11, h12, h13, h14, h15, h16, h17, h18, h19, h20, h21, h22⟩ : ∃ r : Nat → Int, (∀ s, s < 11 → r s = v s) ∧ r 11 = (nt_I M (pl 31) 1).toInt ∧ r 12 = (nt_I M (pl 31) 2).toInt ∧ r 13 = (nt_I M (pl 4) 0).toInt ∧ r 14 = (nt_I M (pl 4) 4).toInt ∧ r 15 = (nt_I M (pl 14) 0).toInt ∧ r 16 = (nt_I M (pl 14) 212).toInt ∧ r 17 = (nt_I M (pl 14) 424).toInt ∧ r 18 = (nt_I M (pl 14) 636).toInt ∧ r 19 = (nt_I M (pl 14) 4).toInt ∧ r 20 = (nt_I M (pl 14) 216).toInt ∧ r 21 = (nt_I M (pl 14) 428).toInt ∧ r 22 = (nt_I M (pl 14) 640).toInt := ⟨fun s => if s = 11 then (nt_I M (pl 31) 1).toInt else if s = 12 then (nt_I M (pl 31) 2).toInt else if s = 13 then (nt_I M (pl 4) 0).toInt else if s = 14 then (nt_I M (pl 4) 4).toInt else if s = 15 then (nt_I M (pl 14) 0).toInt else if s = 16 then (nt_I M (pl 14) 212).toInt else if s = 17 then (nt_I M (pl 14) 424).toInt else if s = 18 then (nt_I M (pl 14) 636).toInt else if s = 19 then (nt_I M (pl 14) 4).toInt else if s = 20 then (nt_I M (pl 14) 216).toInt else if s = 21 then (nt_I M (pl 14) 428).toInt else if s = 22 then (nt_I M (pl 14) 640).toInt else v s, fun s hs => by dsimp only; rw [if_neg (by omega), if_neg (by omega), if_neg (by omega), if_neg (by omega), if_neg (by omega), if_neg (by omega), if_neg (by omega), if_neg (by omega), if_neg (by omega), if_neg (by omega), if_neg (by omega), if_neg (by omega)], rfl, rfl, rfl, rfl, rfl, rfl, rfl, rfl, rfl, rfl, rfl, rfl⟩
  have hij := ly_ij (K := kk_wd_back1) rfl hB
  have hon := ly_app (K := kk_wd_back1) (ed := []) (ec := [((31, (1, [])), (0, [(11, 1)])), ((31, (2, [])), (0, [(12, 1)])), ((4, (0, [])), (0, [(13, 1)])), ((4, (4, [])), (0, [(14, 1)])), ((14, (0, [])), (0, [(15, 1)])), ((14, (212, [])), (0, [(16, 1)])), ((14, (424, [])), (0, [(17, 1)])), ((14, (636, [])), (0, [(18, 1)])), ((14, (4, [])), (0, [(19, 1)])), ((14, (216, [])), (0, [(20, 1)])), ((14, (428, [])), (0, [(21, 1)])), ((14, (640, [])), (0, [(22, 1)]))]) (er := []) rfl hB (fun _ _ => rfl) hr hij ly_nil (lw_oiC (g := 31) (j := 1) (by show 31 < 66; decide) (by decide) (by dsimp only; rw [sx_s_e]; exact h11.symm) (lw_oiC (g := 31) (j := 2) (by show 31 < 66; decide) (by decide) (by dsimp only; rw [sx_s_e]; exact h12.symm) (lw_oiC (g := 4) (j := 0) (by show 4 < 66; decide) (by decide) (by dsimp only; rw [sx_s_e]; exact h13.symm) (lw_oiC (g := 4) (j := 4) (by show 4 < 66; decide) (by decide) (by dsimp only; rw [sx_s_e]; exact h14.symm) (lw_oiC (g := 14) (j := 0) (by show 14 < 66; decide) (by decide) (by dsimp only; rw [sx_s_e]; exact h15.symm) (lw_oiC (g := 14) (j := 212) (by show 14 < 66; decide) (by decide) (by dsimp only; rw [sx_s_e]; exact h16.symm) (lw_oiC (g := 14) (j := 424) (by show 14 < 66; decide) (by decide) (by dsimp only; rw [sx_s_e]; exact h17.symm) (lw_oiC (g := 14) (j := 636) (by show 14 < 66; decide) (by decide) (by dsimp only; rw [sx_s_e]; exact h18.symm) (lw_oiC (g := 14) (j := 4) (by show 14 < 66; decide) (by decide) (by dsimp only; rw [sx_s_e]; exact h19.symm) (lw_oiC (g := 14) (j := 216) (by show 14 < 66; decide) (by decide) (by dsimp only; rw [sx_s_e]; exact h20.symm) (lw_oiC (g := 14) (j := 428) (by show 14 < 66; decide) (by decide) (by dsimp only; rw [sx_s_e]; exact h21.symm) (lw_oiC (g := 14) (j := 640) (by show 14 < 66; decide) (by decide) (by dsimp only; rw [sx_s_e]; exact h22.symm) (lw_oiN))))))))))))) (fun q hq => by cases hq) (ly_oba (ly_oba (ly_ob1 (by rw [hr 4 (by omega), hv4]; omega)) (ly_obr hr (ly_ob hB))) (ly_oba (ly_ob1 (by rw [h11]; exact hb11)) (ly_oba (ly_obI (x := nt_I M (pl 31) 2) h12) (ly_oba (ly_ob1 (by rw [h13]; exact hb13)) (ly_oba (ly_obI (x := nt_I M (pl 4) 4) h14) (ly_oba (ly_obI (x := nt_I M (pl 14) 0) h15) (ly_oba (ly_obI (x := nt_I M (pl 14) 212) h16) (ly_oba (ly_obI (x := nt_I M (pl 14) 424) h17) (ly_oba (ly_obI (x := nt_I M (pl 14) 636) h18) (ly_oba (ly_obI (x := nt_I M (pl 14) 4) h19) (ly_oba (ly_obI (x := nt_I M (pl 14) 216) h20) (ly_oba (ly_obI (x := nt_I M (pl 14) 428) h21) (ly_obI (x := nt_I M (pl 14) 640) h22))))))))))))) ly_oc0
  obtain ⟨p, hp, r', h2, h3⟩ := lw_app (ko_wd_back1 X) rfl hd hon (vs := [.ref (pl 0), .int (nI 1)]) ⟨rfl, ⟨_, rfl, by rw [sx_c_e]; decide⟩, trivial⟩ k
  have hr' : ∀ s, s < 23 → r' s = r s := fun s hs => h3.2.2.2.2.2.1 s hs
  obtain ⟨ov, M'⟩ := o
  rw [List.mem_singleton.mp hp] at h2 h3
  cases ov with
  | none => exact h2.elim
  | some w =>
    obtain ⟨y, rfl, hy⟩ := h2
    have hy : y.toInt = 0 + (1 * r' 20 + (0)) := hy
    have e0 : (nt_I M' (pl 31) 1).toInt = 0 + (1 * r' 11 + (0)) := lw_rd (g := 31) (j := 1) h3.2.2.1 (List.mem_of_getElem? (i := 0) rfl) (by decide)
    have e1 : (nt_I M' (pl 31) 2).toInt = 0 + (1 * r' 12 + (0)) := lw_rd (g := 31) (j := 2) h3.2.2.1 (List.mem_of_getElem? (i := 1) rfl) (by decide)
    have e2 : (nt_I M' (pl 4) 0).toInt = 0 + (1 * r' 16 + (0)) := lw_rd (g := 4) (j := 0) h3.2.2.1 (List.mem_of_getElem? (i := 2) rfl) (by decide)
    have e3 : (nt_I M' (pl 4) 4).toInt = 0 + (1 * r' 20 + (0)) := lw_rd (g := 4) (j := 4) h3.2.2.1 (List.mem_of_getElem? (i := 3) rfl) (by decide)
    have e4 : (nt_I M' (pl 14) 0).toInt = 0 + (1 * r' 15 + (0)) := lw_rd (g := 14) (j := 0) h3.2.2.1 (List.mem_of_getElem? (i := 4) rfl) (by decide)
    have e5 : (nt_I M' (pl 14) 212).toInt = 0 + (1 * r' 16 + (0)) := lw_rd (g := 14) (j := 212) h3.2.2.1 (List.mem_of_getElem? (i := 5) rfl) (by decide)
    have e6 : (nt_I M' (pl 14) 424).toInt = 0 + (1 * r' 17 + (0)) := lw_rd (g := 14) (j := 424) h3.2.2.1 (List.mem_of_getElem? (i := 6) rfl) (by decide)
    have e7 : (nt_I M' (pl 14) 636).toInt = 0 + (1 * r' 18 + (0)) := lw_rd (g := 14) (j := 636) h3.2.2.1 (List.mem_of_getElem? (i := 7) rfl) (by decide)
    have e8 : (nt_I M' (pl 14) 4).toInt = 0 + (1 * r' 19 + (0)) := lw_rd (g := 14) (j := 4) h3.2.2.1 (List.mem_of_getElem? (i := 8) rfl) (by decide)
    have e9 : (nt_I M' (pl 14) 216).toInt = 0 + (1 * r' 20 + (0)) := lw_rd (g := 14) (j := 216) h3.2.2.1 (List.mem_of_getElem? (i := 9) rfl) (by decide)
    have e10 : (nt_I M' (pl 14) 428).toInt = 0 + (1 * r' 21 + (0)) := lw_rd (g := 14) (j := 428) h3.2.2.1 (List.mem_of_getElem? (i := 10) rfl) (by decide)
    have e11 : (nt_I M' (pl 14) 640).toInt = 0 + (1 * r' 22 + (0)) := lw_rd (g := 14) (j := 640) h3.2.2.1 (List.mem_of_getElem? (i := 11) rfl) (by decide)
    have g11 := hr' 11 (by omega)
    rw [h11] at g11
    have g12 := hr' 12 (by omega)
    rw [h12] at g12
    have g15 := hr' 15 (by omega)
    rw [h15] at g15
    have g16 := hr' 16 (by omega)
    rw [h16] at g16
    have g17 := hr' 17 (by omega)
    rw [h17] at g17
    have g18 := hr' 18 (by omega)
    rw [h18] at g18
    have g19 := hr' 19 (by omega)
    rw [h19] at g19
    have g20 := hr' 20 (by omega)
    rw [h20] at g20
    have g21 := hr' 21 (by omega)
    rw [h21] at g21
    have g22 := hr' 22 (by omega)
    rw [h22] at g22
    exact ⟨y, M', rfl, ⟨by omega, e0.trans (lw_s g11), e1.trans (lw_s g12), e2.trans (lw_s g16), e3.trans (lw_s g20), e4.trans (lw_s g15), e5.trans (lw_s g16), e6.trans (lw_s g17), e7.trans (lw_s g18), e8.trans (lw_s g19), e9.trans (lw_s g20), e10.trans (lw_s g21), e11.trans (lw_s g22)⟩⟩
theorem lwd_back1N {X : nt_X} {pl : Nat → Nat} {v : Nat → Int} {M : nt_M} {d : Nat} {o : Option Value × nt_M} (hd : 1 ≤ d) (hB : ly_B pl v M) (hb11 : (0 : Int) ≤ (nt_I M (pl 31) 1).toInt ∧ (nt_I M (pl 31) 1).toInt ≤ 1) (hb13 : (0 : Int) ≤ (nt_I M (pl 4) 0).toInt ∧ (nt_I M (pl 4) 0).toInt ≤ 4) (hv4 : v 4 = 0) (k : nt_ev X d 235 [.ref (pl 0), .int (nI 1)] M o) : ∃ (y : Int32) (M' : nt_M), o = (some (.int y), M') ∧ ((y.toInt = -1 ∧ (nt_I M' (pl 31) 1).toInt = (nt_I M (pl 31) 1).toInt ∧ (nt_I M' (pl 31) 2).toInt = (nt_I M (pl 31) 2).toInt ∧ (nt_I M' (pl 4) 0).toInt = (nt_I M (pl 4) 0).toInt ∧ (nt_I M' (pl 4) 4).toInt = (nt_I M (pl 4) 4).toInt ∧ (nt_I M' (pl 14) 0).toInt = (nt_I M (pl 14) 0).toInt ∧ (nt_I M' (pl 14) 212).toInt = (nt_I M (pl 14) 212).toInt ∧ (nt_I M' (pl 14) 424).toInt = (nt_I M (pl 14) 424).toInt ∧ (nt_I M' (pl 14) 636).toInt = (nt_I M (pl 14) 636).toInt ∧ (nt_I M' (pl 14) 4).toInt = (nt_I M (pl 14) 4).toInt ∧ (nt_I M' (pl 14) 216).toInt = (nt_I M (pl 14) 216).toInt ∧ (nt_I M' (pl 14) 428).toInt = (nt_I M (pl 14) 428).toInt ∧ (nt_I M' (pl 14) 640).toInt = (nt_I M (pl 14) 640).toInt)) := by
  obtain ⟨r, hr, h11, h12, h13, h14, h15, h16, h17, h18, h19, h20, h21, h22⟩ : ∃ r : Nat → Int, (∀ s, s < 11 → r s = v s) ∧ r 11 = (nt_I M (pl 31) 1).toInt ∧ r 12 = (nt_I M (pl 31) 2).toInt ∧ r 13 = (nt_I M (pl 4) 0).toInt ∧ r 14 = (nt_I M (pl 4) 4).toInt ∧ r 15 = (nt_I M (pl 14) 0).toInt ∧ r 16 = (nt_I M (pl 14) 212).toInt ∧ r 17 = (nt_I M (pl 14) 424).toInt ∧ r 18 = (nt_I M (pl 14) 636).toInt ∧ r 19 = (nt_I M (pl 14) 4).toInt ∧ r 20 = (nt_I M (pl 14) 216).toInt ∧ r 21 = (nt_I M (pl 14) 428).toInt ∧ r 22 = (nt_I M (pl 14) 640).toInt := ⟨fun s => if s = 11 then (nt_I M (pl 31) 1).toInt else if s = 12 then (nt_I M (pl 31) 2).toInt else if s = 13 then (nt_I M (pl 4) 0).toInt else if s = 14 then (nt_I M (pl 4) 4).toInt else if s = 15 then (nt_I M (pl 14) 0).toInt else if s = 16 then (nt_I M (pl 14) 212).toInt else if s = 17 then (nt_I M (pl 14) 424).toInt else if s = 18 then (nt_I M (pl 14) 636).toInt else if s = 19 then (nt_I M (pl 14) 4).toInt else if s = 20 then (nt_I M (pl 14) 216).toInt else if s = 21 then (nt_I M (pl 14) 428).toInt else if s = 22 then (nt_I M (pl 14) 640).toInt else v s, fun s hs => by dsimp only; rw [if_neg (by omega), if_neg (by omega), if_neg (by omega), if_neg (by omega), if_neg (by omega), if_neg (by omega), if_neg (by omega), if_neg (by omega), if_neg (by omega), if_neg (by omega), if_neg (by omega), if_neg (by omega)], rfl, rfl, rfl, rfl, rfl, rfl, rfl, rfl, rfl, rfl, rfl, rfl⟩
  have hij := ly_ij (K := kk_wd_back1N) rfl hB
  have hon := ly_app (K := kk_wd_back1N) (ed := []) (ec := [((31, (1, [])), (0, [(11, 1)])), ((31, (2, [])), (0, [(12, 1)])), ((4, (0, [])), (0, [(13, 1)])), ((4, (4, [])), (0, [(14, 1)])), ((14, (0, [])), (0, [(15, 1)])), ((14, (212, [])), (0, [(16, 1)])), ((14, (424, [])), (0, [(17, 1)])), ((14, (636, [])), (0, [(18, 1)])), ((14, (4, [])), (0, [(19, 1)])), ((14, (216, [])), (0, [(20, 1)])), ((14, (428, [])), (0, [(21, 1)])), ((14, (640, [])), (0, [(22, 1)]))]) (er := []) rfl hB (fun _ _ => rfl) hr hij ly_nil (lw_oiC (g := 31) (j := 1) (by show 31 < 66; decide) (by decide) (by dsimp only; rw [sx_s_e]; exact h11.symm) (lw_oiC (g := 31) (j := 2) (by show 31 < 66; decide) (by decide) (by dsimp only; rw [sx_s_e]; exact h12.symm) (lw_oiC (g := 4) (j := 0) (by show 4 < 66; decide) (by decide) (by dsimp only; rw [sx_s_e]; exact h13.symm) (lw_oiC (g := 4) (j := 4) (by show 4 < 66; decide) (by decide) (by dsimp only; rw [sx_s_e]; exact h14.symm) (lw_oiC (g := 14) (j := 0) (by show 14 < 66; decide) (by decide) (by dsimp only; rw [sx_s_e]; exact h15.symm) (lw_oiC (g := 14) (j := 212) (by show 14 < 66; decide) (by decide) (by dsimp only; rw [sx_s_e]; exact h16.symm) (lw_oiC (g := 14) (j := 424) (by show 14 < 66; decide) (by decide) (by dsimp only; rw [sx_s_e]; exact h17.symm) (lw_oiC (g := 14) (j := 636) (by show 14 < 66; decide) (by decide) (by dsimp only; rw [sx_s_e]; exact h18.symm) (lw_oiC (g := 14) (j := 4) (by show 14 < 66; decide) (by decide) (by dsimp only; rw [sx_s_e]; exact h19.symm) (lw_oiC (g := 14) (j := 216) (by show 14 < 66; decide) (by decide) (by dsimp only; rw [sx_s_e]; exact h20.symm) (lw_oiC (g := 14) (j := 428) (by show 14 < 66; decide) (by decide) (by dsimp only; rw [sx_s_e]; exact h21.symm) (lw_oiC (g := 14) (j := 640) (by show 14 < 66; decide) (by decide) (by dsimp only; rw [sx_s_e]; exact h22.symm) (lw_oiN))))))))))))) (fun q hq => by cases hq) (ly_oba (ly_oba (ly_ob1 (by rw [hr 4 (by omega), hv4]; omega)) (ly_obr hr (ly_ob hB))) (ly_oba (ly_ob1 (by rw [h11]; exact hb11)) (ly_oba (ly_obI (x := nt_I M (pl 31) 2) h12) (ly_oba (ly_ob1 (by rw [h13]; exact hb13)) (ly_oba (ly_obI (x := nt_I M (pl 4) 4) h14) (ly_oba (ly_obI (x := nt_I M (pl 14) 0) h15) (ly_oba (ly_obI (x := nt_I M (pl 14) 212) h16) (ly_oba (ly_obI (x := nt_I M (pl 14) 424) h17) (ly_oba (ly_obI (x := nt_I M (pl 14) 636) h18) (ly_oba (ly_obI (x := nt_I M (pl 14) 4) h19) (ly_oba (ly_obI (x := nt_I M (pl 14) 216) h20) (ly_oba (ly_obI (x := nt_I M (pl 14) 428) h21) (ly_obI (x := nt_I M (pl 14) 640) h22))))))))))))) ly_oc0
  obtain ⟨p, hp, r', h2, h3⟩ := lw_app (ko_wd_back1N X) rfl hd hon (vs := [.ref (pl 0), .int (nI 1)]) ⟨rfl, ⟨_, rfl, by rw [sx_c_e]; decide⟩, trivial⟩ k
  have hr' : ∀ s, s < 23 → r' s = r s := fun s hs => h3.2.2.2.2.2.1 s hs
  obtain ⟨ov, M'⟩ := o
  rw [List.mem_singleton.mp hp] at h2 h3
  cases ov with
  | none => exact h2.elim
  | some w =>
    obtain ⟨y, rfl, hy⟩ := h2
    have hy : y.toInt = (-1) + 0 := hy
    have e0 : (nt_I M' (pl 31) 1).toInt = 0 + (1 * r' 11 + (0)) := lw_rd (g := 31) (j := 1) h3.2.2.1 (List.mem_of_getElem? (i := 0) rfl) (by decide)
    have e1 : (nt_I M' (pl 31) 2).toInt = 0 + (1 * r' 12 + (0)) := lw_rd (g := 31) (j := 2) h3.2.2.1 (List.mem_of_getElem? (i := 1) rfl) (by decide)
    have e2 : (nt_I M' (pl 4) 0).toInt = 0 + (1 * r' 13 + (0)) := lw_rd (g := 4) (j := 0) h3.2.2.1 (List.mem_of_getElem? (i := 2) rfl) (by decide)
    have e3 : (nt_I M' (pl 4) 4).toInt = 0 + (1 * r' 14 + (0)) := lw_rd (g := 4) (j := 4) h3.2.2.1 (List.mem_of_getElem? (i := 3) rfl) (by decide)
    have e4 : (nt_I M' (pl 14) 0).toInt = 0 + (1 * r' 15 + (0)) := lw_rd (g := 14) (j := 0) h3.2.2.1 (List.mem_of_getElem? (i := 4) rfl) (by decide)
    have e5 : (nt_I M' (pl 14) 212).toInt = 0 + (1 * r' 16 + (0)) := lw_rd (g := 14) (j := 212) h3.2.2.1 (List.mem_of_getElem? (i := 5) rfl) (by decide)
    have e6 : (nt_I M' (pl 14) 424).toInt = 0 + (1 * r' 17 + (0)) := lw_rd (g := 14) (j := 424) h3.2.2.1 (List.mem_of_getElem? (i := 6) rfl) (by decide)
    have e7 : (nt_I M' (pl 14) 636).toInt = 0 + (1 * r' 18 + (0)) := lw_rd (g := 14) (j := 636) h3.2.2.1 (List.mem_of_getElem? (i := 7) rfl) (by decide)
    have e8 : (nt_I M' (pl 14) 4).toInt = 0 + (1 * r' 19 + (0)) := lw_rd (g := 14) (j := 4) h3.2.2.1 (List.mem_of_getElem? (i := 8) rfl) (by decide)
    have e9 : (nt_I M' (pl 14) 216).toInt = 0 + (1 * r' 20 + (0)) := lw_rd (g := 14) (j := 216) h3.2.2.1 (List.mem_of_getElem? (i := 9) rfl) (by decide)
    have e10 : (nt_I M' (pl 14) 428).toInt = 0 + (1 * r' 21 + (0)) := lw_rd (g := 14) (j := 428) h3.2.2.1 (List.mem_of_getElem? (i := 10) rfl) (by decide)
    have e11 : (nt_I M' (pl 14) 640).toInt = 0 + (1 * r' 22 + (0)) := lw_rd (g := 14) (j := 640) h3.2.2.1 (List.mem_of_getElem? (i := 11) rfl) (by decide)
    have g11 := hr' 11 (by omega)
    rw [h11] at g11
    have g12 := hr' 12 (by omega)
    rw [h12] at g12
    have g13 := hr' 13 (by omega)
    rw [h13] at g13
    have g14 := hr' 14 (by omega)
    rw [h14] at g14
    have g15 := hr' 15 (by omega)
    rw [h15] at g15
    have g16 := hr' 16 (by omega)
    rw [h16] at g16
    have g17 := hr' 17 (by omega)
    rw [h17] at g17
    have g18 := hr' 18 (by omega)
    rw [h18] at g18
    have g19 := hr' 19 (by omega)
    rw [h19] at g19
    have g20 := hr' 20 (by omega)
    rw [h20] at g20
    have g21 := hr' 21 (by omega)
    rw [h21] at g21
    have g22 := hr' 22 (by omega)
    rw [h22] at g22
    exact ⟨y, M', rfl, ⟨by omega, e0.trans (lw_s g11), e1.trans (lw_s g12), e2.trans (lw_s g13), e3.trans (lw_s g14), e4.trans (lw_s g15), e5.trans (lw_s g16), e6.trans (lw_s g17), e7.trans (lw_s g18), e8.trans (lw_s g19), e9.trans (lw_s g20), e10.trans (lw_s g21), e11.trans (lw_s g22)⟩⟩
theorem lwd_n_image2 {X : nt_X} {pl : Nat → Nat} {v : Nat → Int} {M : nt_M} {d a : Nat} {o : Option Value × nt_M} (hd : 3 ≤ d) (hB : ly_B pl v M) {x : Int} (p1 : ∀ g, g < 66 → pl g < 66) (c1 : nt_R M (pl 65) 2 = some a) (c3 : 66 ≤ a) (c6 : ly_im a x M) (hb11 : (0 : Int) ≤ (nt_I M (pl 31) 1).toInt ∧ (nt_I M (pl 31) 1).toInt ≤ 1) (hb13 : (0 : Int) ≤ (nt_I M (pl 4) 0).toInt ∧ (nt_I M (pl 4) 0).toInt ≤ 4) (hb24 : (0 : Int) ≤ (nt_I M (a + 0) 1).toInt ∧ (nt_I M (a + 0) 1).toInt ≤ 1) (k : nt_ev X d 127 [.ref (pl 16), .int (nI 2)] M o) : ∃ (y : Int32) (M' : nt_M), o = (some (.int y), M') ∧ ((y.toInt = (nt_I M (pl 31) 2).toInt ∧ (nt_I M' (pl 31) 1).toInt = (nt_I M (pl 31) 1).toInt ∧ (nt_I M' (pl 31) 2).toInt = (nt_I M (pl 31) 2).toInt ∧ (nt_I M' (pl 4) 0).toInt = (nt_I M (pl 4) 0).toInt ∧ (nt_I M' (pl 4) 4).toInt = (nt_I M (pl 4) 4).toInt ∧ (nt_I M' (pl 14) 0).toInt = (nt_I M (pl 14) 0).toInt ∧ (nt_I M' (pl 14) 212).toInt = (nt_I M (pl 14) 212).toInt ∧ (nt_I M' (pl 14) 424).toInt = (nt_I M (pl 14) 424).toInt ∧ (nt_I M' (pl 14) 636).toInt = (nt_I M (pl 14) 636).toInt ∧ (nt_I M' (pl 14) 4).toInt = (nt_I M (pl 14) 4).toInt ∧ (nt_I M' (pl 14) 216).toInt = (nt_I M (pl 14) 216).toInt ∧ (nt_I M' (pl 14) 428).toInt = (nt_I M (pl 14) 428).toInt ∧ (nt_I M' (pl 14) 640).toInt = (nt_I M (pl 14) 640).toInt ∧ (nt_I M' (a + 0) 1).toInt = (nt_I M (pl 31) 1).toInt ∧ (nt_I M' (a + 0) 2).toInt = (nt_I M (pl 31) 2).toInt)) := by
  obtain ⟨r, hr, h11, h12, h13, h14, h15, h16, h17, h18, h19, h20, h21, h22, h23, h24, h25⟩ : ∃ r : Nat → Int, (∀ s, s < 11 → r s = v s) ∧ r 11 = (nt_I M (pl 31) 1).toInt ∧ r 12 = (nt_I M (pl 31) 2).toInt ∧ r 13 = (nt_I M (pl 4) 0).toInt ∧ r 14 = (nt_I M (pl 4) 4).toInt ∧ r 15 = (nt_I M (pl 14) 0).toInt ∧ r 16 = (nt_I M (pl 14) 212).toInt ∧ r 17 = (nt_I M (pl 14) 424).toInt ∧ r 18 = (nt_I M (pl 14) 636).toInt ∧ r 19 = (nt_I M (pl 14) 4).toInt ∧ r 20 = (nt_I M (pl 14) 216).toInt ∧ r 21 = (nt_I M (pl 14) 428).toInt ∧ r 22 = (nt_I M (pl 14) 640).toInt ∧ r 23 = (nt_I M (a + 0) 6).toInt ∧ r 24 = (nt_I M (a + 0) 1).toInt ∧ r 25 = (nt_I M (a + 0) 2).toInt := ⟨fun s => if s = 11 then (nt_I M (pl 31) 1).toInt else if s = 12 then (nt_I M (pl 31) 2).toInt else if s = 13 then (nt_I M (pl 4) 0).toInt else if s = 14 then (nt_I M (pl 4) 4).toInt else if s = 15 then (nt_I M (pl 14) 0).toInt else if s = 16 then (nt_I M (pl 14) 212).toInt else if s = 17 then (nt_I M (pl 14) 424).toInt else if s = 18 then (nt_I M (pl 14) 636).toInt else if s = 19 then (nt_I M (pl 14) 4).toInt else if s = 20 then (nt_I M (pl 14) 216).toInt else if s = 21 then (nt_I M (pl 14) 428).toInt else if s = 22 then (nt_I M (pl 14) 640).toInt else if s = 23 then (nt_I M (a + 0) 6).toInt else if s = 24 then (nt_I M (a + 0) 1).toInt else if s = 25 then (nt_I M (a + 0) 2).toInt else v s, fun s hs => by dsimp only; rw [if_neg (by omega), if_neg (by omega), if_neg (by omega), if_neg (by omega), if_neg (by omega), if_neg (by omega), if_neg (by omega), if_neg (by omega), if_neg (by omega), if_neg (by omega), if_neg (by omega), if_neg (by omega), if_neg (by omega), if_neg (by omega), if_neg (by omega)], rfl, rfl, rfl, rfl, rfl, rfl, rfl, rfl, rfl, rfl, rfl, rfl, rfl, rfl, rfl⟩
  have hPL : ∀ h, h < 66 → ly_pl pl a h = pl h := fun h hh => ly_pl1 hh
  have hij : sx_ij (sx_KE (sx_tbs, sx_gps) kk_wd_n_image2) (ly_pl pl a) := ly_pij p1 c3 hB.1
  have hon := ly_app (K := kk_wd_n_image2) (ed := ly_ED) (ec := [((31, (1, [])), (0, [(11, 1)])), ((31, (2, [])), (0, [(12, 1)])), ((4, (0, [])), (0, [(13, 1)])), ((4, (4, [])), (0, [(14, 1)])), ((14, (0, [])), (0, [(15, 1)])), ((14, (212, [])), (0, [(16, 1)])), ((14, (424, [])), (0, [(17, 1)])), ((14, (636, [])), (0, [(18, 1)])), ((14, (4, [])), (0, [(19, 1)])), ((14, (216, [])), (0, [(20, 1)])), ((14, (428, [])), (0, [(21, 1)])), ((14, (640, [])), (0, [(22, 1)])), ((66, (6, [])), (0, [(23, 1)])), ((66, (1, [])), (0, [(24, 1)])), ((66, (2, [])), (0, [(25, 1)]))]) (er := ((65, (2, [])), 67) :: ly_RI) rfl hB hPL hr hij (ly_hpI c6) (lw_oiC (g := 31) (j := 1) (by show 31 < 83; decide) (by decide) (by dsimp only; rw [hPL 31 (by decide)]; rw [sx_s_e]; exact h11.symm) (lw_oiC (g := 31) (j := 2) (by show 31 < 83; decide) (by decide) (by dsimp only; rw [hPL 31 (by decide)]; rw [sx_s_e]; exact h12.symm) (lw_oiC (g := 4) (j := 0) (by show 4 < 83; decide) (by decide) (by dsimp only; rw [hPL 4 (by decide)]; rw [sx_s_e]; exact h13.symm) (lw_oiC (g := 4) (j := 4) (by show 4 < 83; decide) (by decide) (by dsimp only; rw [hPL 4 (by decide)]; rw [sx_s_e]; exact h14.symm) (lw_oiC (g := 14) (j := 0) (by show 14 < 83; decide) (by decide) (by dsimp only; rw [hPL 14 (by decide)]; rw [sx_s_e]; exact h15.symm) (lw_oiC (g := 14) (j := 212) (by show 14 < 83; decide) (by decide) (by dsimp only; rw [hPL 14 (by decide)]; rw [sx_s_e]; exact h16.symm) (lw_oiC (g := 14) (j := 424) (by show 14 < 83; decide) (by decide) (by dsimp only; rw [hPL 14 (by decide)]; rw [sx_s_e]; exact h17.symm) (lw_oiC (g := 14) (j := 636) (by show 14 < 83; decide) (by decide) (by dsimp only; rw [hPL 14 (by decide)]; rw [sx_s_e]; exact h18.symm) (lw_oiC (g := 14) (j := 4) (by show 14 < 83; decide) (by decide) (by dsimp only; rw [hPL 14 (by decide)]; rw [sx_s_e]; exact h19.symm) (lw_oiC (g := 14) (j := 216) (by show 14 < 83; decide) (by decide) (by dsimp only; rw [hPL 14 (by decide)]; rw [sx_s_e]; exact h20.symm) (lw_oiC (g := 14) (j := 428) (by show 14 < 83; decide) (by decide) (by dsimp only; rw [hPL 14 (by decide)]; rw [sx_s_e]; exact h21.symm) (lw_oiC (g := 14) (j := 640) (by show 14 < 83; decide) (by decide) (by dsimp only; rw [hPL 14 (by decide)]; rw [sx_s_e]; exact h22.symm) (lw_oiC (g := 66) (j := 6) (by show 66 < 83; decide) (by decide) (by dsimp only; rw [ly_pl2 (by decide)]; rw [sx_s_e]; exact h23.symm) (lw_oiC (g := 66) (j := 1) (by show 66 < 83; decide) (by decide) (by dsimp only; rw [ly_pl2 (by decide)]; rw [sx_s_e]; exact h24.symm) (lw_oiC (g := 66) (j := 2) (by show 66 < 83; decide) (by decide) (by dsimp only; rw [ly_pl2 (by decide)]; rw [sx_s_e]; exact h25.symm) (lw_oiN)))))))))))))))) (ly_erI rfl c1 c6) (ly_oba (ly_obr hr (ly_ob hB)) (ly_oba (ly_ob1 (by rw [h11]; exact hb11)) (ly_oba (ly_obI (x := nt_I M (pl 31) 2) h12) (ly_oba (ly_ob1 (by rw [h13]; exact hb13)) (ly_oba (ly_obI (x := nt_I M (pl 4) 4) h14) (ly_oba (ly_obI (x := nt_I M (pl 14) 0) h15) (ly_oba (ly_obI (x := nt_I M (pl 14) 212) h16) (ly_oba (ly_obI (x := nt_I M (pl 14) 424) h17) (ly_oba (ly_obI (x := nt_I M (pl 14) 636) h18) (ly_oba (ly_obI (x := nt_I M (pl 14) 4) h19) (ly_oba (ly_obI (x := nt_I M (pl 14) 216) h20) (ly_oba (ly_obI (x := nt_I M (pl 14) 428) h21) (ly_oba (ly_obI (x := nt_I M (pl 14) 640) h22) (ly_oba (ly_obI (x := nt_I M (a + 0) 6) h23) (ly_oba (ly_ob1 (by rw [h24]; exact hb24)) (ly_obI (x := nt_I M (a + 0) 2) h25)))))))))))))))) ly_oc0
  obtain ⟨p, hp, r', h2, h3⟩ := lw_app (ko_wd_n_image2 X) rfl hd hon (vs := [.ref (pl 16), .int (nI 2)]) ⟨by show Value.ref (pl 16) = .ref ((ly_pl pl a) 16); rw [hPL 16 (by decide)], ⟨_, rfl, by rw [sx_c_e]; decide⟩, trivial⟩ k
  have hr' : ∀ s, s < 26 → r' s = r s := fun s hs => h3.2.2.2.2.2.1 s hs
  obtain ⟨ov, M'⟩ := o
  rw [List.mem_singleton.mp hp] at h2 h3
  cases ov with
  | none => exact h2.elim
  | some w =>
    obtain ⟨y, rfl, hy⟩ := h2
    have hy : y.toInt = 0 + (1 * r' 12 + (0)) := hy
    have e0 : (nt_I M' ((ly_pl pl a) 31) 1).toInt = 0 + (1 * r' 11 + (0)) := lw_rd (g := 31) (j := 1) h3.2.2.1 (List.mem_of_getElem? (i := 0) rfl) (by decide)
    rw [hPL 31 (by decide)] at e0
    have e1 : (nt_I M' ((ly_pl pl a) 31) 2).toInt = 0 + (1 * r' 12 + (0)) := lw_rd (g := 31) (j := 2) h3.2.2.1 (List.mem_of_getElem? (i := 1) rfl) (by decide)
    rw [hPL 31 (by decide)] at e1
    have e2 : (nt_I M' ((ly_pl pl a) 4) 0).toInt = 0 + (1 * r' 13 + (0)) := lw_rd (g := 4) (j := 0) h3.2.2.1 (List.mem_of_getElem? (i := 2) rfl) (by decide)
    rw [hPL 4 (by decide)] at e2
    have e3 : (nt_I M' ((ly_pl pl a) 4) 4).toInt = 0 + (1 * r' 14 + (0)) := lw_rd (g := 4) (j := 4) h3.2.2.1 (List.mem_of_getElem? (i := 3) rfl) (by decide)
    rw [hPL 4 (by decide)] at e3
    have e4 : (nt_I M' ((ly_pl pl a) 14) 0).toInt = 0 + (1 * r' 15 + (0)) := lw_rd (g := 14) (j := 0) h3.2.2.1 (List.mem_of_getElem? (i := 4) rfl) (by decide)
    rw [hPL 14 (by decide)] at e4
    have e5 : (nt_I M' ((ly_pl pl a) 14) 212).toInt = 0 + (1 * r' 16 + (0)) := lw_rd (g := 14) (j := 212) h3.2.2.1 (List.mem_of_getElem? (i := 5) rfl) (by decide)
    rw [hPL 14 (by decide)] at e5
    have e6 : (nt_I M' ((ly_pl pl a) 14) 424).toInt = 0 + (1 * r' 17 + (0)) := lw_rd (g := 14) (j := 424) h3.2.2.1 (List.mem_of_getElem? (i := 6) rfl) (by decide)
    rw [hPL 14 (by decide)] at e6
    have e7 : (nt_I M' ((ly_pl pl a) 14) 636).toInt = 0 + (1 * r' 18 + (0)) := lw_rd (g := 14) (j := 636) h3.2.2.1 (List.mem_of_getElem? (i := 7) rfl) (by decide)
    rw [hPL 14 (by decide)] at e7
    have e8 : (nt_I M' ((ly_pl pl a) 14) 4).toInt = 0 + (1 * r' 19 + (0)) := lw_rd (g := 14) (j := 4) h3.2.2.1 (List.mem_of_getElem? (i := 8) rfl) (by decide)
    rw [hPL 14 (by decide)] at e8
    have e9 : (nt_I M' ((ly_pl pl a) 14) 216).toInt = 0 + (1 * r' 20 + (0)) := lw_rd (g := 14) (j := 216) h3.2.2.1 (List.mem_of_getElem? (i := 9) rfl) (by decide)
    rw [hPL 14 (by decide)] at e9
    have e10 : (nt_I M' ((ly_pl pl a) 14) 428).toInt = 0 + (1 * r' 21 + (0)) := lw_rd (g := 14) (j := 428) h3.2.2.1 (List.mem_of_getElem? (i := 10) rfl) (by decide)
    rw [hPL 14 (by decide)] at e10
    have e11 : (nt_I M' ((ly_pl pl a) 14) 640).toInt = 0 + (1 * r' 22 + (0)) := lw_rd (g := 14) (j := 640) h3.2.2.1 (List.mem_of_getElem? (i := 11) rfl) (by decide)
    rw [hPL 14 (by decide)] at e11
    have e12 : (nt_I M' ((ly_pl pl a) 66) 1).toInt = 0 + (1 * r' 11 + (0)) := lw_rd (g := 66) (j := 1) h3.2.2.1 (List.mem_of_getElem? (i := 12) rfl) (by decide)
    rw [ly_pl2 (by decide)] at e12
    have e12 : (nt_I M' (a + 0) 1).toInt = 0 + (1 * r' 11 + (0)) := e12
    have e13 : (nt_I M' ((ly_pl pl a) 66) 2).toInt = 0 + (1 * r' 12 + (0)) := lw_rd (g := 66) (j := 2) h3.2.2.1 (List.mem_of_getElem? (i := 13) rfl) (by decide)
    rw [ly_pl2 (by decide)] at e13
    have e13 : (nt_I M' (a + 0) 2).toInt = 0 + (1 * r' 12 + (0)) := e13
    have g11 := hr' 11 (by omega)
    rw [h11] at g11
    have g12 := hr' 12 (by omega)
    rw [h12] at g12
    have g13 := hr' 13 (by omega)
    rw [h13] at g13
    have g14 := hr' 14 (by omega)
    rw [h14] at g14
    have g15 := hr' 15 (by omega)
    rw [h15] at g15
    have g16 := hr' 16 (by omega)
    rw [h16] at g16
    have g17 := hr' 17 (by omega)
    rw [h17] at g17
    have g18 := hr' 18 (by omega)
    rw [h18] at g18
    have g19 := hr' 19 (by omega)
    rw [h19] at g19
    have g20 := hr' 20 (by omega)
    rw [h20] at g20
    have g21 := hr' 21 (by omega)
    rw [h21] at g21
    have g22 := hr' 22 (by omega)
    rw [h22] at g22
    exact ⟨y, M', rfl, ⟨by omega, e0.trans (lw_s g11), e1.trans (lw_s g12), e2.trans (lw_s g13), e3.trans (lw_s g14), e4.trans (lw_s g15), e5.trans (lw_s g16), e6.trans (lw_s g17), e7.trans (lw_s g18), e8.trans (lw_s g19), e9.trans (lw_s g20), e10.trans (lw_s g21), e11.trans (lw_s g22), e12.trans (lw_s g11), e13.trans (lw_s g12)⟩⟩
theorem lwd_n_back2 {X : nt_X} {pl : Nat → Nat} {v : Nat → Int} {M : nt_M} {d a : Nat} {o : Option Value × nt_M} (hd : 3 ≤ d) (hB : ly_B pl v M) {x : Int} (p1 : ∀ g, g < 66 → pl g < 66) (c1 : nt_R M (pl 65) 2 = some a) (c3 : 66 ≤ a) (c6 : ly_im a x M) (hb11 : (0 : Int) ≤ (nt_I M (pl 31) 1).toInt ∧ (nt_I M (pl 31) 1).toInt ≤ 1) (hb13 : (0 : Int) ≤ (nt_I M (pl 4) 0).toInt ∧ (nt_I M (pl 4) 0).toInt ≤ 4) (hb24 : (0 : Int) ≤ (nt_I M (a + 0) 1).toInt ∧ (nt_I M (a + 0) 1).toInt ≤ 1) (k : nt_ev X d 128 [.ref (pl 16), .int (nI 2)] M o) : ∃ (y : Int32) (M' : nt_M), o = (some (.int y), M') ∧ ((y.toInt = (nt_I M (a + 0) 2).toInt ∧ (nt_I M' (pl 31) 1).toInt = (nt_I M (a + 0) 1).toInt ∧ (nt_I M' (pl 31) 2).toInt = (nt_I M (a + 0) 2).toInt ∧ (nt_I M' (pl 4) 0).toInt = (nt_I M (pl 4) 0).toInt ∧ (nt_I M' (pl 4) 4).toInt = (nt_I M (pl 4) 4).toInt ∧ (nt_I M' (pl 14) 0).toInt = (nt_I M (pl 14) 0).toInt ∧ (nt_I M' (pl 14) 212).toInt = (nt_I M (pl 14) 212).toInt ∧ (nt_I M' (pl 14) 424).toInt = (nt_I M (pl 14) 424).toInt ∧ (nt_I M' (pl 14) 636).toInt = (nt_I M (pl 14) 636).toInt ∧ (nt_I M' (pl 14) 4).toInt = (nt_I M (pl 14) 4).toInt ∧ (nt_I M' (pl 14) 216).toInt = (nt_I M (pl 14) 216).toInt ∧ (nt_I M' (pl 14) 428).toInt = (nt_I M (pl 14) 428).toInt ∧ (nt_I M' (pl 14) 640).toInt = (nt_I M (pl 14) 640).toInt ∧ (nt_I M' (a + 0) 1).toInt = (nt_I M (a + 0) 1).toInt ∧ (nt_I M' (a + 0) 2).toInt = (nt_I M (a + 0) 2).toInt)) := by
  obtain ⟨r, hr, h11, h12, h13, h14, h15, h16, h17, h18, h19, h20, h21, h22, h23, h24, h25⟩ : ∃ r : Nat → Int, (∀ s, s < 11 → r s = v s) ∧ r 11 = (nt_I M (pl 31) 1).toInt ∧ r 12 = (nt_I M (pl 31) 2).toInt ∧ r 13 = (nt_I M (pl 4) 0).toInt ∧ r 14 = (nt_I M (pl 4) 4).toInt ∧ r 15 = (nt_I M (pl 14) 0).toInt ∧ r 16 = (nt_I M (pl 14) 212).toInt ∧ r 17 = (nt_I M (pl 14) 424).toInt ∧ r 18 = (nt_I M (pl 14) 636).toInt ∧ r 19 = (nt_I M (pl 14) 4).toInt ∧ r 20 = (nt_I M (pl 14) 216).toInt ∧ r 21 = (nt_I M (pl 14) 428).toInt ∧ r 22 = (nt_I M (pl 14) 640).toInt ∧ r 23 = (nt_I M (a + 0) 6).toInt ∧ r 24 = (nt_I M (a + 0) 1).toInt ∧ r 25 = (nt_I M (a + 0) 2).toInt := ⟨fun s => if s = 11 then (nt_I M (pl 31) 1).toInt else if s = 12 then (nt_I M (pl 31) 2).toInt else if s = 13 then (nt_I M (pl 4) 0).toInt else if s = 14 then (nt_I M (pl 4) 4).toInt else if s = 15 then (nt_I M (pl 14) 0).toInt else if s = 16 then (nt_I M (pl 14) 212).toInt else if s = 17 then (nt_I M (pl 14) 424).toInt else if s = 18 then (nt_I M (pl 14) 636).toInt else if s = 19 then (nt_I M (pl 14) 4).toInt else if s = 20 then (nt_I M (pl 14) 216).toInt else if s = 21 then (nt_I M (pl 14) 428).toInt else if s = 22 then (nt_I M (pl 14) 640).toInt else if s = 23 then (nt_I M (a + 0) 6).toInt else if s = 24 then (nt_I M (a + 0) 1).toInt else if s = 25 then (nt_I M (a + 0) 2).toInt else v s, fun s hs => by dsimp only; rw [if_neg (by omega), if_neg (by omega), if_neg (by omega), if_neg (by omega), if_neg (by omega), if_neg (by omega), if_neg (by omega), if_neg (by omega), if_neg (by omega), if_neg (by omega), if_neg (by omega), if_neg (by omega), if_neg (by omega), if_neg (by omega), if_neg (by omega)], rfl, rfl, rfl, rfl, rfl, rfl, rfl, rfl, rfl, rfl, rfl, rfl, rfl, rfl, rfl⟩
  have hPL : ∀ h, h < 66 → ly_pl pl a h = pl h := fun h hh => ly_pl1 hh
  have hij : sx_ij (sx_KE (sx_tbs, sx_gps) kk_wd_n_back2) (ly_pl pl a) := ly_pij p1 c3 hB.1
  have hon := ly_app (K := kk_wd_n_back2) (ed := ly_ED) (ec := [((31, (1, [])), (0, [(11, 1)])), ((31, (2, [])), (0, [(12, 1)])), ((4, (0, [])), (0, [(13, 1)])), ((4, (4, [])), (0, [(14, 1)])), ((14, (0, [])), (0, [(15, 1)])), ((14, (212, [])), (0, [(16, 1)])), ((14, (424, [])), (0, [(17, 1)])), ((14, (636, [])), (0, [(18, 1)])), ((14, (4, [])), (0, [(19, 1)])), ((14, (216, [])), (0, [(20, 1)])), ((14, (428, [])), (0, [(21, 1)])), ((14, (640, [])), (0, [(22, 1)])), ((66, (6, [])), (0, [(23, 1)])), ((66, (1, [])), (0, [(24, 1)])), ((66, (2, [])), (0, [(25, 1)]))]) (er := ((65, (2, [])), 67) :: ly_RI) rfl hB hPL hr hij (ly_hpI c6) (lw_oiC (g := 31) (j := 1) (by show 31 < 83; decide) (by decide) (by dsimp only; rw [hPL 31 (by decide)]; rw [sx_s_e]; exact h11.symm) (lw_oiC (g := 31) (j := 2) (by show 31 < 83; decide) (by decide) (by dsimp only; rw [hPL 31 (by decide)]; rw [sx_s_e]; exact h12.symm) (lw_oiC (g := 4) (j := 0) (by show 4 < 83; decide) (by decide) (by dsimp only; rw [hPL 4 (by decide)]; rw [sx_s_e]; exact h13.symm) (lw_oiC (g := 4) (j := 4) (by show 4 < 83; decide) (by decide) (by dsimp only; rw [hPL 4 (by decide)]; rw [sx_s_e]; exact h14.symm) (lw_oiC (g := 14) (j := 0) (by show 14 < 83; decide) (by decide) (by dsimp only; rw [hPL 14 (by decide)]; rw [sx_s_e]; exact h15.symm) (lw_oiC (g := 14) (j := 212) (by show 14 < 83; decide) (by decide) (by dsimp only; rw [hPL 14 (by decide)]; rw [sx_s_e]; exact h16.symm) (lw_oiC (g := 14) (j := 424) (by show 14 < 83; decide) (by decide) (by dsimp only; rw [hPL 14 (by decide)]; rw [sx_s_e]; exact h17.symm) (lw_oiC (g := 14) (j := 636) (by show 14 < 83; decide) (by decide) (by dsimp only; rw [hPL 14 (by decide)]; rw [sx_s_e]; exact h18.symm) (lw_oiC (g := 14) (j := 4) (by show 14 < 83; decide) (by decide) (by dsimp only; rw [hPL 14 (by decide)]; rw [sx_s_e]; exact h19.symm) (lw_oiC (g := 14) (j := 216) (by show 14 < 83; decide) (by decide) (by dsimp only; rw [hPL 14 (by decide)]; rw [sx_s_e]; exact h20.symm) (lw_oiC (g := 14) (j := 428) (by show 14 < 83; decide) (by decide) (by dsimp only; rw [hPL 14 (by decide)]; rw [sx_s_e]; exact h21.symm) (lw_oiC (g := 14) (j := 640) (by show 14 < 83; decide) (by decide) (by dsimp only; rw [hPL 14 (by decide)]; rw [sx_s_e]; exact h22.symm) (lw_oiC (g := 66) (j := 6) (by show 66 < 83; decide) (by decide) (by dsimp only; rw [ly_pl2 (by decide)]; rw [sx_s_e]; exact h23.symm) (lw_oiC (g := 66) (j := 1) (by show 66 < 83; decide) (by decide) (by dsimp only; rw [ly_pl2 (by decide)]; rw [sx_s_e]; exact h24.symm) (lw_oiC (g := 66) (j := 2) (by show 66 < 83; decide) (by decide) (by dsimp only; rw [ly_pl2 (by decide)]; rw [sx_s_e]; exact h25.symm) (lw_oiN)))))))))))))))) (ly_erI rfl c1 c6) (ly_oba (ly_obr hr (ly_ob hB)) (ly_oba (ly_ob1 (by rw [h11]; exact hb11)) (ly_oba (ly_obI (x := nt_I M (pl 31) 2) h12) (ly_oba (ly_ob1 (by rw [h13]; exact hb13)) (ly_oba (ly_obI (x := nt_I M (pl 4) 4) h14) (ly_oba (ly_obI (x := nt_I M (pl 14) 0) h15) (ly_oba (ly_obI (x := nt_I M (pl 14) 212) h16) (ly_oba (ly_obI (x := nt_I M (pl 14) 424) h17) (ly_oba (ly_obI (x := nt_I M (pl 14) 636) h18) (ly_oba (ly_obI (x := nt_I M (pl 14) 4) h19) (ly_oba (ly_obI (x := nt_I M (pl 14) 216) h20) (ly_oba (ly_obI (x := nt_I M (pl 14) 428) h21) (ly_oba (ly_obI (x := nt_I M (pl 14) 640) h22) (ly_oba (ly_obI (x := nt_I M (a + 0) 6) h23) (ly_oba (ly_ob1 (by rw [h24]; exact hb24)) (ly_obI (x := nt_I M (a + 0) 2) h25)))))))))))))))) ly_oc0
  obtain ⟨p, hp, r', h2, h3⟩ := lw_app (ko_wd_n_back2 X) rfl hd hon (vs := [.ref (pl 16), .int (nI 2)]) ⟨by show Value.ref (pl 16) = .ref ((ly_pl pl a) 16); rw [hPL 16 (by decide)], ⟨_, rfl, by rw [sx_c_e]; decide⟩, trivial⟩ k
  have hr' : ∀ s, s < 26 → r' s = r s := fun s hs => h3.2.2.2.2.2.1 s hs
  obtain ⟨ov, M'⟩ := o
  rw [List.mem_singleton.mp hp] at h2 h3
  cases ov with
  | none => exact h2.elim
  | some w =>
    obtain ⟨y, rfl, hy⟩ := h2
    have hy : y.toInt = 0 + (1 * r' 25 + (0)) := hy
    have e0 : (nt_I M' ((ly_pl pl a) 31) 1).toInt = 0 + (1 * r' 24 + (0)) := lw_rd (g := 31) (j := 1) h3.2.2.1 (List.mem_of_getElem? (i := 0) rfl) (by decide)
    rw [hPL 31 (by decide)] at e0
    have e1 : (nt_I M' ((ly_pl pl a) 31) 2).toInt = 0 + (1 * r' 25 + (0)) := lw_rd (g := 31) (j := 2) h3.2.2.1 (List.mem_of_getElem? (i := 1) rfl) (by decide)
    rw [hPL 31 (by decide)] at e1
    have e2 : (nt_I M' ((ly_pl pl a) 4) 0).toInt = 0 + (1 * r' 13 + (0)) := lw_rd (g := 4) (j := 0) h3.2.2.1 (List.mem_of_getElem? (i := 2) rfl) (by decide)
    rw [hPL 4 (by decide)] at e2
    have e3 : (nt_I M' ((ly_pl pl a) 4) 4).toInt = 0 + (1 * r' 14 + (0)) := lw_rd (g := 4) (j := 4) h3.2.2.1 (List.mem_of_getElem? (i := 3) rfl) (by decide)
    rw [hPL 4 (by decide)] at e3
    have e4 : (nt_I M' ((ly_pl pl a) 14) 0).toInt = 0 + (1 * r' 15 + (0)) := lw_rd (g := 14) (j := 0) h3.2.2.1 (List.mem_of_getElem? (i := 4) rfl) (by decide)
    rw [hPL 14 (by decide)] at e4
    have e5 : (nt_I M' ((ly_pl pl a) 14) 212).toInt = 0 + (1 * r' 16 + (0)) := lw_rd (g := 14) (j := 212) h3.2.2.1 (List.mem_of_getElem? (i := 5) rfl) (by decide)
    rw [hPL 14 (by decide)] at e5
    have e6 : (nt_I M' ((ly_pl pl a) 14) 424).toInt = 0 + (1 * r' 17 + (0)) := lw_rd (g := 14) (j := 424) h3.2.2.1 (List.mem_of_getElem? (i := 6) rfl) (by decide)
    rw [hPL 14 (by decide)] at e6
    have e7 : (nt_I M' ((ly_pl pl a) 14) 636).toInt = 0 + (1 * r' 18 + (0)) := lw_rd (g := 14) (j := 636) h3.2.2.1 (List.mem_of_getElem? (i := 7) rfl) (by decide)
    rw [hPL 14 (by decide)] at e7
    have e8 : (nt_I M' ((ly_pl pl a) 14) 4).toInt = 0 + (1 * r' 19 + (0)) := lw_rd (g := 14) (j := 4) h3.2.2.1 (List.mem_of_getElem? (i := 8) rfl) (by decide)
    rw [hPL 14 (by decide)] at e8
    have e9 : (nt_I M' ((ly_pl pl a) 14) 216).toInt = 0 + (1 * r' 20 + (0)) := lw_rd (g := 14) (j := 216) h3.2.2.1 (List.mem_of_getElem? (i := 9) rfl) (by decide)
    rw [hPL 14 (by decide)] at e9
    have e10 : (nt_I M' ((ly_pl pl a) 14) 428).toInt = 0 + (1 * r' 21 + (0)) := lw_rd (g := 14) (j := 428) h3.2.2.1 (List.mem_of_getElem? (i := 10) rfl) (by decide)
    rw [hPL 14 (by decide)] at e10
    have e11 : (nt_I M' ((ly_pl pl a) 14) 640).toInt = 0 + (1 * r' 22 + (0)) := lw_rd (g := 14) (j := 640) h3.2.2.1 (List.mem_of_getElem? (i := 11) rfl) (by decide)
    rw [hPL 14 (by decide)] at e11
    have e12 : (nt_I M' ((ly_pl pl a) 66) 1).toInt = 0 + (1 * r' 24 + (0)) := lw_rd (g := 66) (j := 1) h3.2.2.1 (List.mem_of_getElem? (i := 12) rfl) (by decide)
    rw [ly_pl2 (by decide)] at e12
    have e12 : (nt_I M' (a + 0) 1).toInt = 0 + (1 * r' 24 + (0)) := e12
    have e13 : (nt_I M' ((ly_pl pl a) 66) 2).toInt = 0 + (1 * r' 25 + (0)) := lw_rd (g := 66) (j := 2) h3.2.2.1 (List.mem_of_getElem? (i := 13) rfl) (by decide)
    rw [ly_pl2 (by decide)] at e13
    have e13 : (nt_I M' (a + 0) 2).toInt = 0 + (1 * r' 25 + (0)) := e13
    have g13 := hr' 13 (by omega)
    rw [h13] at g13
    have g14 := hr' 14 (by omega)
    rw [h14] at g14
    have g15 := hr' 15 (by omega)
    rw [h15] at g15
    have g16 := hr' 16 (by omega)
    rw [h16] at g16
    have g17 := hr' 17 (by omega)
    rw [h17] at g17
    have g18 := hr' 18 (by omega)
    rw [h18] at g18
    have g19 := hr' 19 (by omega)
    rw [h19] at g19
    have g20 := hr' 20 (by omega)
    rw [h20] at g20
    have g21 := hr' 21 (by omega)
    rw [h21] at g21
    have g22 := hr' 22 (by omega)
    rw [h22] at g22
    have g24 := hr' 24 (by omega)
    rw [h24] at g24
    have g25 := hr' 25 (by omega)
    rw [h25] at g25
    exact ⟨y, M', rfl, ⟨by omega, e0.trans (lw_s g24), e1.trans (lw_s g25), e2.trans (lw_s g13), e3.trans (lw_s g14), e4.trans (lw_s g15), e5.trans (lw_s g16), e6.trans (lw_s g17), e7.trans (lw_s g18), e8.trans (lw_s g19), e9.trans (lw_s g20), e10.trans (lw_s g21), e11.trans (lw_s g22), e12.trans (lw_s g24), e13.trans (lw_s g25)⟩⟩
theorem lwd_n_back2N {X : nt_X} {pl : Nat → Nat} {v : Nat → Int} {M : nt_M} {d : Nat} {o : Option Value × nt_M} (hd : 0 ≤ d) (hB : ly_B pl v M) (hn : nt_R M (pl 65) 2 = none) (hb11 : (0 : Int) ≤ (nt_I M (pl 31) 1).toInt ∧ (nt_I M (pl 31) 1).toInt ≤ 1) (hb13 : (0 : Int) ≤ (nt_I M (pl 4) 0).toInt ∧ (nt_I M (pl 4) 0).toInt ≤ 4) (k : nt_ev X d 128 [.ref (pl 16), .int (nI 2)] M o) : ∃ (y : Int32) (M' : nt_M), o = (some (.int y), M') ∧ ((y.toInt = -1 ∧ (nt_I M' (pl 31) 1).toInt = (nt_I M (pl 31) 1).toInt ∧ (nt_I M' (pl 31) 2).toInt = (nt_I M (pl 31) 2).toInt ∧ (nt_I M' (pl 4) 0).toInt = (nt_I M (pl 4) 0).toInt ∧ (nt_I M' (pl 4) 4).toInt = (nt_I M (pl 4) 4).toInt ∧ (nt_I M' (pl 14) 0).toInt = (nt_I M (pl 14) 0).toInt ∧ (nt_I M' (pl 14) 212).toInt = (nt_I M (pl 14) 212).toInt ∧ (nt_I M' (pl 14) 424).toInt = (nt_I M (pl 14) 424).toInt ∧ (nt_I M' (pl 14) 636).toInt = (nt_I M (pl 14) 636).toInt ∧ (nt_I M' (pl 14) 4).toInt = (nt_I M (pl 14) 4).toInt ∧ (nt_I M' (pl 14) 216).toInt = (nt_I M (pl 14) 216).toInt ∧ (nt_I M' (pl 14) 428).toInt = (nt_I M (pl 14) 428).toInt ∧ (nt_I M' (pl 14) 640).toInt = (nt_I M (pl 14) 640).toInt)) := by
  obtain ⟨r, hr, h11, h12, h13, h14, h15, h16, h17, h18, h19, h20, h21, h22⟩ : ∃ r : Nat → Int, (∀ s, s < 11 → r s = v s) ∧ r 11 = (nt_I M (pl 31) 1).toInt ∧ r 12 = (nt_I M (pl 31) 2).toInt ∧ r 13 = (nt_I M (pl 4) 0).toInt ∧ r 14 = (nt_I M (pl 4) 4).toInt ∧ r 15 = (nt_I M (pl 14) 0).toInt ∧ r 16 = (nt_I M (pl 14) 212).toInt ∧ r 17 = (nt_I M (pl 14) 424).toInt ∧ r 18 = (nt_I M (pl 14) 636).toInt ∧ r 19 = (nt_I M (pl 14) 4).toInt ∧ r 20 = (nt_I M (pl 14) 216).toInt ∧ r 21 = (nt_I M (pl 14) 428).toInt ∧ r 22 = (nt_I M (pl 14) 640).toInt := ⟨fun s => if s = 11 then (nt_I M (pl 31) 1).toInt else if s = 12 then (nt_I M (pl 31) 2).toInt else if s = 13 then (nt_I M (pl 4) 0).toInt else if s = 14 then (nt_I M (pl 4) 4).toInt else if s = 15 then (nt_I M (pl 14) 0).toInt else if s = 16 then (nt_I M (pl 14) 212).toInt else if s = 17 then (nt_I M (pl 14) 424).toInt else if s = 18 then (nt_I M (pl 14) 636).toInt else if s = 19 then (nt_I M (pl 14) 4).toInt else if s = 20 then (nt_I M (pl 14) 216).toInt else if s = 21 then (nt_I M (pl 14) 428).toInt else if s = 22 then (nt_I M (pl 14) 640).toInt else v s, fun s hs => by dsimp only; rw [if_neg (by omega), if_neg (by omega), if_neg (by omega), if_neg (by omega), if_neg (by omega), if_neg (by omega), if_neg (by omega), if_neg (by omega), if_neg (by omega), if_neg (by omega), if_neg (by omega), if_neg (by omega)], rfl, rfl, rfl, rfl, rfl, rfl, rfl, rfl, rfl, rfl, rfl, rfl⟩
  have hij := ly_ij (K := kk_wd_n_back2N) rfl hB
  have hon := ly_app (K := kk_wd_n_back2N) (ed := []) (ec := [((31, (1, [])), (0, [(11, 1)])), ((31, (2, [])), (0, [(12, 1)])), ((4, (0, [])), (0, [(13, 1)])), ((4, (4, [])), (0, [(14, 1)])), ((14, (0, [])), (0, [(15, 1)])), ((14, (212, [])), (0, [(16, 1)])), ((14, (424, [])), (0, [(17, 1)])), ((14, (636, [])), (0, [(18, 1)])), ((14, (4, [])), (0, [(19, 1)])), ((14, (216, [])), (0, [(20, 1)])), ((14, (428, [])), (0, [(21, 1)])), ((14, (640, [])), (0, [(22, 1)]))]) (er := [((65, (2, [])), 0)]) rfl hB (fun _ _ => rfl) hr hij ly_nil (lw_oiC (g := 31) (j := 1) (by show 31 < 66; decide) (by decide) (by dsimp only; rw [sx_s_e]; exact h11.symm) (lw_oiC (g := 31) (j := 2) (by show 31 < 66; decide) (by decide) (by dsimp only; rw [sx_s_e]; exact h12.symm) (lw_oiC (g := 4) (j := 0) (by show 4 < 66; decide) (by decide) (by dsimp only; rw [sx_s_e]; exact h13.symm) (lw_oiC (g := 4) (j := 4) (by show 4 < 66; decide) (by decide) (by dsimp only; rw [sx_s_e]; exact h14.symm) (lw_oiC (g := 14) (j := 0) (by show 14 < 66; decide) (by decide) (by dsimp only; rw [sx_s_e]; exact h15.symm) (lw_oiC (g := 14) (j := 212) (by show 14 < 66; decide) (by decide) (by dsimp only; rw [sx_s_e]; exact h16.symm) (lw_oiC (g := 14) (j := 424) (by show 14 < 66; decide) (by decide) (by dsimp only; rw [sx_s_e]; exact h17.symm) (lw_oiC (g := 14) (j := 636) (by show 14 < 66; decide) (by decide) (by dsimp only; rw [sx_s_e]; exact h18.symm) (lw_oiC (g := 14) (j := 4) (by show 14 < 66; decide) (by decide) (by dsimp only; rw [sx_s_e]; exact h19.symm) (lw_oiC (g := 14) (j := 216) (by show 14 < 66; decide) (by decide) (by dsimp only; rw [sx_s_e]; exact h20.symm) (lw_oiC (g := 14) (j := 428) (by show 14 < 66; decide) (by decide) (by dsimp only; rw [sx_s_e]; exact h21.symm) (lw_oiC (g := 14) (j := 640) (by show 14 < 66; decide) (by decide) (by dsimp only; rw [sx_s_e]; exact h22.symm) (lw_oiN))))))))))))) (fun q hq => by
    rw [List.mem_singleton.mp hq]
    refine ⟨⟨by show 65 < 66; decide, by show 0 ≤ 66; decide⟩, by dsimp only; rw [sx_c_e]; decide, ?_⟩
    dsimp only
    rw [sx_c_e]
    exact hn) (ly_oba (ly_obr hr (ly_ob hB)) (ly_oba (ly_ob1 (by rw [h11]; exact hb11)) (ly_oba (ly_obI (x := nt_I M (pl 31) 2) h12) (ly_oba (ly_ob1 (by rw [h13]; exact hb13)) (ly_oba (ly_obI (x := nt_I M (pl 4) 4) h14) (ly_oba (ly_obI (x := nt_I M (pl 14) 0) h15) (ly_oba (ly_obI (x := nt_I M (pl 14) 212) h16) (ly_oba (ly_obI (x := nt_I M (pl 14) 424) h17) (ly_oba (ly_obI (x := nt_I M (pl 14) 636) h18) (ly_oba (ly_obI (x := nt_I M (pl 14) 4) h19) (ly_oba (ly_obI (x := nt_I M (pl 14) 216) h20) (ly_oba (ly_obI (x := nt_I M (pl 14) 428) h21) (ly_obI (x := nt_I M (pl 14) 640) h22))))))))))))) ly_oc0
  obtain ⟨p, hp, r', h2, h3⟩ := lw_app (ko_wd_n_back2N X) rfl hd hon (vs := [.ref (pl 16), .int (nI 2)]) ⟨rfl, ⟨_, rfl, by rw [sx_c_e]; decide⟩, trivial⟩ k
  have hr' : ∀ s, s < 23 → r' s = r s := fun s hs => h3.2.2.2.2.2.1 s hs
  obtain ⟨ov, M'⟩ := o
  rw [List.mem_singleton.mp hp] at h2 h3
  cases ov with
  | none => exact h2.elim
  | some w =>
    obtain ⟨y, rfl, hy⟩ := h2
    have hy : y.toInt = (-1) + 0 := hy
    have e0 : (nt_I M' (pl 31) 1).toInt = 0 + (1 * r' 11 + (0)) := lw_rd (g := 31) (j := 1) h3.2.2.1 (List.mem_of_getElem? (i := 0) rfl) (by decide)
    have e1 : (nt_I M' (pl 31) 2).toInt = 0 + (1 * r' 12 + (0)) := lw_rd (g := 31) (j := 2) h3.2.2.1 (List.mem_of_getElem? (i := 1) rfl) (by decide)
    have e2 : (nt_I M' (pl 4) 0).toInt = 0 + (1 * r' 13 + (0)) := lw_rd (g := 4) (j := 0) h3.2.2.1 (List.mem_of_getElem? (i := 2) rfl) (by decide)
    have e3 : (nt_I M' (pl 4) 4).toInt = 0 + (1 * r' 14 + (0)) := lw_rd (g := 4) (j := 4) h3.2.2.1 (List.mem_of_getElem? (i := 3) rfl) (by decide)
    have e4 : (nt_I M' (pl 14) 0).toInt = 0 + (1 * r' 15 + (0)) := lw_rd (g := 14) (j := 0) h3.2.2.1 (List.mem_of_getElem? (i := 4) rfl) (by decide)
    have e5 : (nt_I M' (pl 14) 212).toInt = 0 + (1 * r' 16 + (0)) := lw_rd (g := 14) (j := 212) h3.2.2.1 (List.mem_of_getElem? (i := 5) rfl) (by decide)
    have e6 : (nt_I M' (pl 14) 424).toInt = 0 + (1 * r' 17 + (0)) := lw_rd (g := 14) (j := 424) h3.2.2.1 (List.mem_of_getElem? (i := 6) rfl) (by decide)
    have e7 : (nt_I M' (pl 14) 636).toInt = 0 + (1 * r' 18 + (0)) := lw_rd (g := 14) (j := 636) h3.2.2.1 (List.mem_of_getElem? (i := 7) rfl) (by decide)
    have e8 : (nt_I M' (pl 14) 4).toInt = 0 + (1 * r' 19 + (0)) := lw_rd (g := 14) (j := 4) h3.2.2.1 (List.mem_of_getElem? (i := 8) rfl) (by decide)
    have e9 : (nt_I M' (pl 14) 216).toInt = 0 + (1 * r' 20 + (0)) := lw_rd (g := 14) (j := 216) h3.2.2.1 (List.mem_of_getElem? (i := 9) rfl) (by decide)
    have e10 : (nt_I M' (pl 14) 428).toInt = 0 + (1 * r' 21 + (0)) := lw_rd (g := 14) (j := 428) h3.2.2.1 (List.mem_of_getElem? (i := 10) rfl) (by decide)
    have e11 : (nt_I M' (pl 14) 640).toInt = 0 + (1 * r' 22 + (0)) := lw_rd (g := 14) (j := 640) h3.2.2.1 (List.mem_of_getElem? (i := 11) rfl) (by decide)
    have g11 := hr' 11 (by omega)
    rw [h11] at g11
    have g12 := hr' 12 (by omega)
    rw [h12] at g12
    have g13 := hr' 13 (by omega)
    rw [h13] at g13
    have g14 := hr' 14 (by omega)
    rw [h14] at g14
    have g15 := hr' 15 (by omega)
    rw [h15] at g15
    have g16 := hr' 16 (by omega)
    rw [h16] at g16
    have g17 := hr' 17 (by omega)
    rw [h17] at g17
    have g18 := hr' 18 (by omega)
    rw [h18] at g18
    have g19 := hr' 19 (by omega)
    rw [h19] at g19
    have g20 := hr' 20 (by omega)
    rw [h20] at g20
    have g21 := hr' 21 (by omega)
    rw [h21] at g21
    have g22 := hr' 22 (by omega)
    rw [h22] at g22
    exact ⟨y, M', rfl, ⟨by omega, e0.trans (lw_s g11), e1.trans (lw_s g12), e2.trans (lw_s g13), e3.trans (lw_s g14), e4.trans (lw_s g15), e5.trans (lw_s g16), e6.trans (lw_s g17), e7.trans (lw_s g18), e8.trans (lw_s g19), e9.trans (lw_s g20), e10.trans (lw_s g21), e11.trans (lw_s g22)⟩⟩
theorem lwd_image2 {X : nt_X} {pl : Nat → Nat} {v : Nat → Int} {M : nt_M} {d : Nat} {o : Option Value × nt_M} (hd : 1 ≤ d) (hB : ly_B pl v M) (hb11 : (0 : Int) ≤ (nt_I M (pl 31) 1).toInt ∧ (nt_I M (pl 31) 1).toInt ≤ 1) (hb13 : (0 : Int) ≤ (nt_I M (pl 4) 0).toInt ∧ (nt_I M (pl 4) 0).toInt ≤ 4) (k : nt_ev X d 234 [.ref (pl 0), .int (nI 2)] M o) : ∃ (y : Int32) (M' : nt_M), o = (some (.int y), M') ∧ ((y.toInt = (nt_I M (pl 4) 4).toInt ∧ (nt_I M' (pl 31) 1).toInt = (nt_I M (pl 31) 1).toInt ∧ (nt_I M' (pl 31) 2).toInt = (nt_I M (pl 31) 2).toInt ∧ (nt_I M' (pl 4) 0).toInt = (nt_I M (pl 4) 0).toInt ∧ (nt_I M' (pl 4) 4).toInt = (nt_I M (pl 4) 4).toInt ∧ (nt_I M' (pl 14) 0).toInt = (nt_I M (pl 14) 0).toInt ∧ (nt_I M' (pl 14) 212).toInt = (nt_I M (pl 14) 212).toInt ∧ (nt_I M' (pl 14) 424).toInt = (nt_I M (pl 4) 0).toInt ∧ (nt_I M' (pl 14) 636).toInt = (nt_I M (pl 14) 636).toInt ∧ (nt_I M' (pl 14) 4).toInt = (nt_I M (pl 14) 4).toInt ∧ (nt_I M' (pl 14) 216).toInt = (nt_I M (pl 14) 216).toInt ∧ (nt_I M' (pl 14) 428).toInt = (nt_I M (pl 4) 4).toInt ∧ (nt_I M' (pl 14) 640).toInt = (nt_I M (pl 14) 640).toInt)) := by
  obtain ⟨r, hr, h11, h12, h13, h14, h15, h16, h17, h18, h19, h20, h21, h22⟩ : ∃ r : Nat → Int, (∀ s, s < 11 → r s = v s) ∧ r 11 = (nt_I M (pl 31) 1).toInt ∧ r 12 = (nt_I M (pl 31) 2).toInt ∧ r 13 = (nt_I M (pl 4) 0).toInt ∧ r 14 = (nt_I M (pl 4) 4).toInt ∧ r 15 = (nt_I M (pl 14) 0).toInt ∧ r 16 = (nt_I M (pl 14) 212).toInt ∧ r 17 = (nt_I M (pl 14) 424).toInt ∧ r 18 = (nt_I M (pl 14) 636).toInt ∧ r 19 = (nt_I M (pl 14) 4).toInt ∧ r 20 = (nt_I M (pl 14) 216).toInt ∧ r 21 = (nt_I M (pl 14) 428).toInt ∧ r 22 = (nt_I M (pl 14) 640).toInt := ⟨fun s => if s = 11 then (nt_I M (pl 31) 1).toInt else if s = 12 then (nt_I M (pl 31) 2).toInt else if s = 13 then (nt_I M (pl 4) 0).toInt else if s = 14 then (nt_I M (pl 4) 4).toInt else if s = 15 then (nt_I M (pl 14) 0).toInt else if s = 16 then (nt_I M (pl 14) 212).toInt else if s = 17 then (nt_I M (pl 14) 424).toInt else if s = 18 then (nt_I M (pl 14) 636).toInt else if s = 19 then (nt_I M (pl 14) 4).toInt else if s = 20 then (nt_I M (pl 14) 216).toInt else if s = 21 then (nt_I M (pl 14) 428).toInt else if s = 22 then (nt_I M (pl 14) 640).toInt else v s, fun s hs => by dsimp only; rw [if_neg (by omega), if_neg (by omega), if_neg (by omega), if_neg (by omega), if_neg (by omega), if_neg (by omega), if_neg (by omega), if_neg (by omega), if_neg (by omega), if_neg (by omega), if_neg (by omega), if_neg (by omega)], rfl, rfl, rfl, rfl, rfl, rfl, rfl, rfl, rfl, rfl, rfl, rfl⟩
  have hij := ly_ij (K := kk_wd_image2) rfl hB
  have hon := ly_app (K := kk_wd_image2) (ed := []) (ec := [((31, (1, [])), (0, [(11, 1)])), ((31, (2, [])), (0, [(12, 1)])), ((4, (0, [])), (0, [(13, 1)])), ((4, (4, [])), (0, [(14, 1)])), ((14, (0, [])), (0, [(15, 1)])), ((14, (212, [])), (0, [(16, 1)])), ((14, (424, [])), (0, [(17, 1)])), ((14, (636, [])), (0, [(18, 1)])), ((14, (4, [])), (0, [(19, 1)])), ((14, (216, [])), (0, [(20, 1)])), ((14, (428, [])), (0, [(21, 1)])), ((14, (640, [])), (0, [(22, 1)]))]) (er := []) rfl hB (fun _ _ => rfl) hr hij ly_nil (lw_oiC (g := 31) (j := 1) (by show 31 < 66; decide) (by decide) (by dsimp only; rw [sx_s_e]; exact h11.symm) (lw_oiC (g := 31) (j := 2) (by show 31 < 66; decide) (by decide) (by dsimp only; rw [sx_s_e]; exact h12.symm) (lw_oiC (g := 4) (j := 0) (by show 4 < 66; decide) (by decide) (by dsimp only; rw [sx_s_e]; exact h13.symm) (lw_oiC (g := 4) (j := 4) (by show 4 < 66; decide) (by decide) (by dsimp only; rw [sx_s_e]; exact h14.symm) (lw_oiC (g := 14) (j := 0) (by show 14 < 66; decide) (by decide) (by dsimp only; rw [sx_s_e]; exact h15.symm) (lw_oiC (g := 14) (j := 212) (by show 14 < 66; decide) (by decide) (by dsimp only; rw [sx_s_e]; exact h16.symm) (lw_oiC (g := 14) (j := 424) (by show 14 < 66; decide) (by decide) (by dsimp only; rw [sx_s_e]; exact h17.symm) (lw_oiC (g := 14) (j := 636) (by show 14 < 66; decide) (by decide) (by dsimp only; rw [sx_s_e]; exact h18.symm) (lw_oiC (g := 14) (j := 4) (by show 14 < 66; decide) (by decide) (by dsimp only; rw [sx_s_e]; exact h19.symm) (lw_oiC (g := 14) (j := 216) (by show 14 < 66; decide) (by decide) (by dsimp only; rw [sx_s_e]; exact h20.symm) (lw_oiC (g := 14) (j := 428) (by show 14 < 66; decide) (by decide) (by dsimp only; rw [sx_s_e]; exact h21.symm) (lw_oiC (g := 14) (j := 640) (by show 14 < 66; decide) (by decide) (by dsimp only; rw [sx_s_e]; exact h22.symm) (lw_oiN))))))))))))) (fun q hq => by cases hq) (ly_oba (ly_obr hr (ly_ob hB)) (ly_oba (ly_ob1 (by rw [h11]; exact hb11)) (ly_oba (ly_obI (x := nt_I M (pl 31) 2) h12) (ly_oba (ly_ob1 (by rw [h13]; exact hb13)) (ly_oba (ly_obI (x := nt_I M (pl 4) 4) h14) (ly_oba (ly_obI (x := nt_I M (pl 14) 0) h15) (ly_oba (ly_obI (x := nt_I M (pl 14) 212) h16) (ly_oba (ly_obI (x := nt_I M (pl 14) 424) h17) (ly_oba (ly_obI (x := nt_I M (pl 14) 636) h18) (ly_oba (ly_obI (x := nt_I M (pl 14) 4) h19) (ly_oba (ly_obI (x := nt_I M (pl 14) 216) h20) (ly_oba (ly_obI (x := nt_I M (pl 14) 428) h21) (ly_obI (x := nt_I M (pl 14) 640) h22))))))))))))) ly_oc0
  obtain ⟨p, hp, r', h2, h3⟩ := lw_app (ko_wd_image2 X) rfl hd hon (vs := [.ref (pl 0), .int (nI 2)]) ⟨rfl, ⟨_, rfl, by rw [sx_c_e]; decide⟩, trivial⟩ k
  have hr' : ∀ s, s < 23 → r' s = r s := fun s hs => h3.2.2.2.2.2.1 s hs
  obtain ⟨ov, M'⟩ := o
  rw [List.mem_singleton.mp hp] at h2 h3
  cases ov with
  | none => exact h2.elim
  | some w =>
    obtain ⟨y, rfl, hy⟩ := h2
    have hy : y.toInt = 0 + (1 * r' 14 + (0)) := hy
    have e0 : (nt_I M' (pl 31) 1).toInt = 0 + (1 * r' 11 + (0)) := lw_rd (g := 31) (j := 1) h3.2.2.1 (List.mem_of_getElem? (i := 0) rfl) (by decide)
    have e1 : (nt_I M' (pl 31) 2).toInt = 0 + (1 * r' 12 + (0)) := lw_rd (g := 31) (j := 2) h3.2.2.1 (List.mem_of_getElem? (i := 1) rfl) (by decide)
    have e2 : (nt_I M' (pl 4) 0).toInt = 0 + (1 * r' 13 + (0)) := lw_rd (g := 4) (j := 0) h3.2.2.1 (List.mem_of_getElem? (i := 2) rfl) (by decide)
    have e3 : (nt_I M' (pl 4) 4).toInt = 0 + (1 * r' 14 + (0)) := lw_rd (g := 4) (j := 4) h3.2.2.1 (List.mem_of_getElem? (i := 3) rfl) (by decide)
    have e4 : (nt_I M' (pl 14) 0).toInt = 0 + (1 * r' 15 + (0)) := lw_rd (g := 14) (j := 0) h3.2.2.1 (List.mem_of_getElem? (i := 4) rfl) (by decide)
    have e5 : (nt_I M' (pl 14) 212).toInt = 0 + (1 * r' 16 + (0)) := lw_rd (g := 14) (j := 212) h3.2.2.1 (List.mem_of_getElem? (i := 5) rfl) (by decide)
    have e6 : (nt_I M' (pl 14) 424).toInt = 0 + (1 * r' 13 + (0)) := lw_rd (g := 14) (j := 424) h3.2.2.1 (List.mem_of_getElem? (i := 6) rfl) (by decide)
    have e7 : (nt_I M' (pl 14) 636).toInt = 0 + (1 * r' 18 + (0)) := lw_rd (g := 14) (j := 636) h3.2.2.1 (List.mem_of_getElem? (i := 7) rfl) (by decide)
    have e8 : (nt_I M' (pl 14) 4).toInt = 0 + (1 * r' 19 + (0)) := lw_rd (g := 14) (j := 4) h3.2.2.1 (List.mem_of_getElem? (i := 8) rfl) (by decide)
    have e9 : (nt_I M' (pl 14) 216).toInt = 0 + (1 * r' 20 + (0)) := lw_rd (g := 14) (j := 216) h3.2.2.1 (List.mem_of_getElem? (i := 9) rfl) (by decide)
    have e10 : (nt_I M' (pl 14) 428).toInt = 0 + (1 * r' 14 + (0)) := lw_rd (g := 14) (j := 428) h3.2.2.1 (List.mem_of_getElem? (i := 10) rfl) (by decide)
    have e11 : (nt_I M' (pl 14) 640).toInt = 0 + (1 * r' 22 + (0)) := lw_rd (g := 14) (j := 640) h3.2.2.1 (List.mem_of_getElem? (i := 11) rfl) (by decide)
    have g11 := hr' 11 (by omega)
    rw [h11] at g11
    have g12 := hr' 12 (by omega)
    rw [h12] at g12
    have g13 := hr' 13 (by omega)
    rw [h13] at g13
    have g14 := hr' 14 (by omega)
    rw [h14] at g14
    have g15 := hr' 15 (by omega)
    rw [h15] at g15
    have g16 := hr' 16 (by omega)
    rw [h16] at g16
    have g18 := hr' 18 (by omega)
    rw [h18] at g18
    have g19 := hr' 19 (by omega)
    rw [h19] at g19
    have g20 := hr' 20 (by omega)
    rw [h20] at g20
    have g22 := hr' 22 (by omega)
    rw [h22] at g22
    exact ⟨y, M', rfl, ⟨by omega, e0.trans (lw_s g11), e1.trans (lw_s g12), e2.trans (lw_s g13), e3.trans (lw_s g14), e4.trans (lw_s g15), e5.trans (lw_s g16), e6.trans (lw_s g13), e7.trans (lw_s g18), e8.trans (lw_s g19), e9.trans (lw_s g20), e10.trans (lw_s g14), e11.trans (lw_s g22)⟩⟩
theorem lwd_back2 {X : nt_X} {pl : Nat → Nat} {v : Nat → Int} {M : nt_M} {d : Nat} {o : Option Value × nt_M} (hd : 1 ≤ d) (hB : ly_B pl v M) (hb11 : (0 : Int) ≤ (nt_I M (pl 31) 1).toInt ∧ (nt_I M (pl 31) 1).toInt ≤ 1) (hb13 : (0 : Int) ≤ (nt_I M (pl 4) 0).toInt ∧ (nt_I M (pl 4) 0).toInt ≤ 4) (hv5 : v 5 = 1) (k : nt_ev X d 235 [.ref (pl 0), .int (nI 2)] M o) : ∃ (y : Int32) (M' : nt_M), o = (some (.int y), M') ∧ ((y.toInt = (nt_I M (pl 14) 428).toInt ∧ (nt_I M' (pl 31) 1).toInt = (nt_I M (pl 31) 1).toInt ∧ (nt_I M' (pl 31) 2).toInt = (nt_I M (pl 31) 2).toInt ∧ (nt_I M' (pl 4) 0).toInt = (nt_I M (pl 14) 424).toInt ∧ (nt_I M' (pl 4) 4).toInt = (nt_I M (pl 14) 428).toInt ∧ (nt_I M' (pl 14) 0).toInt = (nt_I M (pl 14) 0).toInt ∧ (nt_I M' (pl 14) 212).toInt = (nt_I M (pl 14) 212).toInt ∧ (nt_I M' (pl 14) 424).toInt = (nt_I M (pl 14) 424).toInt ∧ (nt_I M' (pl 14) 636).toInt = (nt_I M (pl 14) 636).toInt ∧ (nt_I M' (pl 14) 4).toInt = (nt_I M (pl 14) 4).toInt ∧ (nt_I M' (pl 14) 216).toInt = (nt_I M (pl 14) 216).toInt ∧ (nt_I M' (pl 14) 428).toInt = (nt_I M (pl 14) 428).toInt ∧ (nt_I M' (pl 14) 640).toInt = (nt_I M (pl 14) 640).toInt)) := by
  obtain ⟨r, hr, h11, h12, h13, h14, h15, h16, h17, h18, h19, h20, h21, h22⟩ : ∃ r : Nat → Int, (∀ s, s < 11 → r s = v s) ∧ r 11 = (nt_I M (pl 31) 1).toInt ∧ r 12 = (nt_I M (pl 31) 2).toInt ∧ r 13 = (nt_I M (pl 4) 0).toInt ∧ r 14 = (nt_I M (pl 4) 4).toInt ∧ r 15 = (nt_I M (pl 14) 0).toInt ∧ r 16 = (nt_I M (pl 14) 212).toInt ∧ r 17 = (nt_I M (pl 14) 424).toInt ∧ r 18 = (nt_I M (pl 14) 636).toInt ∧ r 19 = (nt_I M (pl 14) 4).toInt ∧ r 20 = (nt_I M (pl 14) 216).toInt ∧ r 21 = (nt_I M (pl 14) 428).toInt ∧ r 22 = (nt_I M (pl 14) 640).toInt := ⟨fun s => if s = 11 then (nt_I M (pl 31) 1).toInt else if s = 12 then (nt_I M (pl 31) 2).toInt else if s = 13 then (nt_I M (pl 4) 0).toInt else if s = 14 then (nt_I M (pl 4) 4).toInt else if s = 15 then (nt_I M (pl 14) 0).toInt else if s = 16 then (nt_I M (pl 14) 212).toInt else if s = 17 then (nt_I M (pl 14) 424).toInt else if s = 18 then (nt_I M (pl 14) 636).toInt else if s = 19 then (nt_I M (pl 14) 4).toInt else if s = 20 then (nt_I M (pl 14) 216).toInt else if s = 21 then (nt_I M (pl 14) 428).toInt else if s = 22 then (nt_I M (pl 14) 640).toInt else v s, fun s hs => by dsimp only; rw [if_neg (by omega), if_neg (by omega), if_neg (by omega), if_neg (by omega), if_neg (by omega), if_neg (by omega), if_neg (by omega), if_neg (by omega), if_neg (by omega), if_neg (by omega), if_neg (by omega), if_neg (by omega)], rfl, rfl, rfl, rfl, rfl, rfl, rfl, rfl, rfl, rfl, rfl, rfl⟩
  have hij := ly_ij (K := kk_wd_back2) rfl hB
  have hon := ly_app (K := kk_wd_back2) (ed := []) (ec := [((31, (1, [])), (0, [(11, 1)])), ((31, (2, [])), (0, [(12, 1)])), ((4, (0, [])), (0, [(13, 1)])), ((4, (4, [])), (0, [(14, 1)])), ((14, (0, [])), (0, [(15, 1)])), ((14, (212, [])), (0, [(16, 1)])), ((14, (424, [])), (0, [(17, 1)])), ((14, (636, [])), (0, [(18, 1)])), ((14, (4, [])), (0, [(19, 1)])), ((14, (216, [])), (0, [(20, 1)])), ((14, (428, [])), (0, [(21, 1)])), ((14, (640, [])), (0, [(22, 1)]))]) (er := []) rfl hB (fun _ _ => rfl) hr hij ly_nil (lw_oiC (g := 31) (j := 1) (by show 31 < 66; decide) (by decide) (by dsimp only; rw [sx_s_e]; exact h11.symm) (lw_oiC (g := 31) (j := 2) (by show 31 < 66; decide) (by decide) (by dsimp only; rw [sx_s_e]; exact h12.symm) (lw_oiC (g := 4) (j := 0) (by show 4 < 66; decide) (by decide) (by dsimp only; rw [sx_s_e]; exact h13.symm) (lw_oiC (g := 4) (j := 4) (by show 4 < 66; decide) (by decide) (by dsimp only; rw [sx_s_e]; exact h14.symm) (lw_oiC (g := 14) (j := 0) (by show 14 < 66; decide) (by decide) (by dsimp only; rw [sx_s_e]; exact h15.symm) (lw_oiC (g := 14) (j := 212) (by show 14 < 66; decide) (by decide) (by dsimp only; rw [sx_s_e]; exact h16.symm) (lw_oiC (g := 14) (j := 424) (by show 14 < 66; decide) (by decide) (by dsimp only; rw [sx_s_e]; exact h17.symm) (lw_oiC (g := 14) (j := 636) (by show 14 < 66; decide) (by decide) (by dsimp only; rw [sx_s_e]; exact h18.symm) (lw_oiC (g := 14) (j := 4) (by show 14 < 66; decide) (by decide) (by dsimp only; rw [sx_s_e]; exact h19.symm) (lw_oiC (g := 14) (j := 216) (by show 14 < 66; decide) (by decide) (by dsimp only; rw [sx_s_e]; exact h20.symm) (lw_oiC (g := 14) (j := 428) (by show 14 < 66; decide) (by decide) (by dsimp only; rw [sx_s_e]; exact h21.symm) (lw_oiC (g := 14) (j := 640) (by show 14 < 66; decide) (by decide) (by dsimp only; rw [sx_s_e]; exact h22.symm) (lw_oiN))))))))))))) (fun q hq => by cases hq) (ly_oba (ly_oba (ly_ob1 (by rw [hr 5 (by omega), hv5]; omega)) (ly_obr hr (ly_ob hB))) (ly_oba (ly_ob1 (by rw [h11]; exact hb11)) (ly_oba (ly_obI (x := nt_I M (pl 31) 2) h12) (ly_oba (ly_ob1 (by rw [h13]; exact hb13)) (ly_oba (ly_obI (x := nt_I M (pl 4) 4) h14) (ly_oba (ly_obI (x := nt_I M (pl 14) 0) h15) (ly_oba (ly_obI (x := nt_I M (pl 14) 212) h16) (ly_oba (ly_obI (x := nt_I M (pl 14) 424) h17) (ly_oba (ly_obI (x := nt_I M (pl 14) 636) h18) (ly_oba (ly_obI (x := nt_I M (pl 14) 4) h19) (ly_oba (ly_obI (x := nt_I M (pl 14) 216) h20) (ly_oba (ly_obI (x := nt_I M (pl 14) 428) h21) (ly_obI (x := nt_I M (pl 14) 640) h22))))))))))))) ly_oc0
  obtain ⟨p, hp, r', h2, h3⟩ := lw_app (ko_wd_back2 X) rfl hd hon (vs := [.ref (pl 0), .int (nI 2)]) ⟨rfl, ⟨_, rfl, by rw [sx_c_e]; decide⟩, trivial⟩ k
  have hr' : ∀ s, s < 23 → r' s = r s := fun s hs => h3.2.2.2.2.2.1 s hs
  obtain ⟨ov, M'⟩ := o
  rw [List.mem_singleton.mp hp] at h2 h3
  cases ov with
  | none => exact h2.elim
  | some w =>
    obtain ⟨y, rfl, hy⟩ := h2
    have hy : y.toInt = 0 + (1 * r' 21 + (0)) := hy
    have e0 : (nt_I M' (pl 31) 1).toInt = 0 + (1 * r' 11 + (0)) := lw_rd (g := 31) (j := 1) h3.2.2.1 (List.mem_of_getElem? (i := 0) rfl) (by decide)
    have e1 : (nt_I M' (pl 31) 2).toInt = 0 + (1 * r' 12 + (0)) := lw_rd (g := 31) (j := 2) h3.2.2.1 (List.mem_of_getElem? (i := 1) rfl) (by decide)
    have e2 : (nt_I M' (pl 4) 0).toInt = 0 + (1 * r' 17 + (0)) := lw_rd (g := 4) (j := 0) h3.2.2.1 (List.mem_of_getElem? (i := 2) rfl) (by decide)
    have e3 : (nt_I M' (pl 4) 4).toInt = 0 + (1 * r' 21 + (0)) := lw_rd (g := 4) (j := 4) h3.2.2.1 (List.mem_of_getElem? (i := 3) rfl) (by decide)
    have e4 : (nt_I M' (pl 14) 0).toInt = 0 + (1 * r' 15 + (0)) := lw_rd (g := 14) (j := 0) h3.2.2.1 (List.mem_of_getElem? (i := 4) rfl) (by decide)
    have e5 : (nt_I M' (pl 14) 212).toInt = 0 + (1 * r' 16 + (0)) := lw_rd (g := 14) (j := 212) h3.2.2.1 (List.mem_of_getElem? (i := 5) rfl) (by decide)
    have e6 : (nt_I M' (pl 14) 424).toInt = 0 + (1 * r' 17 + (0)) := lw_rd (g := 14) (j := 424) h3.2.2.1 (List.mem_of_getElem? (i := 6) rfl) (by decide)
    have e7 : (nt_I M' (pl 14) 636).toInt = 0 + (1 * r' 18 + (0)) := lw_rd (g := 14) (j := 636) h3.2.2.1 (List.mem_of_getElem? (i := 7) rfl) (by decide)
    have e8 : (nt_I M' (pl 14) 4).toInt = 0 + (1 * r' 19 + (0)) := lw_rd (g := 14) (j := 4) h3.2.2.1 (List.mem_of_getElem? (i := 8) rfl) (by decide)
    have e9 : (nt_I M' (pl 14) 216).toInt = 0 + (1 * r' 20 + (0)) := lw_rd (g := 14) (j := 216) h3.2.2.1 (List.mem_of_getElem? (i := 9) rfl) (by decide)
    have e10 : (nt_I M' (pl 14) 428).toInt = 0 + (1 * r' 21 + (0)) := lw_rd (g := 14) (j := 428) h3.2.2.1 (List.mem_of_getElem? (i := 10) rfl) (by decide)
    have e11 : (nt_I M' (pl 14) 640).toInt = 0 + (1 * r' 22 + (0)) := lw_rd (g := 14) (j := 640) h3.2.2.1 (List.mem_of_getElem? (i := 11) rfl) (by decide)
    have g11 := hr' 11 (by omega)
    rw [h11] at g11
    have g12 := hr' 12 (by omega)
    rw [h12] at g12
    have g15 := hr' 15 (by omega)
    rw [h15] at g15
    have g16 := hr' 16 (by omega)
    rw [h16] at g16
    have g17 := hr' 17 (by omega)
    rw [h17] at g17
    have g18 := hr' 18 (by omega)
    rw [h18] at g18
    have g19 := hr' 19 (by omega)
    rw [h19] at g19
    have g20 := hr' 20 (by omega)
    rw [h20] at g20
    have g21 := hr' 21 (by omega)
    rw [h21] at g21
    have g22 := hr' 22 (by omega)
    rw [h22] at g22
    exact ⟨y, M', rfl, ⟨by omega, e0.trans (lw_s g11), e1.trans (lw_s g12), e2.trans (lw_s g17), e3.trans (lw_s g21), e4.trans (lw_s g15), e5.trans (lw_s g16), e6.trans (lw_s g17), e7.trans (lw_s g18), e8.trans (lw_s g19), e9.trans (lw_s g20), e10.trans (lw_s g21), e11.trans (lw_s g22)⟩⟩
theorem lwd_back2N {X : nt_X} {pl : Nat → Nat} {v : Nat → Int} {M : nt_M} {d : Nat} {o : Option Value × nt_M} (hd : 1 ≤ d) (hB : ly_B pl v M) (hb11 : (0 : Int) ≤ (nt_I M (pl 31) 1).toInt ∧ (nt_I M (pl 31) 1).toInt ≤ 1) (hb13 : (0 : Int) ≤ (nt_I M (pl 4) 0).toInt ∧ (nt_I M (pl 4) 0).toInt ≤ 4) (hv5 : v 5 = 0) (k : nt_ev X d 235 [.ref (pl 0), .int (nI 2)] M o) : ∃ (y : Int32) (M' : nt_M), o = (some (.int y), M') ∧ ((y.toInt = -1 ∧ (nt_I M' (pl 31) 1).toInt = (nt_I M (pl 31) 1).toInt ∧ (nt_I M' (pl 31) 2).toInt = (nt_I M (pl 31) 2).toInt ∧ (nt_I M' (pl 4) 0).toInt = (nt_I M (pl 4) 0).toInt ∧ (nt_I M' (pl 4) 4).toInt = (nt_I M (pl 4) 4).toInt ∧ (nt_I M' (pl 14) 0).toInt = (nt_I M (pl 14) 0).toInt ∧ (nt_I M' (pl 14) 212).toInt = (nt_I M (pl 14) 212).toInt ∧ (nt_I M' (pl 14) 424).toInt = (nt_I M (pl 14) 424).toInt ∧ (nt_I M' (pl 14) 636).toInt = (nt_I M (pl 14) 636).toInt ∧ (nt_I M' (pl 14) 4).toInt = (nt_I M (pl 14) 4).toInt ∧ (nt_I M' (pl 14) 216).toInt = (nt_I M (pl 14) 216).toInt ∧ (nt_I M' (pl 14) 428).toInt = (nt_I M (pl 14) 428).toInt ∧ (nt_I M' (pl 14) 640).toInt = (nt_I M (pl 14) 640).toInt)) := by
  obtain ⟨r, hr, h11, h12, h13, h14, h15, h16, h17, h18, h19, h20, h21, h22⟩ : ∃ r : Nat → Int, (∀ s, s < 11 → r s = v s) ∧ r 11 = (nt_I M (pl 31) 1).toInt ∧ r 12 = (nt_I M (pl 31) 2).toInt ∧ r 13 = (nt_I M (pl 4) 0).toInt ∧ r 14 = (nt_I M (pl 4) 4).toInt ∧ r 15 = (nt_I M (pl 14) 0).toInt ∧ r 16 = (nt_I M (pl 14) 212).toInt ∧ r 17 = (nt_I M (pl 14) 424).toInt ∧ r 18 = (nt_I M (pl 14) 636).toInt ∧ r 19 = (nt_I M (pl 14) 4).toInt ∧ r 20 = (nt_I M (pl 14) 216).toInt ∧ r 21 = (nt_I M (pl 14) 428).toInt ∧ r 22 = (nt_I M (pl 14) 640).toInt := ⟨fun s => if s = 11 then (nt_I M (pl 31) 1).toInt else if s = 12 then (nt_I M (pl 31) 2).toInt else if s = 13 then (nt_I M (pl 4) 0).toInt else if s = 14 then (nt_I M (pl 4) 4).toInt else if s = 15 then (nt_I M (pl 14) 0).toInt else if s = 16 then (nt_I M (pl 14) 212).toInt else if s = 17 then (nt_I M (pl 14) 424).toInt else if s = 18 then (nt_I M (pl 14) 636).toInt else if s = 19 then (nt_I M (pl 14) 4).toInt else if s = 20 then (nt_I M (pl 14) 216).toInt else if s = 21 then (nt_I M (pl 14) 428).toInt else if s = 22 then (nt_I M (pl 14) 640).toInt else v s, fun s hs => by dsimp only; rw [if_neg (by omega), if_neg (by omega), if_neg (by omega), if_neg (by omega), if_neg (by omega), if_neg (by omega), if_neg (by omega), if_neg (by omega), if_neg (by omega), if_neg (by omega), if_neg (by omega), if_neg (by omega)], rfl, rfl, rfl, rfl, rfl, rfl, rfl, rfl, rfl, rfl, rfl, rfl⟩
  have hij := ly_ij (K := kk_wd_back2N) rfl hB
  have hon := ly_app (K := kk_wd_back2N) (ed := []) (ec := [((31, (1, [])), (0, [(11, 1)])), ((31, (2, [])), (0, [(12, 1)])), ((4, (0, [])), (0, [(13, 1)])), ((4, (4, [])), (0, [(14, 1)])), ((14, (0, [])), (0, [(15, 1)])), ((14, (212, [])), (0, [(16, 1)])), ((14, (424, [])), (0, [(17, 1)])), ((14, (636, [])), (0, [(18, 1)])), ((14, (4, [])), (0, [(19, 1)])), ((14, (216, [])), (0, [(20, 1)])), ((14, (428, [])), (0, [(21, 1)])), ((14, (640, [])), (0, [(22, 1)]))]) (er := []) rfl hB (fun _ _ => rfl) hr hij ly_nil (lw_oiC (g := 31) (j := 1) (by show 31 < 66; decide) (by decide) (by dsimp only; rw [sx_s_e]; exact h11.symm) (lw_oiC (g := 31) (j := 2) (by show 31 < 66; decide) (by decide) (by dsimp only; rw [sx_s_e]; exact h12.symm) (lw_oiC (g := 4) (j := 0) (by show 4 < 66; decide) (by decide) (by dsimp only; rw [sx_s_e]; exact h13.symm) (lw_oiC (g := 4) (j := 4) (by show 4 < 66; decide) (by decide) (by dsimp only; rw [sx_s_e]; exact h14.symm) (lw_oiC (g := 14) (j := 0) (by show 14 < 66; decide) (by decide) (by dsimp only; rw [sx_s_e]; exact h15.symm) (lw_oiC (g := 14) (j := 212) (by show 14 < 66; decide) (by decide) (by dsimp only; rw [sx_s_e]; exact h16.symm) (lw_oiC (g := 14) (j := 424) (by show 14 < 66; decide) (by decide) (by dsimp only; rw [sx_s_e]; exact h17.symm) (lw_oiC (g := 14) (j := 636) (by show 14 < 66; decide) (by decide) (by dsimp only; rw [sx_s_e]; exact h18.symm) (lw_oiC (g := 14) (j := 4) (by show 14 < 66; decide) (by decide) (by dsimp only; rw [sx_s_e]; exact h19.symm) (lw_oiC (g := 14) (j := 216) (by show 14 < 66; decide) (by decide) (by dsimp only; rw [sx_s_e]; exact h20.symm) (lw_oiC (g := 14) (j := 428) (by show 14 < 66; decide) (by decide) (by dsimp only; rw [sx_s_e]; exact h21.symm) (lw_oiC (g := 14) (j := 640) (by show 14 < 66; decide) (by decide) (by dsimp only; rw [sx_s_e]; exact h22.symm) (lw_oiN))))))))))))) (fun q hq => by cases hq) (ly_oba (ly_oba (ly_ob1 (by rw [hr 5 (by omega), hv5]; omega)) (ly_obr hr (ly_ob hB))) (ly_oba (ly_ob1 (by rw [h11]; exact hb11)) (ly_oba (ly_obI (x := nt_I M (pl 31) 2) h12) (ly_oba (ly_ob1 (by rw [h13]; exact hb13)) (ly_oba (ly_obI (x := nt_I M (pl 4) 4) h14) (ly_oba (ly_obI (x := nt_I M (pl 14) 0) h15) (ly_oba (ly_obI (x := nt_I M (pl 14) 212) h16) (ly_oba (ly_obI (x := nt_I M (pl 14) 424) h17) (ly_oba (ly_obI (x := nt_I M (pl 14) 636) h18) (ly_oba (ly_obI (x := nt_I M (pl 14) 4) h19) (ly_oba (ly_obI (x := nt_I M (pl 14) 216) h20) (ly_oba (ly_obI (x := nt_I M (pl 14) 428) h21) (ly_obI (x := nt_I M (pl 14) 640) h22))))))))))))) ly_oc0
  obtain ⟨p, hp, r', h2, h3⟩ := lw_app (ko_wd_back2N X) rfl hd hon (vs := [.ref (pl 0), .int (nI 2)]) ⟨rfl, ⟨_, rfl, by rw [sx_c_e]; decide⟩, trivial⟩ k
  have hr' : ∀ s, s < 23 → r' s = r s := fun s hs => h3.2.2.2.2.2.1 s hs
  obtain ⟨ov, M'⟩ := o
  rw [List.mem_singleton.mp hp] at h2 h3
  cases ov with
  | none => exact h2.elim
  | some w =>
    obtain ⟨y, rfl, hy⟩ := h2
    have hy : y.toInt = (-1) + 0 := hy
    have e0 : (nt_I M' (pl 31) 1).toInt = 0 + (1 * r' 11 + (0)) := lw_rd (g := 31) (j := 1) h3.2.2.1 (List.mem_of_getElem? (i := 0) rfl) (by decide)
    have e1 : (nt_I M' (pl 31) 2).toInt = 0 + (1 * r' 12 + (0)) := lw_rd (g := 31) (j := 2) h3.2.2.1 (List.mem_of_getElem? (i := 1) rfl) (by decide)
    have e2 : (nt_I M' (pl 4) 0).toInt = 0 + (1 * r' 13 + (0)) := lw_rd (g := 4) (j := 0) h3.2.2.1 (List.mem_of_getElem? (i := 2) rfl) (by decide)
    have e3 : (nt_I M' (pl 4) 4).toInt = 0 + (1 * r' 14 + (0)) := lw_rd (g := 4) (j := 4) h3.2.2.1 (List.mem_of_getElem? (i := 3) rfl) (by decide)
    have e4 : (nt_I M' (pl 14) 0).toInt = 0 + (1 * r' 15 + (0)) := lw_rd (g := 14) (j := 0) h3.2.2.1 (List.mem_of_getElem? (i := 4) rfl) (by decide)
    have e5 : (nt_I M' (pl 14) 212).toInt = 0 + (1 * r' 16 + (0)) := lw_rd (g := 14) (j := 212) h3.2.2.1 (List.mem_of_getElem? (i := 5) rfl) (by decide)
    have e6 : (nt_I M' (pl 14) 424).toInt = 0 + (1 * r' 17 + (0)) := lw_rd (g := 14) (j := 424) h3.2.2.1 (List.mem_of_getElem? (i := 6) rfl) (by decide)
    have e7 : (nt_I M' (pl 14) 636).toInt = 0 + (1 * r' 18 + (0)) := lw_rd (g := 14) (j := 636) h3.2.2.1 (List.mem_of_getElem? (i := 7) rfl) (by decide)
    have e8 : (nt_I M' (pl 14) 4).toInt = 0 + (1 * r' 19 + (0)) := lw_rd (g := 14) (j := 4) h3.2.2.1 (List.mem_of_getElem? (i := 8) rfl) (by decide)
    have e9 : (nt_I M' (pl 14) 216).toInt = 0 + (1 * r' 20 + (0)) := lw_rd (g := 14) (j := 216) h3.2.2.1 (List.mem_of_getElem? (i := 9) rfl) (by decide)
    have e10 : (nt_I M' (pl 14) 428).toInt = 0 + (1 * r' 21 + (0)) := lw_rd (g := 14) (j := 428) h3.2.2.1 (List.mem_of_getElem? (i := 10) rfl) (by decide)
    have e11 : (nt_I M' (pl 14) 640).toInt = 0 + (1 * r' 22 + (0)) := lw_rd (g := 14) (j := 640) h3.2.2.1 (List.mem_of_getElem? (i := 11) rfl) (by decide)
    have g11 := hr' 11 (by omega)
    rw [h11] at g11
    have g12 := hr' 12 (by omega)
    rw [h12] at g12
    have g13 := hr' 13 (by omega)
    rw [h13] at g13
    have g14 := hr' 14 (by omega)
    rw [h14] at g14
    have g15 := hr' 15 (by omega)
    rw [h15] at g15
    have g16 := hr' 16 (by omega)
    rw [h16] at g16
    have g17 := hr' 17 (by omega)
    rw [h17] at g17
    have g18 := hr' 18 (by omega)
    rw [h18] at g18
    have g19 := hr' 19 (by omega)
    rw [h19] at g19
    have g20 := hr' 20 (by omega)
    rw [h20] at g20
    have g21 := hr' 21 (by omega)
    rw [h21] at g21
    have g22 := hr' 22 (by omega)
    rw [h22] at g22
    exact ⟨y, M', rfl, ⟨by omega, e0.trans (lw_s g11), e1.trans (lw_s g12), e2.trans (lw_s g13), e3.trans (lw_s g14), e4.trans (lw_s g15), e5.trans (lw_s g16), e6.trans (lw_s g17), e7.trans (lw_s g18), e8.trans (lw_s g19), e9.trans (lw_s g20), e10.trans (lw_s g21), e11.trans (lw_s g22)⟩⟩
theorem lwd_n_image3 {X : nt_X} {pl : Nat → Nat} {v : Nat → Int} {M : nt_M} {d a : Nat} {o : Option Value × nt_M} (hd : 3 ≤ d) (hB : ly_B pl v M) {x : Int} (p1 : ∀ g, g < 66 → pl g < 66) (c1 : nt_R M (pl 65) 3 = some a) (c3 : 66 ≤ a) (c6 : ly_im a x M) (hb11 : (0 : Int) ≤ (nt_I M (pl 31) 1).toInt ∧ (nt_I M (pl 31) 1).toInt ≤ 1) (hb13 : (0 : Int) ≤ (nt_I M (pl 4) 0).toInt ∧ (nt_I M (pl 4) 0).toInt ≤ 4) (hb24 : (0 : Int) ≤ (nt_I M (a + 0) 1).toInt ∧ (nt_I M (a + 0) 1).toInt ≤ 1) (k : nt_ev X d 127 [.ref (pl 16), .int (nI 3)] M o) : ∃ (y : Int32) (M' : nt_M), o = (some (.int y), M') ∧ ((y.toInt = (nt_I M (pl 31) 2).toInt ∧ (nt_I M' (pl 31) 1).toInt = (nt_I M (pl 31) 1).toInt ∧ (nt_I M' (pl 31) 2).toInt = (nt_I M (pl 31) 2).toInt ∧ (nt_I M' (pl 4) 0).toInt = (nt_I M (pl 4) 0).toInt ∧ (nt_I M' (pl 4) 4).toInt = (nt_I M (pl 4) 4).toInt ∧ (nt_I M' (pl 14) 0).toInt = (nt_I M (pl 14) 0).toInt ∧ (nt_I M' (pl 14) 212).toInt = (nt_I M (pl 14) 212).toInt ∧ (nt_I M' (pl 14) 424).toInt = (nt_I M (pl 14) 424).toInt ∧ (nt_I M' (pl 14) 636).toInt = (nt_I M (pl 14) 636).toInt ∧ (nt_I M' (pl 14) 4).toInt = (nt_I M (pl 14) 4).toInt ∧ (nt_I M' (pl 14) 216).toInt = (nt_I M (pl 14) 216).toInt ∧ (nt_I M' (pl 14) 428).toInt = (nt_I M (pl 14) 428).toInt ∧ (nt_I M' (pl 14) 640).toInt = (nt_I M (pl 14) 640).toInt ∧ (nt_I M' (a + 0) 1).toInt = (nt_I M (pl 31) 1).toInt ∧ (nt_I M' (a + 0) 2).toInt = (nt_I M (pl 31) 2).toInt)) := by
  obtain ⟨r, hr, h11, h12, h13, h14, h15, h16, h17, h18, h19, h20, h21, h22, h23, h24, h25⟩ : ∃ r : Nat → Int, (∀ s, s < 11 → r s = v s) ∧ r 11 = (nt_I M (pl 31) 1).toInt ∧ r 12 = (nt_I M (pl 31) 2).toInt ∧ r 13 = (nt_I M (pl 4) 0).toInt ∧ r 14 = (nt_I M (pl 4) 4).toInt ∧ r 15 = (nt_I M (pl 14) 0).toInt ∧ r 16 = (nt_I M (pl 14) 212).toInt ∧ r 17 = (nt_I M (pl 14) 424).toInt ∧ r 18 = (nt_I M (pl 14) 636).toInt ∧ r 19 = (nt_I M (pl 14) 4).toInt ∧ r 20 = (nt_I M (pl 14) 216).toInt ∧ r 21 = (nt_I M (pl 14) 428).toInt ∧ r 22 = (nt_I M (pl 14) 640).toInt ∧ r 23 = (nt_I M (a + 0) 6).toInt ∧ r 24 = (nt_I M (a + 0) 1).toInt ∧ r 25 = (nt_I M (a + 0) 2).toInt := ⟨fun s => if s = 11 then (nt_I M (pl 31) 1).toInt else if s = 12 then (nt_I M (pl 31) 2).toInt else if s = 13 then (nt_I M (pl 4) 0).toInt else if s = 14 then (nt_I M (pl 4) 4).toInt else if s = 15 then (nt_I M (pl 14) 0).toInt else if s = 16 then (nt_I M (pl 14) 212).toInt else if s = 17 then (nt_I M (pl 14) 424).toInt else if s = 18 then (nt_I M (pl 14) 636).toInt else if s = 19 then (nt_I M (pl 14) 4).toInt else if s = 20 then (nt_I M (pl 14) 216).toInt else if s = 21 then (nt_I M (pl 14) 428).toInt else if s = 22 then (nt_I M (pl 14) 640).toInt else if s = 23 then (nt_I M (a + 0) 6).toInt else if s = 24 then (nt_I M (a + 0) 1).toInt else if s = 25 then (nt_I M (a + 0) 2).toInt else v s, fun s hs => by dsimp only; rw [if_neg (by omega), if_neg (by omega), if_neg (by omega), if_neg (by omega), if_neg (by omega), if_neg (by omega), if_neg (by omega), if_neg (by omega), if_neg (by omega), if_neg (by omega), if_neg (by omega), if_neg (by omega), if_neg (by omega), if_neg (by omega), if_neg (by omega)], rfl, rfl, rfl, rfl, rfl, rfl, rfl, rfl, rfl, rfl, rfl, rfl, rfl, rfl, rfl⟩
  have hPL : ∀ h, h < 66 → ly_pl pl a h = pl h := fun h hh => ly_pl1 hh
  have hij : sx_ij (sx_KE (sx_tbs, sx_gps) kk_wd_n_image3) (ly_pl pl a) := ly_pij p1 c3 hB.1
  have hon := ly_app (K := kk_wd_n_image3) (ed := ly_ED) (ec := [((31, (1, [])), (0, [(11, 1)])), ((31, (2, [])), (0, [(12, 1)])), ((4, (0, [])), (0, [(13, 1)])), ((4, (4, [])), (0, [(14, 1)])), ((14, (0, [])), (0, [(15, 1)])), ((14, (212, [])), (0, [(16, 1)])), ((14, (424, [])), (0, [(17, 1)])), ((14, (636, [])), (0, [(18, 1)])), ((14, (4, [])), (0, [(19, 1)])), ((14, (216, [])), (0, [(20, 1)])), ((14, (428, [])), (0, [(21, 1)])), ((14, (640, [])), (0, [(22, 1)])), ((66, (6, [])), (0, [(23, 1)])), ((66, (1, [])), (0, [(24, 1)])), ((66, (2, [])), (0, [(25, 1)]))]) (er := ((65, (3, [])), 67) :: ly_RI) rfl hB hPL hr hij (ly_hpI c6) (lw_oiC (g := 31) (j := 1) (by show 31 < 83; decide) (by decide) (by dsimp only; rw [hPL 31 (by decide)]; rw [sx_s_e]; exact h11.symm) (lw_oiC (g := 31) (j := 2) (by show 31 < 83; decide) (by decide) (by dsimp only; rw [hPL 31 (by decide)]; rw [sx_s_e]; exact h12.symm) (lw_oiC (g := 4) (j := 0) (by show 4 < 83; decide) (by decide) (by dsimp only; rw [hPL 4 (by decide)]; rw [sx_s_e]; exact h13.symm) (lw_oiC (g := 4) (j := 4) (by show 4 < 83; decide) (by decide) (by dsimp only; rw [hPL 4 (by decide)]; rw [sx_s_e]; exact h14.symm) (lw_oiC (g := 14) (j := 0) (by show 14 < 83; decide) (by decide) (by dsimp only; rw [hPL 14 (by decide)]; rw [sx_s_e]; exact h15.symm) (lw_oiC (g := 14) (j := 212) (by show 14 < 83; decide) (by decide) (by dsimp only; rw [hPL 14 (by decide)]; rw [sx_s_e]; exact h16.symm) (lw_oiC (g := 14) (j := 424) (by show 14 < 83; decide) (by decide) (by dsimp only; rw [hPL 14 (by decide)]; rw [sx_s_e]; exact h17.symm) (lw_oiC (g := 14) (j := 636) (by show 14 < 83; decide) (by decide) (by dsimp only; rw [hPL 14 (by decide)]; rw [sx_s_e]; exact h18.symm) (lw_oiC (g := 14) (j := 4) (by show 14 < 83; decide) (by decide) (by dsimp only; rw [hPL 14 (by decide)]; rw [sx_s_e]; exact h19.symm) (lw_oiC (g := 14) (j := 216) (by show 14 < 83; decide) (by decide) (by dsimp only; rw [hPL 14 (by decide)]; rw [sx_s_e]; exact h20.symm) (lw_oiC (g := 14) (j := 428) (by show 14 < 83; decide) (by decide) (by dsimp only; rw [hPL 14 (by decide)]; rw [sx_s_e]; exact h21.symm) (lw_oiC (g := 14) (j := 640) (by show 14 < 83; decide) (by decide) (by dsimp only; rw [hPL 14 (by decide)]; rw [sx_s_e]; exact h22.symm) (lw_oiC (g := 66) (j := 6) (by show 66 < 83; decide) (by decide) (by dsimp only; rw [ly_pl2 (by decide)]; rw [sx_s_e]; exact h23.symm) (lw_oiC (g := 66) (j := 1) (by show 66 < 83; decide) (by decide) (by dsimp only; rw [ly_pl2 (by decide)]; rw [sx_s_e]; exact h24.symm) (lw_oiC (g := 66) (j := 2) (by show 66 < 83; decide) (by decide) (by dsimp only; rw [ly_pl2 (by decide)]; rw [sx_s_e]; exact h25.symm) (lw_oiN)))))))))))))))) (ly_erI rfl c1 c6) (ly_oba (ly_obr hr (ly_ob hB)) (ly_oba (ly_ob1 (by rw [h11]; exact hb11)) (ly_oba (ly_obI (x := nt_I M (pl 31) 2) h12) (ly_oba (ly_ob1 (by rw [h13]; exact hb13)) (ly_oba (ly_obI (x := nt_I M (pl 4) 4) h14) (ly_oba (ly_obI (x := nt_I M (pl 14) 0) h15) (ly_oba (ly_obI (x := nt_I M (pl 14) 212) h16) (ly_oba (ly_obI (x := nt_I M (pl 14) 424) h17) (ly_oba (ly_obI (x := nt_I M (pl 14) 636) h18) (ly_oba (ly_obI (x := nt_I M (pl 14) 4) h19) (ly_oba (ly_obI (x := nt_I M (pl 14) 216) h20) (ly_oba (ly_obI (x := nt_I M (pl 14) 428) h21) (ly_oba (ly_obI (x := nt_I M (pl 14) 640) h22) (ly_oba (ly_obI (x := nt_I M (a + 0) 6) h23) (ly_oba (ly_ob1 (by rw [h24]; exact hb24)) (ly_obI (x := nt_I M (a + 0) 2) h25)))))))))))))))) ly_oc0
  obtain ⟨p, hp, r', h2, h3⟩ := lw_app (ko_wd_n_image3 X) rfl hd hon (vs := [.ref (pl 16), .int (nI 3)]) ⟨by show Value.ref (pl 16) = .ref ((ly_pl pl a) 16); rw [hPL 16 (by decide)], ⟨_, rfl, by rw [sx_c_e]; decide⟩, trivial⟩ k
  have hr' : ∀ s, s < 26 → r' s = r s := fun s hs => h3.2.2.2.2.2.1 s hs
  obtain ⟨ov, M'⟩ := o
  rw [List.mem_singleton.mp hp] at h2 h3
  cases ov with
  | none => exact h2.elim
  | some w =>
    obtain ⟨y, rfl, hy⟩ := h2
    have hy : y.toInt = 0 + (1 * r' 12 + (0)) := hy
    have e0 : (nt_I M' ((ly_pl pl a) 31) 1).toInt = 0 + (1 * r' 11 + (0)) := lw_rd (g := 31) (j := 1) h3.2.2.1 (List.mem_of_getElem? (i := 0) rfl) (by decide)
    rw [hPL 31 (by decide)] at e0
    have e1 : (nt_I M' ((ly_pl pl a) 31) 2).toInt = 0 + (1 * r' 12 + (0)) := lw_rd (g := 31) (j := 2) h3.2.2.1 (List.mem_of_getElem? (i := 1) rfl) (by decide)
    rw [hPL 31 (by decide)] at e1
    have e2 : (nt_I M' ((ly_pl pl a) 4) 0).toInt = 0 + (1 * r' 13 + (0)) := lw_rd (g := 4) (j := 0) h3.2.2.1 (List.mem_of_getElem? (i := 2) rfl) (by decide)
    rw [hPL 4 (by decide)] at e2
    have e3 : (nt_I M' ((ly_pl pl a) 4) 4).toInt = 0 + (1 * r' 14 + (0)) := lw_rd (g := 4) (j := 4) h3.2.2.1 (List.mem_of_getElem? (i := 3) rfl) (by decide)
    rw [hPL 4 (by decide)] at e3
    have e4 : (nt_I M' ((ly_pl pl a) 14) 0).toInt = 0 + (1 * r' 15 + (0)) := lw_rd (g := 14) (j := 0) h3.2.2.1 (List.mem_of_getElem? (i := 4) rfl) (by decide)
    rw [hPL 14 (by decide)] at e4
    have e5 : (nt_I M' ((ly_pl pl a) 14) 212).toInt = 0 + (1 * r' 16 + (0)) := lw_rd (g := 14) (j := 212) h3.2.2.1 (List.mem_of_getElem? (i := 5) rfl) (by decide)
    rw [hPL 14 (by decide)] at e5
    have e6 : (nt_I M' ((ly_pl pl a) 14) 424).toInt = 0 + (1 * r' 17 + (0)) := lw_rd (g := 14) (j := 424) h3.2.2.1 (List.mem_of_getElem? (i := 6) rfl) (by decide)
    rw [hPL 14 (by decide)] at e6
    have e7 : (nt_I M' ((ly_pl pl a) 14) 636).toInt = 0 + (1 * r' 18 + (0)) := lw_rd (g := 14) (j := 636) h3.2.2.1 (List.mem_of_getElem? (i := 7) rfl) (by decide)
    rw [hPL 14 (by decide)] at e7
    have e8 : (nt_I M' ((ly_pl pl a) 14) 4).toInt = 0 + (1 * r' 19 + (0)) := lw_rd (g := 14) (j := 4) h3.2.2.1 (List.mem_of_getElem? (i := 8) rfl) (by decide)
    rw [hPL 14 (by decide)] at e8
    have e9 : (nt_I M' ((ly_pl pl a) 14) 216).toInt = 0 + (1 * r' 20 + (0)) := lw_rd (g := 14) (j := 216) h3.2.2.1 (List.mem_of_getElem? (i := 9) rfl) (by decide)
    rw [hPL 14 (by decide)] at e9
    have e10 : (nt_I M' ((ly_pl pl a) 14) 428).toInt = 0 + (1 * r' 21 + (0)) := lw_rd (g := 14) (j := 428) h3.2.2.1 (List.mem_of_getElem? (i := 10) rfl) (by decide)
    rw [hPL 14 (by decide)] at e10
    have e11 : (nt_I M' ((ly_pl pl a) 14) 640).toInt = 0 + (1 * r' 22 + (0)) := lw_rd (g := 14) (j := 640) h3.2.2.1 (List.mem_of_getElem? (i := 11) rfl) (by decide)
    rw [hPL 14 (by decide)] at e11
    have e12 : (nt_I M' ((ly_pl pl a) 66) 1).toInt = 0 + (1 * r' 11 + (0)) := lw_rd (g := 66) (j := 1) h3.2.2.1 (List.mem_of_getElem? (i := 12) rfl) (by decide)
    rw [ly_pl2 (by decide)] at e12
    have e12 : (nt_I M' (a + 0) 1).toInt = 0 + (1 * r' 11 + (0)) := e12
    have e13 : (nt_I M' ((ly_pl pl a) 66) 2).toInt = 0 + (1 * r' 12 + (0)) := lw_rd (g := 66) (j := 2) h3.2.2.1 (List.mem_of_getElem? (i := 13) rfl) (by decide)
    rw [ly_pl2 (by decide)] at e13
    have e13 : (nt_I M' (a + 0) 2).toInt = 0 + (1 * r' 12 + (0)) := e13
    have g11 := hr' 11 (by omega)
    rw [h11] at g11
    have g12 := hr' 12 (by omega)
    rw [h12] at g12
    have g13 := hr' 13 (by omega)
    rw [h13] at g13
    have g14 := hr' 14 (by omega)
    rw [h14] at g14
    have g15 := hr' 15 (by omega)
    rw [h15] at g15
    have g16 := hr' 16 (by omega)
    rw [h16] at g16
    have g17 := hr' 17 (by omega)
    rw [h17] at g17
    have g18 := hr' 18 (by omega)
    rw [h18] at g18
    have g19 := hr' 19 (by omega)
    rw [h19] at g19
    have g20 := hr' 20 (by omega)
    rw [h20] at g20
    have g21 := hr' 21 (by omega)
    rw [h21] at g21
    have g22 := hr' 22 (by omega)
    rw [h22] at g22
    exact ⟨y, M', rfl, ⟨by omega, e0.trans (lw_s g11), e1.trans (lw_s g12), e2.trans (lw_s g13), e3.trans (lw_s g14), e4.trans (lw_s g15), e5.trans (lw_s g16), e6.trans (lw_s g17), e7.trans (lw_s g18), e8.trans (lw_s g19), e9.trans (lw_s g20), e10.trans (lw_s g21), e11.trans (lw_s g22), e12.trans (lw_s g11), e13.trans (lw_s g12)⟩⟩
theorem lwd_n_back3 {X : nt_X} {pl : Nat → Nat} {v : Nat → Int} {M : nt_M} {d a : Nat} {o : Option Value × nt_M} (hd : 3 ≤ d) (hB : ly_B pl v M) {x : Int} (p1 : ∀ g, g < 66 → pl g < 66) (c1 : nt_R M (pl 65) 3 = some a) (c3 : 66 ≤ a) (c6 : ly_im a x M) (hb11 : (0 : Int) ≤ (nt_I M (pl 31) 1).toInt ∧ (nt_I M (pl 31) 1).toInt ≤ 1) (hb13 : (0 : Int) ≤ (nt_I M (pl 4) 0).toInt ∧ (nt_I M (pl 4) 0).toInt ≤ 4) (hb24 : (0 : Int) ≤ (nt_I M (a + 0) 1).toInt ∧ (nt_I M (a + 0) 1).toInt ≤ 1) (k : nt_ev X d 128 [.ref (pl 16), .int (nI 3)] M o) : ∃ (y : Int32) (M' : nt_M), o = (some (.int y), M') ∧ ((y.toInt = (nt_I M (a + 0) 2).toInt ∧ (nt_I M' (pl 31) 1).toInt = (nt_I M (a + 0) 1).toInt ∧ (nt_I M' (pl 31) 2).toInt = (nt_I M (a + 0) 2).toInt ∧ (nt_I M' (pl 4) 0).toInt = (nt_I M (pl 4) 0).toInt ∧ (nt_I M' (pl 4) 4).toInt = (nt_I M (pl 4) 4).toInt ∧ (nt_I M' (pl 14) 0).toInt = (nt_I M (pl 14) 0).toInt ∧ (nt_I M' (pl 14) 212).toInt = (nt_I M (pl 14) 212).toInt ∧ (nt_I M' (pl 14) 424).toInt = (nt_I M (pl 14) 424).toInt ∧ (nt_I M' (pl 14) 636).toInt = (nt_I M (pl 14) 636).toInt ∧ (nt_I M' (pl 14) 4).toInt = (nt_I M (pl 14) 4).toInt ∧ (nt_I M' (pl 14) 216).toInt = (nt_I M (pl 14) 216).toInt ∧ (nt_I M' (pl 14) 428).toInt = (nt_I M (pl 14) 428).toInt ∧ (nt_I M' (pl 14) 640).toInt = (nt_I M (pl 14) 640).toInt ∧ (nt_I M' (a + 0) 1).toInt = (nt_I M (a + 0) 1).toInt ∧ (nt_I M' (a + 0) 2).toInt = (nt_I M (a + 0) 2).toInt)) := by
  obtain ⟨r, hr, h11, h12, h13, h14, h15, h16, h17, h18, h19, h20, h21, h22, h23, h24, h25⟩ : ∃ r : Nat → Int, (∀ s, s < 11 → r s = v s) ∧ r 11 = (nt_I M (pl 31) 1).toInt ∧ r 12 = (nt_I M (pl 31) 2).toInt ∧ r 13 = (nt_I M (pl 4) 0).toInt ∧ r 14 = (nt_I M (pl 4) 4).toInt ∧ r 15 = (nt_I M (pl 14) 0).toInt ∧ r 16 = (nt_I M (pl 14) 212).toInt ∧ r 17 = (nt_I M (pl 14) 424).toInt ∧ r 18 = (nt_I M (pl 14) 636).toInt ∧ r 19 = (nt_I M (pl 14) 4).toInt ∧ r 20 = (nt_I M (pl 14) 216).toInt ∧ r 21 = (nt_I M (pl 14) 428).toInt ∧ r 22 = (nt_I M (pl 14) 640).toInt ∧ r 23 = (nt_I M (a + 0) 6).toInt ∧ r 24 = (nt_I M (a + 0) 1).toInt ∧ r 25 = (nt_I M (a + 0) 2).toInt := ⟨fun s => if s = 11 then (nt_I M (pl 31) 1).toInt else if s = 12 then (nt_I M (pl 31) 2).toInt else if s = 13 then (nt_I M (pl 4) 0).toInt else if s = 14 then (nt_I M (pl 4) 4).toInt else if s = 15 then (nt_I M (pl 14) 0).toInt else if s = 16 then (nt_I M (pl 14) 212).toInt else if s = 17 then (nt_I M (pl 14) 424).toInt else if s = 18 then (nt_I M (pl 14) 636).toInt else if s = 19 then (nt_I M (pl 14) 4).toInt else if s = 20 then (nt_I M (pl 14) 216).toInt else if s = 21 then (nt_I M (pl 14) 428).toInt else if s = 22 then (nt_I M (pl 14) 640).toInt else if s = 23 then (nt_I M (a + 0) 6).toInt else if s = 24 then (nt_I M (a + 0) 1).toInt else if s = 25 then (nt_I M (a + 0) 2).toInt else v s, fun s hs => by dsimp only; rw [if_neg (by omega), if_neg (by omega), if_neg (by omega), if_neg (by omega), if_neg (by omega), if_neg (by omega), if_neg (by omega), if_neg (by omega), if_neg (by omega), if_neg (by omega), if_neg (by omega), if_neg (by omega), if_neg (by omega), if_neg (by omega), if_neg (by omega)], rfl, rfl, rfl, rfl, rfl, rfl, rfl, rfl, rfl, rfl, rfl, rfl, rfl, rfl, rfl⟩
  have hPL : ∀ h, h < 66 → ly_pl pl a h = pl h := fun h hh => ly_pl1 hh
  have hij : sx_ij (sx_KE (sx_tbs, sx_gps) kk_wd_n_back3) (ly_pl pl a) := ly_pij p1 c3 hB.1
  have hon := ly_app (K := kk_wd_n_back3) (ed := ly_ED) (ec := [((31, (1, [])), (0, [(11, 1)])), ((31, (2, [])), (0, [(12, 1)])), ((4, (0, [])), (0, [(13, 1)])), ((4, (4, [])), (0, [(14, 1)])), ((14, (0, [])), (0, [(15, 1)])), ((14, (212, [])), (0, [(16, 1)])), ((14, (424, [])), (0, [(17, 1)])), ((14, (636, [])), (0, [(18, 1)])), ((14, (4, [])), (0, [(19, 1)])), ((14, (216, [])), (0, [(20, 1)])), ((14, (428, [])), (0, [(21, 1)])), ((14, (640, [])), (0, [(22, 1)])), ((66, (6, [])), (0, [(23, 1)])), ((66, (1, [])), (0, [(24, 1)])), ((66, (2, [])), (0, [(25, 1)]))]) (er := ((65, (3, [])), 67) :: ly_RI) rfl hB hPL hr hij (ly_hpI c6) (lw_oiC (g := 31) (j := 1) (by show 31 < 83; decide) (by decide) (by dsimp only; rw [hPL 31 (by decide)]; rw [sx_s_e]; exact h11.symm) (lw_oiC (g := 31) (j := 2) (by show 31 < 83; decide) (by decide) (by dsimp only; rw [hPL 31 (by decide)]; rw [sx_s_e]; exact h12.symm) (lw_oiC (g := 4) (j := 0) (by show 4 < 83; decide) (by decide) (by dsimp only; rw [hPL 4 (by decide)]; rw [sx_s_e]; exact h13.symm) (lw_oiC (g := 4) (j := 4) (by show 4 < 83; decide) (by decide) (by dsimp only; rw [hPL 4 (by decide)]; rw [sx_s_e]; exact h14.symm) (lw_oiC (g := 14) (j := 0) (by show 14 < 83; decide) (by decide) (by dsimp only; rw [hPL 14 (by decide)]; rw [sx_s_e]; exact h15.symm) (lw_oiC (g := 14) (j := 212) (by show 14 < 83; decide) (by decide) (by dsimp only; rw [hPL 14 (by decide)]; rw [sx_s_e]; exact h16.symm) (lw_oiC (g := 14) (j := 424) (by show 14 < 83; decide) (by decide) (by dsimp only; rw [hPL 14 (by decide)]; rw [sx_s_e]; exact h17.symm) (lw_oiC (g := 14) (j := 636) (by show 14 < 83; decide) (by decide) (by dsimp only; rw [hPL 14 (by decide)]; rw [sx_s_e]; exact h18.symm) (lw_oiC (g := 14) (j := 4) (by show 14 < 83; decide) (by decide) (by dsimp only; rw [hPL 14 (by decide)]; rw [sx_s_e]; exact h19.symm) (lw_oiC (g := 14) (j := 216) (by show 14 < 83; decide) (by decide) (by dsimp only; rw [hPL 14 (by decide)]; rw [sx_s_e]; exact h20.symm) (lw_oiC (g := 14) (j := 428) (by show 14 < 83; decide) (by decide) (by dsimp only; rw [hPL 14 (by decide)]; rw [sx_s_e]; exact h21.symm) (lw_oiC (g := 14) (j := 640) (by show 14 < 83; decide) (by decide) (by dsimp only; rw [hPL 14 (by decide)]; rw [sx_s_e]; exact h22.symm) (lw_oiC (g := 66) (j := 6) (by show 66 < 83; decide) (by decide) (by dsimp only; rw [ly_pl2 (by decide)]; rw [sx_s_e]; exact h23.symm) (lw_oiC (g := 66) (j := 1) (by show 66 < 83; decide) (by decide) (by dsimp only; rw [ly_pl2 (by decide)]; rw [sx_s_e]; exact h24.symm) (lw_oiC (g := 66) (j := 2) (by show 66 < 83; decide) (by decide) (by dsimp only; rw [ly_pl2 (by decide)]; rw [sx_s_e]; exact h25.symm) (lw_oiN)))))))))))))))) (ly_erI rfl c1 c6) (ly_oba (ly_obr hr (ly_ob hB)) (ly_oba (ly_ob1 (by rw [h11]; exact hb11)) (ly_oba (ly_obI (x := nt_I M (pl 31) 2) h12) (ly_oba (ly_ob1 (by rw [h13]; exact hb13)) (ly_oba (ly_obI (x := nt_I M (pl 4) 4) h14) (ly_oba (ly_obI (x := nt_I M (pl 14) 0) h15) (ly_oba (ly_obI (x := nt_I M (pl 14) 212) h16) (ly_oba (ly_obI (x := nt_I M (pl 14) 424) h17) (ly_oba (ly_obI (x := nt_I M (pl 14) 636) h18) (ly_oba (ly_obI (x := nt_I M (pl 14) 4) h19) (ly_oba (ly_obI (x := nt_I M (pl 14) 216) h20) (ly_oba (ly_obI (x := nt_I M (pl 14) 428) h21) (ly_oba (ly_obI (x := nt_I M (pl 14) 640) h22) (ly_oba (ly_obI (x := nt_I M (a + 0) 6) h23) (ly_oba (ly_ob1 (by rw [h24]; exact hb24)) (ly_obI (x := nt_I M (a + 0) 2) h25)))))))))))))))) ly_oc0
  obtain ⟨p, hp, r', h2, h3⟩ := lw_app (ko_wd_n_back3 X) rfl hd hon (vs := [.ref (pl 16), .int (nI 3)]) ⟨by show Value.ref (pl 16) = .ref ((ly_pl pl a) 16); rw [hPL 16 (by decide)], ⟨_, rfl, by rw [sx_c_e]; decide⟩, trivial⟩ k
  have hr' : ∀ s, s < 26 → r' s = r s := fun s hs => h3.2.2.2.2.2.1 s hs
  obtain ⟨ov, M'⟩ := o
  rw [List.mem_singleton.mp hp] at h2 h3
  cases ov with
  | none => exact h2.elim
  | some w =>
    obtain ⟨y, rfl, hy⟩ := h2
    have hy : y.toInt = 0 + (1 * r' 25 + (0)) := hy
    have e0 : (nt_I M' ((ly_pl pl a) 31) 1).toInt = 0 + (1 * r' 24 + (0)) := lw_rd (g := 31) (j := 1) h3.2.2.1 (List.mem_of_getElem? (i := 0) rfl) (by decide)
    rw [hPL 31 (by decide)] at e0
    have e1 : (nt_I M' ((ly_pl pl a) 31) 2).toInt = 0 + (1 * r' 25 + (0)) := lw_rd (g := 31) (j := 2) h3.2.2.1 (List.mem_of_getElem? (i := 1) rfl) (by decide)
    rw [hPL 31 (by decide)] at e1
    have e2 : (nt_I M' ((ly_pl pl a) 4) 0).toInt = 0 + (1 * r' 13 + (0)) := lw_rd (g := 4) (j := 0) h3.2.2.1 (List.mem_of_getElem? (i := 2) rfl) (by decide)
    rw [hPL 4 (by decide)] at e2
    have e3 : (nt_I M' ((ly_pl pl a) 4) 4).toInt = 0 + (1 * r' 14 + (0)) := lw_rd (g := 4) (j := 4) h3.2.2.1 (List.mem_of_getElem? (i := 3) rfl) (by decide)
    rw [hPL 4 (by decide)] at e3
    have e4 : (nt_I M' ((ly_pl pl a) 14) 0).toInt = 0 + (1 * r' 15 + (0)) := lw_rd (g := 14) (j := 0) h3.2.2.1 (List.mem_of_getElem? (i := 4) rfl) (by decide)
    rw [hPL 14 (by decide)] at e4
    have e5 : (nt_I M' ((ly_pl pl a) 14) 212).toInt = 0 + (1 * r' 16 + (0)) := lw_rd (g := 14) (j := 212) h3.2.2.1 (List.mem_of_getElem? (i := 5) rfl) (by decide)
    rw [hPL 14 (by decide)] at e5
    have e6 : (nt_I M' ((ly_pl pl a) 14) 424).toInt = 0 + (1 * r' 17 + (0)) := lw_rd (g := 14) (j := 424) h3.2.2.1 (List.mem_of_getElem? (i := 6) rfl) (by decide)
    rw [hPL 14 (by decide)] at e6
    have e7 : (nt_I M' ((ly_pl pl a) 14) 636).toInt = 0 + (1 * r' 18 + (0)) := lw_rd (g := 14) (j := 636) h3.2.2.1 (List.mem_of_getElem? (i := 7) rfl) (by decide)
    rw [hPL 14 (by decide)] at e7
    have e8 : (nt_I M' ((ly_pl pl a) 14) 4).toInt = 0 + (1 * r' 19 + (0)) := lw_rd (g := 14) (j := 4) h3.2.2.1 (List.mem_of_getElem? (i := 8) rfl) (by decide)
    rw [hPL 14 (by decide)] at e8
    have e9 : (nt_I M' ((ly_pl pl a) 14) 216).toInt = 0 + (1 * r' 20 + (0)) := lw_rd (g := 14) (j := 216) h3.2.2.1 (List.mem_of_getElem? (i := 9) rfl) (by decide)
    rw [hPL 14 (by decide)] at e9
    have e10 : (nt_I M' ((ly_pl pl a) 14) 428).toInt = 0 + (1 * r' 21 + (0)) := lw_rd (g := 14) (j := 428) h3.2.2.1 (List.mem_of_getElem? (i := 10) rfl) (by decide)
    rw [hPL 14 (by decide)] at e10
    have e11 : (nt_I M' ((ly_pl pl a) 14) 640).toInt = 0 + (1 * r' 22 + (0)) := lw_rd (g := 14) (j := 640) h3.2.2.1 (List.mem_of_getElem? (i := 11) rfl) (by decide)
    rw [hPL 14 (by decide)] at e11
    have e12 : (nt_I M' ((ly_pl pl a) 66) 1).toInt = 0 + (1 * r' 24 + (0)) := lw_rd (g := 66) (j := 1) h3.2.2.1 (List.mem_of_getElem? (i := 12) rfl) (by decide)
    rw [ly_pl2 (by decide)] at e12
    have e12 : (nt_I M' (a + 0) 1).toInt = 0 + (1 * r' 24 + (0)) := e12
    have e13 : (nt_I M' ((ly_pl pl a) 66) 2).toInt = 0 + (1 * r' 25 + (0)) := lw_rd (g := 66) (j := 2) h3.2.2.1 (List.mem_of_getElem? (i := 13) rfl) (by decide)
    rw [ly_pl2 (by decide)] at e13
    have e13 : (nt_I M' (a + 0) 2).toInt = 0 + (1 * r' 25 + (0)) := e13
    have g13 := hr' 13 (by omega)
    rw [h13] at g13
    have g14 := hr' 14 (by omega)
    rw [h14] at g14
    have g15 := hr' 15 (by omega)
    rw [h15] at g15
    have g16 := hr' 16 (by omega)
    rw [h16] at g16
    have g17 := hr' 17 (by omega)
    rw [h17] at g17
    have g18 := hr' 18 (by omega)
    rw [h18] at g18
    have g19 := hr' 19 (by omega)
    rw [h19] at g19
    have g20 := hr' 20 (by omega)
    rw [h20] at g20
    have g21 := hr' 21 (by omega)
    rw [h21] at g21
    have g22 := hr' 22 (by omega)
    rw [h22] at g22
    have g24 := hr' 24 (by omega)
    rw [h24] at g24
    have g25 := hr' 25 (by omega)
    rw [h25] at g25
    exact ⟨y, M', rfl, ⟨by omega, e0.trans (lw_s g24), e1.trans (lw_s g25), e2.trans (lw_s g13), e3.trans (lw_s g14), e4.trans (lw_s g15), e5.trans (lw_s g16), e6.trans (lw_s g17), e7.trans (lw_s g18), e8.trans (lw_s g19), e9.trans (lw_s g20), e10.trans (lw_s g21), e11.trans (lw_s g22), e12.trans (lw_s g24), e13.trans (lw_s g25)⟩⟩
theorem lwd_n_back3N {X : nt_X} {pl : Nat → Nat} {v : Nat → Int} {M : nt_M} {d : Nat} {o : Option Value × nt_M} (hd : 0 ≤ d) (hB : ly_B pl v M) (hn : nt_R M (pl 65) 3 = none) (hb11 : (0 : Int) ≤ (nt_I M (pl 31) 1).toInt ∧ (nt_I M (pl 31) 1).toInt ≤ 1) (hb13 : (0 : Int) ≤ (nt_I M (pl 4) 0).toInt ∧ (nt_I M (pl 4) 0).toInt ≤ 4) (k : nt_ev X d 128 [.ref (pl 16), .int (nI 3)] M o) : ∃ (y : Int32) (M' : nt_M), o = (some (.int y), M') ∧ ((y.toInt = -1 ∧ (nt_I M' (pl 31) 1).toInt = (nt_I M (pl 31) 1).toInt ∧ (nt_I M' (pl 31) 2).toInt = (nt_I M (pl 31) 2).toInt ∧ (nt_I M' (pl 4) 0).toInt = (nt_I M (pl 4) 0).toInt ∧ (nt_I M' (pl 4) 4).toInt = (nt_I M (pl 4) 4).toInt ∧ (nt_I M' (pl 14) 0).toInt = (nt_I M (pl 14) 0).toInt ∧ (nt_I M' (pl 14) 212).toInt = (nt_I M (pl 14) 212).toInt ∧ (nt_I M' (pl 14) 424).toInt = (nt_I M (pl 14) 424).toInt ∧ (nt_I M' (pl 14) 636).toInt = (nt_I M (pl 14) 636).toInt ∧ (nt_I M' (pl 14) 4).toInt = (nt_I M (pl 14) 4).toInt ∧ (nt_I M' (pl 14) 216).toInt = (nt_I M (pl 14) 216).toInt ∧ (nt_I M' (pl 14) 428).toInt = (nt_I M (pl 14) 428).toInt ∧ (nt_I M' (pl 14) 640).toInt = (nt_I M (pl 14) 640).toInt)) := by
  obtain ⟨r, hr, h11, h12, h13, h14, h15, h16, h17, h18, h19, h20, h21, h22⟩ : ∃ r : Nat → Int, (∀ s, s < 11 → r s = v s) ∧ r 11 = (nt_I M (pl 31) 1).toInt ∧ r 12 = (nt_I M (pl 31) 2).toInt ∧ r 13 = (nt_I M (pl 4) 0).toInt ∧ r 14 = (nt_I M (pl 4) 4).toInt ∧ r 15 = (nt_I M (pl 14) 0).toInt ∧ r 16 = (nt_I M (pl 14) 212).toInt ∧ r 17 = (nt_I M (pl 14) 424).toInt ∧ r 18 = (nt_I M (pl 14) 636).toInt ∧ r 19 = (nt_I M (pl 14) 4).toInt ∧ r 20 = (nt_I M (pl 14) 216).toInt ∧ r 21 = (nt_I M (pl 14) 428).toInt ∧ r 22 = (nt_I M (pl 14) 640).toInt := ⟨fun s => if s = 11 then (nt_I M (pl 31) 1).toInt else if s = 12 then (nt_I M (pl 31) 2).toInt else if s = 13 then (nt_I M (pl 4) 0).toInt else if s = 14 then (nt_I M (pl 4) 4).toInt else if s = 15 then (nt_I M (pl 14) 0).toInt else if s = 16 then (nt_I M (pl 14) 212).toInt else if s = 17 then (nt_I M (pl 14) 424).toInt else if s = 18 then (nt_I M (pl 14) 636).toInt else if s = 19 then (nt_I M (pl 14) 4).toInt else if s = 20 then (nt_I M (pl 14) 216).toInt else if s = 21 then (nt_I M (pl 14) 428).toInt else if s = 22 then (nt_I M (pl 14) 640).toInt else v s, fun s hs => by dsimp only; rw [if_neg (by omega), if_neg (by omega), if_neg (by omega), if_neg (by omega), if_neg (by omega), if_neg (by omega), if_neg (by omega), if_neg (by omega), if_neg (by omega), if_neg (by omega), if_neg (by omega), if_neg (by omega)], rfl, rfl, rfl, rfl, rfl, rfl, rfl, rfl, rfl, rfl, rfl, rfl⟩
  have hij := ly_ij (K := kk_wd_n_back3N) rfl hB
  have hon := ly_app (K := kk_wd_n_back3N) (ed := []) (ec := [((31, (1, [])), (0, [(11, 1)])), ((31, (2, [])), (0, [(12, 1)])), ((4, (0, [])), (0, [(13, 1)])), ((4, (4, [])), (0, [(14, 1)])), ((14, (0, [])), (0, [(15, 1)])), ((14, (212, [])), (0, [(16, 1)])), ((14, (424, [])), (0, [(17, 1)])), ((14, (636, [])), (0, [(18, 1)])), ((14, (4, [])), (0, [(19, 1)])), ((14, (216, [])), (0, [(20, 1)])), ((14, (428, [])), (0, [(21, 1)])), ((14, (640, [])), (0, [(22, 1)]))]) (er := [((65, (3, [])), 0)]) rfl hB (fun _ _ => rfl) hr hij ly_nil (lw_oiC (g := 31) (j := 1) (by show 31 < 66; decide) (by decide) (by dsimp only; rw [sx_s_e]; exact h11.symm) (lw_oiC (g := 31) (j := 2) (by show 31 < 66; decide) (by decide) (by dsimp only; rw [sx_s_e]; exact h12.symm) (lw_oiC (g := 4) (j := 0) (by show 4 < 66; decide) (by decide) (by dsimp only; rw [sx_s_e]; exact h13.symm) (lw_oiC (g := 4) (j := 4) (by show 4 < 66; decide) (by decide) (by dsimp only; rw [sx_s_e]; exact h14.symm) (lw_oiC (g := 14) (j := 0) (by show 14 < 66; decide) (by decide) (by dsimp only; rw [sx_s_e]; exact h15.symm) (lw_oiC (g := 14) (j := 212) (by show 14 < 66; decide) (by decide) (by dsimp only; rw [sx_s_e]; exact h16.symm) (lw_oiC (g := 14) (j := 424) (by show 14 < 66; decide) (by decide) (by dsimp only; rw [sx_s_e]; exact h17.symm) (lw_oiC (g := 14) (j := 636) (by show 14 < 66; decide) (by decide) (by dsimp only; rw [sx_s_e]; exact h18.symm) (lw_oiC (g := 14) (j := 4) (by show 14 < 66; decide) (by decide) (by dsimp only; rw [sx_s_e]; exact h19.symm) (lw_oiC (g := 14) (j := 216) (by show 14 < 66; decide) (by decide) (by dsimp only; rw [sx_s_e]; exact h20.symm) (lw_oiC (g := 14) (j := 428) (by show 14 < 66; decide) (by decide) (by dsimp only; rw [sx_s_e]; exact h21.symm) (lw_oiC (g := 14) (j := 640) (by show 14 < 66; decide) (by decide) (by dsimp only; rw [sx_s_e]; exact h22.symm) (lw_oiN))))))))))))) (fun q hq => by
    rw [List.mem_singleton.mp hq]
    refine ⟨⟨by show 65 < 66; decide, by show 0 ≤ 66; decide⟩, by dsimp only; rw [sx_c_e]; decide, ?_⟩
    dsimp only
    rw [sx_c_e]
    exact hn) (ly_oba (ly_obr hr (ly_ob hB)) (ly_oba (ly_ob1 (by rw [h11]; exact hb11)) (ly_oba (ly_obI (x := nt_I M (pl 31) 2) h12) (ly_oba (ly_ob1 (by rw [h13]; exact hb13)) (ly_oba (ly_obI (x := nt_I M (pl 4) 4) h14) (ly_oba (ly_obI (x := nt_I M (pl 14) 0) h15) (ly_oba (ly_obI (x := nt_I M (pl 14) 212) h16) (ly_oba (ly_obI (x := nt_I M (pl 14) 424) h17) (ly_oba (ly_obI (x := nt_I M (pl 14) 636) h18) (ly_oba (ly_obI (x := nt_I M (pl 14) 4) h19) (ly_oba (ly_obI (x := nt_I M (pl 14) 216) h20) (ly_oba (ly_obI (x := nt_I M (pl 14) 428) h21) (ly_obI (x := nt_I M (pl 14) 640) h22))))))))))))) ly_oc0
  obtain ⟨p, hp, r', h2, h3⟩ := lw_app (ko_wd_n_back3N X) rfl hd hon (vs := [.ref (pl 16), .int (nI 3)]) ⟨rfl, ⟨_, rfl, by rw [sx_c_e]; decide⟩, trivial⟩ k
  have hr' : ∀ s, s < 23 → r' s = r s := fun s hs => h3.2.2.2.2.2.1 s hs
  obtain ⟨ov, M'⟩ := o
  rw [List.mem_singleton.mp hp] at h2 h3
  cases ov with
  | none => exact h2.elim
  | some w =>
    obtain ⟨y, rfl, hy⟩ := h2
    have hy : y.toInt = (-1) + 0 := hy
    have e0 : (nt_I M' (pl 31) 1).toInt = 0 + (1 * r' 11 + (0)) := lw_rd (g := 31) (j := 1) h3.2.2.1 (List.mem_of_getElem? (i := 0) rfl) (by decide)
    have e1 : (nt_I M' (pl 31) 2).toInt = 0 + (1 * r' 12 + (0)) := lw_rd (g := 31) (j := 2) h3.2.2.1 (List.mem_of_getElem? (i := 1) rfl) (by decide)
    have e2 : (nt_I M' (pl 4) 0).toInt = 0 + (1 * r' 13 + (0)) := lw_rd (g := 4) (j := 0) h3.2.2.1 (List.mem_of_getElem? (i := 2) rfl) (by decide)
    have e3 : (nt_I M' (pl 4) 4).toInt = 0 + (1 * r' 14 + (0)) := lw_rd (g := 4) (j := 4) h3.2.2.1 (List.mem_of_getElem? (i := 3) rfl) (by decide)
    have e4 : (nt_I M' (pl 14) 0).toInt = 0 + (1 * r' 15 + (0)) := lw_rd (g := 14) (j := 0) h3.2.2.1 (List.mem_of_getElem? (i := 4) rfl) (by decide)
    have e5 : (nt_I M' (pl 14) 212).toInt = 0 + (1 * r' 16 + (0)) := lw_rd (g := 14) (j := 212) h3.2.2.1 (List.mem_of_getElem? (i := 5) rfl) (by decide)
    have e6 : (nt_I M' (pl 14) 424).toInt = 0 + (1 * r' 17 + (0)) := lw_rd (g := 14) (j := 424) h3.2.2.1 (List.mem_of_getElem? (i := 6) rfl) (by decide)
    have e7 : (nt_I M' (pl 14) 636).toInt = 0 + (1 * r' 18 + (0)) := lw_rd (g := 14) (j := 636) h3.2.2.1 (List.mem_of_getElem? (i := 7) rfl) (by decide)
    have e8 : (nt_I M' (pl 14) 4).toInt = 0 + (1 * r' 19 + (0)) := lw_rd (g := 14) (j := 4) h3.2.2.1 (List.mem_of_getElem? (i := 8) rfl) (by decide)
    have e9 : (nt_I M' (pl 14) 216).toInt = 0 + (1 * r' 20 + (0)) := lw_rd (g := 14) (j := 216) h3.2.2.1 (List.mem_of_getElem? (i := 9) rfl) (by decide)
    have e10 : (nt_I M' (pl 14) 428).toInt = 0 + (1 * r' 21 + (0)) := lw_rd (g := 14) (j := 428) h3.2.2.1 (List.mem_of_getElem? (i := 10) rfl) (by decide)
    have e11 : (nt_I M' (pl 14) 640).toInt = 0 + (1 * r' 22 + (0)) := lw_rd (g := 14) (j := 640) h3.2.2.1 (List.mem_of_getElem? (i := 11) rfl) (by decide)
    have g11 := hr' 11 (by omega)
    rw [h11] at g11
    have g12 := hr' 12 (by omega)
    rw [h12] at g12
    have g13 := hr' 13 (by omega)
    rw [h13] at g13
    have g14 := hr' 14 (by omega)
    rw [h14] at g14
    have g15 := hr' 15 (by omega)
    rw [h15] at g15
    have g16 := hr' 16 (by omega)
    rw [h16] at g16
    have g17 := hr' 17 (by omega)
    rw [h17] at g17
    have g18 := hr' 18 (by omega)
    rw [h18] at g18
    have g19 := hr' 19 (by omega)
    rw [h19] at g19
    have g20 := hr' 20 (by omega)
    rw [h20] at g20
    have g21 := hr' 21 (by omega)
    rw [h21] at g21
    have g22 := hr' 22 (by omega)
    rw [h22] at g22
    exact ⟨y, M', rfl, ⟨by omega, e0.trans (lw_s g11), e1.trans (lw_s g12), e2.trans (lw_s g13), e3.trans (lw_s g14), e4.trans (lw_s g15), e5.trans (lw_s g16), e6.trans (lw_s g17), e7.trans (lw_s g18), e8.trans (lw_s g19), e9.trans (lw_s g20), e10.trans (lw_s g21), e11.trans (lw_s g22)⟩⟩
