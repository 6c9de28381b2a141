/-! what the calls do to the day, more -/
theorem lwd_image3 {X : nt_X} {pl : Nat → Nat} {v : Nat → Int} {M : nt_M} {d : Nat} {o : Option Value × nt_M} (hd : 1 ≤ d) (hB : ly_B pl v M) (hb11 : (0 : Int) ≤ (nt_I M (pl 31) 1).toInt ∧ (nt_I M (pl 31) 1).toInt ≤ 1) (hb13 : (0 : Int) ≤ (nt_I M (pl 4) 0).toInt ∧ (nt_I M (pl 4) 0).toInt ≤ 4) (k : nt_ev X d 234 [.ref (pl 0), .int (nI 3)] M o) : ∃ (y : Int32) (M' : nt_M), o = (some (.int y), M') ∧ ((y.toInt = (nt_I M (pl 4) 4).toInt ∧ (nt_I M' (pl 31) 1).toInt = (nt_I M (pl 31) 1).toInt ∧ (nt_I M' (pl 31) 2).toInt = (nt_I M (pl 31) 2).toInt ∧ (nt_I M' (pl 4) 0).toInt = (nt_I M (pl 4) 0).toInt ∧ (nt_I M' (pl 4) 4).toInt = (nt_I M (pl 4) 4).toInt ∧ (nt_I M' (pl 14) 0).toInt = (nt_I M (pl 14) 0).toInt ∧ (nt_I M' (pl 14) 212).toInt = (nt_I M (pl 14) 212).toInt ∧ (nt_I M' (pl 14) 424).toInt = (nt_I M (pl 14) 424).toInt ∧ (nt_I M' (pl 14) 636).toInt = (nt_I M (pl 4) 0).toInt ∧ (nt_I M' (pl 14) 4).toInt = (nt_I M (pl 14) 4).toInt ∧ (nt_I M' (pl 14) 216).toInt = (nt_I M (pl 14) 216).toInt ∧ (nt_I M' (pl 14) 428).toInt = (nt_I M (pl 14) 428).toInt ∧ (nt_I M' (pl 14) 640).toInt = (nt_I M (pl 4) 4).toInt)) := by
  obtain ⟨r, hr, h11, h12, h13, h14, h15, h16, h17, h18, h19, h20, h21, h22⟩ : ∃ r : Nat → Int, (∀ s, s < 11 → r s = v s) ∧ r 11 = (nt_I M (pl 31) 1).toInt ∧ r 12 = (nt_I M (pl 31) 2).toInt ∧ r 13 = (nt_I M (pl 4) 0).toInt ∧ r 14 = (nt_I M (pl 4) 4).toInt ∧ r 15 = (nt_I M (pl 14) 0).toInt ∧ r 16 = (nt_I M (pl 14) 212).toInt ∧ r 17 = (nt_I M (pl 14) 424).toInt ∧ r 18 = (nt_I M (pl 14) 636).toInt ∧ r 19 = (nt_I M (pl 14) 4).toInt ∧ r 20 = (nt_I M (pl 14) 216).toInt ∧ r 21 = (nt_I M (pl 14) 428).toInt ∧ r 22 = (nt_I M (pl 14) 640).toInt := ⟨fun s => if s = 11 then (nt_I M (pl 31) 1).toInt else if s = 12 then (nt_I M (pl 31) 2).toInt else if s = 13 then (nt_I M (pl 4) 0).toInt else if s = 14 then (nt_I M (pl 4) 4).toInt else if s = 15 then (nt_I M (pl 14) 0).toInt else if s = 16 then (nt_I M (pl 14) 212).toInt else if s = 17 then (nt_I M (pl 14) 424).toInt else if s = 18 then (nt_I M (pl 14) 636).toInt else if s = 19 then (nt_I M (pl 14) 4).toInt else if s = 20 then (nt_I M (pl 14) 216).toInt else if s = 21 then (nt_I M (pl 14) 428).toInt else if s = 22 then (nt_I M (pl 14) 640).toInt else v s, fun s hs => by dsimp only; rw [if_neg (by omega), if_neg (by omega), if_neg (by omega), if_neg (by omega), if_neg (by omega), if_neg (by omega), if_neg (by omega), if_neg (by omega), if_neg (by omega), if_neg (by omega), if_neg (by omega), if_neg (by omega)], rfl, rfl, rfl, rfl, rfl, rfl, rfl, rfl, rfl, rfl, rfl, rfl⟩
  have hij := ly_ij (K := kk_wd_image3) rfl hB
  have hon := ly_app (K := kk_wd_image3) (ed := []) (ec := [((31, (1, [])), (0, [(11, 1)])), ((31, (2, [])), (0, [(12, 1)])), ((4, (0, [])), (0, [(13, 1)])), ((4, (4, [])), (0, [(14, 1)])), ((14, (0, [])), (0, [(15, 1)])), ((14, (212, [])), (0, [(16, 1)])), ((14, (424, [])), (0, [(17, 1)])), ((14, (636, [])), (0, [(18, 1)])), ((14, (4, [])), (0, [(19, 1)])), ((14, (216, [])), (0, [(20, 1)])), ((14, (428, [])), (0, [(21, 1)])), ((14, (640, [])), (0, [(22, 1)]))]) (er := []) rfl hB (fun _ _ => rfl) hr hij ly_nil (lw_oiC (g := 31) (j := 1) (by show 31 < 66; decide) (by decide) (by dsimp only; rw [sx_s_e]; exact h11.symm) (lw_oiC (g := 31) (j := 2) (by show 31 < 66; decide) (by decide) (by dsimp only; rw [sx_s_e]; exact h12.symm) (lw_oiC (g := 4) (j := 0) (by show 4 < 66; decide) (by decide) (by dsimp only; rw [sx_s_e]; exact h13.symm) (lw_oiC (g := 4) (j := 4) (by show 4 < 66; decide) (by decide) (by dsimp only; rw [sx_s_e]; exact h14.symm) (lw_oiC (g := 14) (j := 0) (by show 14 < 66; decide) (by decide) (by dsimp only; rw [sx_s_e]; exact h15.symm) (lw_oiC (g := 14) (j := 212) (by show 14 < 66; decide) (by decide) (by dsimp only; rw [sx_s_e]; exact h16.symm) (lw_oiC (g := 14) (j := 424) (by show 14 < 66; decide) (by decide) (by dsimp only; rw [sx_s_e]; exact h17.symm) (lw_oiC (g := 14) (j := 636) (by show 14 < 66; decide) (by decide) (by dsimp only; rw [sx_s_e]; exact h18.symm) (lw_oiC (g := 14) (j := 4) (by show 14 < 66; decide) (by decide) (by dsimp only; rw [sx_s_e]; exact h19.symm) (lw_oiC (g := 14) (j := 216) (by show 14 < 66; decide) (by decide) (by dsimp only; rw [sx_s_e]; exact h20.symm) (lw_oiC (g := 14) (j := 428) (by show 14 < 66; decide) (by decide) (by dsimp only; rw [sx_s_e]; exact h21.symm) (lw_oiC (g := 14) (j := 640) (by show 14 < 66; decide) (by decide) (by dsimp only; rw [sx_s_e]; exact h22.symm) (lw_oiN))))))))))))) (fun q hq => by cases hq) (ly_oba (ly_obr hr (ly_ob hB)) (ly_oba (ly_ob1 (by rw [h11]; exact hb11)) (ly_oba (ly_obI (x := nt_I M (pl 31) 2) h12) (ly_oba (ly_ob1 (by rw [h13]; exact hb13)) (ly_oba (ly_obI (x := nt_I M (pl 4) 4) h14) (ly_oba (ly_obI (x := nt_I M (pl 14) 0) h15) (ly_oba (ly_obI (x := nt_I M (pl 14) 212) h16) (ly_oba (ly_obI (x := nt_I M (pl 14) 424) h17) (ly_oba (ly_obI (x := nt_I M (pl 14) 636) h18) (ly_oba (ly_obI (x := nt_I M (pl 14) 4) h19) (ly_oba (ly_obI (x := nt_I M (pl 14) 216) h20) (ly_oba (ly_obI (x := nt_I M (pl 14) 428) h21) (ly_obI (x := nt_I M (pl 14) 640) h22))))))))))))) ly_oc0
  obtain ⟨p, hp, r', h2, h3⟩ := lw_app (ko_wd_image3 X) rfl hd hon (vs := [.ref (pl 0), .int (nI 3)]) ⟨rfl, ⟨_, rfl, by rw [sx_c_e]; decide⟩, trivial⟩ k
  have hr' : ∀ s, s < 23 → r' s = r s := fun s hs => h3.2.2.2.2.2.1 s hs
  obtain ⟨ov, M'⟩ := o
  rw [List.mem_singleton.mp hp] at h2 h3
  cases ov with
  | none => exact h2.elim
  | some w =>
    obtain ⟨y, rfl, hy⟩ := h2
    have hy : y.toInt = 0 + (1 * r' 14 + (0)) := hy
    have e0 : (nt_I M' (pl 31) 1).toInt = 0 + (1 * r' 11 + (0)) := lw_rd (g := 31) (j := 1) h3.2.2.1 (List.mem_of_getElem? (i := 0) rfl) (by decide)
    have e1 : (nt_I M' (pl 31) 2).toInt = 0 + (1 * r' 12 + (0)) := lw_rd (g := 31) (j := 2) h3.2.2.1 (List.mem_of_getElem? (i := 1) rfl) (by decide)
    have e2 : (nt_I M' (pl 4) 0).toInt = 0 + (1 * r' 13 + (0)) := lw_rd (g := 4) (j := 0) h3.2.2.1 (List.mem_of_getElem? (i := 2) rfl) (by decide)
    have e3 : (nt_I M' (pl 4) 4).toInt = 0 + (1 * r' 14 + (0)) := lw_rd (g := 4) (j := 4) h3.2.2.1 (List.mem_of_getElem? (i := 3) rfl) (by decide)
    have e4 : (nt_I M' (pl 14) 0).toInt = 0 + (1 * r' 15 + (0)) := lw_rd (g := 14) (j := 0) h3.2.2.1 (List.mem_of_getElem? (i := 4) rfl) (by decide)
    have e5 : (nt_I M' (pl 14) 212).toInt = 0 + (1 * r' 16 + (0)) := lw_rd (g := 14) (j := 212) h3.2.2.1 (List.mem_of_getElem? (i := 5) rfl) (by decide)
    have e6 : (nt_I M' (pl 14) 424).toInt = 0 + (1 * r' 17 + (0)) := lw_rd (g := 14) (j := 424) h3.2.2.1 (List.mem_of_getElem? (i := 6) rfl) (by decide)
    have e7 : (nt_I M' (pl 14) 636).toInt = 0 + (1 * r' 13 + (0)) := lw_rd (g := 14) (j := 636) h3.2.2.1 (List.mem_of_getElem? (i := 7) rfl) (by decide)
    have e8 : (nt_I M' (pl 14) 4).toInt = 0 + (1 * r' 19 + (0)) := lw_rd (g := 14) (j := 4) h3.2.2.1 (List.mem_of_getElem? (i := 8) rfl) (by decide)
    have e9 : (nt_I M' (pl 14) 216).toInt = 0 + (1 * r' 20 + (0)) := lw_rd (g := 14) (j := 216) h3.2.2.1 (List.mem_of_getElem? (i := 9) rfl) (by decide)
    have e10 : (nt_I M' (pl 14) 428).toInt = 0 + (1 * r' 21 + (0)) := lw_rd (g := 14) (j := 428) h3.2.2.1 (List.mem_of_getElem? (i := 10) rfl) (by decide)
    have e11 : (nt_I M' (pl 14) 640).toInt = 0 + (1 * r' 14 + (0)) := lw_rd (g := 14) (j := 640) h3.2.2.1 (List.mem_of_getElem? (i := 11) rfl) (by decide)
    have g11 := hr' 11 (by omega)
    rw [h11] at g11
    have g12 := hr' 12 (by omega)
    rw [h12] at g12
    have g13 := hr' 13 (by omega)
    rw [h13] at g13
    have g14 := hr' 14 (by omega)
    rw [h14] at g14
    have g15 := hr' 15 (by omega)
    rw [h15] at g15
    have g16 := hr' 16 (by omega)
    rw [h16] at g16
    have g17 := hr' 17 (by omega)
    rw [h17] at g17
    have g19 := hr' 19 (by omega)
    rw [h19] at g19
    have g20 := hr' 20 (by omega)
    rw [h20] at g20
    have g21 := hr' 21 (by omega)
    rw [h21] at g21
    exact ⟨y, M', rfl, ⟨by omega, e0.trans (lw_s g11), e1.trans (lw_s g12), e2.trans (lw_s g13), e3.trans (lw_s g14), e4.trans (lw_s g15), e5.trans (lw_s g16), e6.trans (lw_s g17), e7.trans (lw_s g13), e8.trans (lw_s g19), e9.trans (lw_s g20), e10.trans (lw_s g21), e11.trans (lw_s g14)⟩⟩
theorem lwd_back3 {X : nt_X} {pl : Nat → Nat} {v : Nat → Int} {M : nt_M} {d : Nat} {o : Option Value × nt_M} (hd : 1 ≤ d) (hB : ly_B pl v M) (hb11 : (0 : Int) ≤ (nt_I M (pl 31) 1).toInt ∧ (nt_I M (pl 31) 1).toInt ≤ 1) (hb13 : (0 : Int) ≤ (nt_I M (pl 4) 0).toInt ∧ (nt_I M (pl 4) 0).toInt ≤ 4) (hv6 : v 6 = 1) (k : nt_ev X d 235 [.ref (pl 0), .int (nI 3)] M o) : ∃ (y : Int32) (M' : nt_M), o = (some (.int y), M') ∧ ((y.toInt = (nt_I M (pl 14) 640).toInt ∧ (nt_I M' (pl 31) 1).toInt = (nt_I M (pl 31) 1).toInt ∧ (nt_I M' (pl 31) 2).toInt = (nt_I M (pl 31) 2).toInt ∧ (nt_I M' (pl 4) 0).toInt = (nt_I M (pl 14) 636).toInt ∧ (nt_I M' (pl 4) 4).toInt = (nt_I M (pl 14) 640).toInt ∧ (nt_I M' (pl 14) 0).toInt = (nt_I M (pl 14) 0).toInt ∧ (nt_I M' (pl 14) 212).toInt = (nt_I M (pl 14) 212).toInt ∧ (nt_I M' (pl 14) 424).toInt = (nt_I M (pl 14) 424).toInt ∧ (nt_I M' (pl 14) 636).toInt = (nt_I M (pl 14) 636).toInt ∧ (nt_I M' (pl 14) 4).toInt = (nt_I M (pl 14) 4).toInt ∧ (nt_I M' (pl 14) 216).toInt = (nt_I M (pl 14) 216).toInt ∧ (nt_I M' (pl 14) 428).toInt = (nt_I M (pl 14) 428).toInt ∧ (nt_I M' (pl 14) 640).toInt = (nt_I M (pl 14) 640).toInt)) := by
  obtain ⟨r, hr, h11, h12, h13, h14, h15, h16, h17, h18, h19, h20, h21, h22⟩ : ∃ r : Nat → Int, (∀ s, s < 11 → r s = v s) ∧ r 11 = (nt_I M (pl 31) 1).toInt ∧ r 12 = (nt_I M (pl 31) 2).toInt ∧ r 13 = (nt_I M (pl 4) 0).toInt ∧ r 14 = (nt_I M (pl 4) 4).toInt ∧ r 15 = (nt_I M (pl 14) 0).toInt ∧ r 16 = (nt_I M (pl 14) 212).toInt ∧ r 17 = (nt_I M (pl 14) 424).toInt ∧ r 18 = (nt_I M (pl 14) 636).toInt ∧ r 19 = (nt_I M (pl 14) 4).toInt ∧ r 20 = (nt_I M (pl 14) 216).toInt ∧ r 21 = (nt_I M (pl 14) 428).toInt ∧ r 22 = (nt_I M (pl 14) 640).toInt := ⟨fun s => if s = 11 then (nt_I M (pl 31) 1).toInt else if s = 12 then (nt_I M (pl 31) 2).toInt else if s = 13 then (nt_I M (pl 4) 0).toInt else if s = 14 then (nt_I M (pl 4) 4).toInt else if s = 15 then (nt_I M (pl 14) 0).toInt else if s = 16 then (nt_I M (pl 14) 212).toInt else if s = 17 then (nt_I M (pl 14) 424).toInt else if s = 18 then (nt_I M (pl 14) 636).toInt else if s = 19 then (nt_I M (pl 14) 4).toInt else if s = 20 then (nt_I M (pl 14) 216).toInt else if s = 21 then (nt_I M (pl 14) 428).toInt else if s = 22 then (nt_I M (pl 14) 640).toInt else v s, fun s hs => by dsimp only; rw [if_neg (by omega), if_neg (by omega), if_neg (by omega), if_neg (by omega), if_neg (by omega), if_neg (by omega), if_neg (by omega), if_neg (by omega), if_neg (by omega), if_neg (by omega), if_neg (by omega), if_neg (by omega)], rfl, rfl, rfl, rfl, rfl, rfl, rfl, rfl, rfl, rfl, rfl, rfl⟩
  have hij := ly_ij (K := kk_wd_back3) rfl hB
  have hon := ly_app (K := kk_wd_back3) (ed := []) (ec := [((31, (1, [])), (0, [(11, 1)])), ((31, (2, [])), (0, [(12, 1)])), ((4, (0, [])), (0, [(13, 1)])), ((4, (4, [])), (0, [(14, 1)])), ((14, (0, [])), (0, [(15, 1)])), ((14, (212, [])), (0, [(16, 1)])), ((14, (424, [])), (0, [(17, 1)])), ((14, (636, [])), (0, [(18, 1)])), ((14, (4, [])), (0, [(19, 1)])), ((14, (216, [])), (0, [(20, 1)])), ((14, (428, [])), (0, [(21, 1)])), ((14, (640, [])), (0, [(22, 1)]))]) (er := []) rfl hB (fun _ _ => rfl) hr hij ly_nil (lw_oiC (g := 31) (j := 1) (by show 31 < 66; decide) (by decide) (by dsimp only; rw [sx_s_e]; exact h11.symm) (lw_oiC (g := 31) (j := 2) (by show 31 < 66; decide) (by decide) (by dsimp only; rw [sx_s_e]; exact h12.symm) (lw_oiC (g := 4) (j := 0) (by show 4 < 66; decide) (by decide) (by dsimp only; rw [sx_s_e]; exact h13.symm) (lw_oiC (g := 4) (j := 4) (by show 4 < 66; decide) (by decide) (by dsimp only; rw [sx_s_e]; exact h14.symm) (lw_oiC (g := 14) (j := 0) (by show 14 < 66; decide) (by decide) (by dsimp only; rw [sx_s_e]; exact h15.symm) (lw_oiC (g := 14) (j := 212) (by show 14 < 66; decide) (by decide) (by dsimp only; rw [sx_s_e]; exact h16.symm) (lw_oiC (g := 14) (j := 424) (by show 14 < 66; decide) (by decide) (by dsimp only; rw [sx_s_e]; exact h17.symm) (lw_oiC (g := 14) (j := 636) (by show 14 < 66; decide) (by decide) (by dsimp only; rw [sx_s_e]; exact h18.symm) (lw_oiC (g := 14) (j := 4) (by show 14 < 66; decide) (by decide) (by dsimp only; rw [sx_s_e]; exact h19.symm) (lw_oiC (g := 14) (j := 216) (by show 14 < 66; decide) (by decide) (by dsimp only; rw [sx_s_e]; exact h20.symm) (lw_oiC (g := 14) (j := 428) (by show 14 < 66; decide) (by decide) (by dsimp only; rw [sx_s_e]; exact h21.symm) (lw_oiC (g := 14) (j := 640) (by show 14 < 66; decide) (by decide) (by dsimp only; rw [sx_s_e]; exact h22.symm) (lw_oiN))))))))))))) (fun q hq => by cases hq) (ly_oba (ly_oba (ly_ob1 (by rw [hr 6 (by omega), hv6]; omega)) (ly_obr hr (ly_ob hB))) (ly_oba (ly_ob1 (by rw [h11]; exact hb11)) (ly_oba (ly_obI (x := nt_I M (pl 31) 2) h12) (ly_oba (ly_ob1 (by rw [h13]; exact hb13)) (ly_oba (ly_obI (x := nt_I M (pl 4) 4) h14) (ly_oba (ly_obI (x := nt_I M (pl 14) 0) h15) (ly_oba (ly_obI (x := nt_I M (pl 14) 212) h16) (ly_oba (ly_obI (x := nt_I M (pl 14) 424) h17) (ly_oba (ly_obI (x := nt_I M (pl 14) 636) h18) (ly_oba (ly_obI (x := nt_I M (pl 14) 4) h19) (ly_oba (ly_obI (x := nt_I M (pl 14) 216) h20) (ly_oba (ly_obI (x := nt_I M (pl 14) 428) h21) (ly_obI (x := nt_I M (pl 14) 640) h22))))))))))))) ly_oc0
  obtain ⟨p, hp, r', h2, h3⟩ := lw_app (ko_wd_back3 X) rfl hd hon (vs := [.ref (pl 0), .int (nI 3)]) ⟨rfl, ⟨_, rfl, by rw [sx_c_e]; decide⟩, trivial⟩ k
  have hr' : ∀ s, s < 23 → r' s = r s := fun s hs => h3.2.2.2.2.2.1 s hs
  obtain ⟨ov, M'⟩ := o
  rw [List.mem_singleton.mp hp] at h2 h3
  cases ov with
  | none => exact h2.elim
  | some w =>
    obtain ⟨y, rfl, hy⟩ := h2
    have hy : y.toInt = 0 + (1 * r' 22 + (0)) := hy
    have e0 : (nt_I M' (pl 31) 1).toInt = 0 + (1 * r' 11 + (0)) := lw_rd (g := 31) (j := 1) h3.2.2.1 (List.mem_of_getElem? (i := 0) rfl) (by decide)
    have e1 : (nt_I M' (pl 31) 2).toInt = 0 + (1 * r' 12 + (0)) := lw_rd (g := 31) (j := 2) h3.2.2.1 (List.mem_of_getElem? (i := 1) rfl) (by decide)
    have e2 : (nt_I M' (pl 4) 0).toInt = 0 + (1 * r' 18 + (0)) := lw_rd (g := 4) (j := 0) h3.2.2.1 (List.mem_of_getElem? (i := 2) rfl) (by decide)
    have e3 : (nt_I M' (pl 4) 4).toInt = 0 + (1 * r' 22 + (0)) := lw_rd (g := 4) (j := 4) h3.2.2.1 (List.mem_of_getElem? (i := 3) rfl) (by decide)
    have e4 : (nt_I M' (pl 14) 0).toInt = 0 + (1 * r' 15 + (0)) := lw_rd (g := 14) (j := 0) h3.2.2.1 (List.mem_of_getElem? (i := 4) rfl) (by decide)
    have e5 : (nt_I M' (pl 14) 212).toInt = 0 + (1 * r' 16 + (0)) := lw_rd (g := 14) (j := 212) h3.2.2.1 (List.mem_of_getElem? (i := 5) rfl) (by decide)
    have e6 : (nt_I M' (pl 14) 424).toInt = 0 + (1 * r' 17 + (0)) := lw_rd (g := 14) (j := 424) h3.2.2.1 (List.mem_of_getElem? (i := 6) rfl) (by decide)
    have e7 : (nt_I M' (pl 14) 636).toInt = 0 + (1 * r' 18 + (0)) := lw_rd (g := 14) (j := 636) h3.2.2.1 (List.mem_of_getElem? (i := 7) rfl) (by decide)
    have e8 : (nt_I M' (pl 14) 4).toInt = 0 + (1 * r' 19 + (0)) := lw_rd (g := 14) (j := 4) h3.2.2.1 (List.mem_of_getElem? (i := 8) rfl) (by decide)
    have e9 : (nt_I M' (pl 14) 216).toInt = 0 + (1 * r' 20 + (0)) := lw_rd (g := 14) (j := 216) h3.2.2.1 (List.mem_of_getElem? (i := 9) rfl) (by decide)
    have e10 : (nt_I M' (pl 14) 428).toInt = 0 + (1 * r' 21 + (0)) := lw_rd (g := 14) (j := 428) h3.2.2.1 (List.mem_of_getElem? (i := 10) rfl) (by decide)
    have e11 : (nt_I M' (pl 14) 640).toInt = 0 + (1 * r' 22 + (0)) := lw_rd (g := 14) (j := 640) h3.2.2.1 (List.mem_of_getElem? (i := 11) rfl) (by decide)
    have g11 := hr' 11 (by omega)
    rw [h11] at g11
    have g12 := hr' 12 (by omega)
    rw [h12] at g12
    have g15 := hr' 15 (by omega)
    rw [h15] at g15
    have g16 := hr' 16 (by omega)
    rw [h16] at g16
    have g17 := hr' 17 (by omega)
    rw [h17] at g17
    have g18 := hr' 18 (by omega)
    rw [h18] at g18
    have g19 := hr' 19 (by omega)
    rw [h19] at g19
    have g20 := hr' 20 (by omega)
    rw [h20] at g20
    have g21 := hr' 21 (by omega)
    rw [h21] at g21
    have g22 := hr' 22 (by omega)
    rw [h22] at g22
    exact ⟨y, M', rfl, ⟨by omega, e0.trans (lw_s g11), e1.trans (lw_s g12), e2.trans (lw_s g18), e3.trans (lw_s g22), e4.trans (lw_s g15), e5.trans (lw_s g16), e6.trans (lw_s g17), e7.trans (lw_s g18), e8.trans (lw_s g19), e9.trans (lw_s g20), e10.trans (lw_s g21), e11.trans (lw_s g22)⟩⟩
theorem lwd_back3N {X : nt_X} {pl : Nat → Nat} {v : Nat → Int} {M : nt_M} {d : Nat} {o : Option Value × nt_M} (hd : 1 ≤ d) (hB : ly_B pl v M) (hb11 : (0 : Int) ≤ (nt_I M (pl 31) 1).toInt ∧ (nt_I M (pl 31) 1).toInt ≤ 1) (hb13 : (0 : Int) ≤ (nt_I M (pl 4) 0).toInt ∧ (nt_I M (pl 4) 0).toInt ≤ 4) (hv6 : v 6 = 0) (k : nt_ev X d 235 [.ref (pl 0), .int (nI 3)] M o) : ∃ (y : Int32) (M' : nt_M), o = (some (.int y), M') ∧ ((y.toInt = -1 ∧ (nt_I M' (pl 31) 1).toInt = (nt_I M (pl 31) 1).toInt ∧ (nt_I M' (pl 31) 2).toInt = (nt_I M (pl 31) 2).toInt ∧ (nt_I M' (pl 4) 0).toInt = (nt_I M (pl 4) 0).toInt ∧ (nt_I M' (pl 4) 4).toInt = (nt_I M (pl 4) 4).toInt ∧ (nt_I M' (pl 14) 0).toInt = (nt_I M (pl 14) 0).toInt ∧ (nt_I M' (pl 14) 212).toInt = (nt_I M (pl 14) 212).toInt ∧ (nt_I M' (pl 14) 424).toInt = (nt_I M (pl 14) 424).toInt ∧ (nt_I M' (pl 14) 636).toInt = (nt_I M (pl 14) 636).toInt ∧ (nt_I M' (pl 14) 4).toInt = (nt_I M (pl 14) 4).toInt ∧ (nt_I M' (pl 14) 216).toInt = (nt_I M (pl 14) 216).toInt ∧ (nt_I M' (pl 14) 428).toInt = (nt_I M (pl 14) 428).toInt ∧ (nt_I M' (pl 14) 640).toInt = (nt_I M (pl 14) 640).toInt)) := by
  obtain ⟨r, hr, h11, h12, h13, h14, h15, h16, h17, h18, h19, h20, h21, h22⟩ : ∃ r : Nat → Int, (∀ s, s < 11 → r s = v s) ∧ r 11 = (nt_I M (pl 31) 1).toInt ∧ r 12 = (nt_I M (pl 31) 2).toInt ∧ r 13 = (nt_I M (pl 4) 0).toInt ∧ r 14 = (nt_I M (pl 4) 4).toInt ∧ r 15 = (nt_I M (pl 14) 0).toInt ∧ r 16 = (nt_I M (pl 14) 212).toInt ∧ r 17 = (nt_I M (pl 14) 424).toInt ∧ r 18 = (nt_I M (pl 14) 636).toInt ∧ r 19 = (nt_I M (pl 14) 4).toInt ∧ r 20 = (nt_I M (pl 14) 216).toInt ∧ r 21 = (nt_I M (pl 14) 428).toInt ∧ r 22 = (nt_I M (pl 14) 640).toInt := ⟨fun s => if s = 11 then (nt_I M (pl 31) 1).toInt else if s = 12 then (nt_I M (pl 31) 2).toInt else if s = 13 then (nt_I M (pl 4) 0).toInt else if s = 14 then (nt_I M (pl 4) 4).toInt else if s = 15 then (nt_I M (pl 14) 0).toInt else if s = 16 then (nt_I M (pl 14) 212).toInt else if s = 17 then (nt_I M (pl 14) 424).toInt else if s = 18 then (nt_I M (pl 14) 636).toInt else if s = 19 then (nt_I M (pl 14) 4).toInt else if s = 20 then (nt_I M (pl 14) 216).toInt else if s = 21 then (nt_I M (pl 14) 428).toInt else if s = 22 then (nt_I M (pl 14) 640).toInt else v s, fun s hs => by dsimp only; rw [if_neg (by omega), if_neg (by omega), if_neg (by omega), if_neg (by omega), if_neg (by omega), if_neg (by omega), if_neg (by omega), if_neg (by omega), if_neg (by omega), if_neg (by omega), if_neg (by omega), if_neg (by omega)], rfl, rfl, rfl, rfl, rfl, rfl, rfl, rfl, rfl, rfl, rfl, rfl⟩
  have hij := ly_ij (K := kk_wd_back3N) rfl hB
  have hon := ly_app (K := kk_wd_back3N) (ed := []) (ec := [((31, (1, [])), (0, [(11, 1)])), ((31, (2, [])), (0, [(12, 1)])), ((4, (0, [])), (0, [(13, 1)])), ((4, (4, [])), (0, [(14, 1)])), ((14, (0, [])), (0, [(15, 1)])), ((14, (212, [])), (0, [(16, 1)])), ((14, (424, [])), (0, [(17, 1)])), ((14, (636, [])), (0, [(18, 1)])), ((14, (4, [])), (0, [(19, 1)])), ((14, (216, [])), (0, [(20, 1)])), ((14, (428, [])), (0, [(21, 1)])), ((14, (640, [])), (0, [(22, 1)]))]) (er := []) rfl hB (fun _ _ => rfl) hr hij ly_nil (lw_oiC (g := 31) (j := 1) (by show 31 < 66; decide) (by decide) (by dsimp only; rw [sx_s_e]; exact h11.symm) (lw_oiC (g := 31) (j := 2) (by show 31 < 66; decide) (by decide) (by dsimp only; rw [sx_s_e]; exact h12.symm) (lw_oiC (g := 4) (j := 0) (by show 4 < 66; decide) (by decide) (by dsimp only; rw [sx_s_e]; exact h13.symm) (lw_oiC (g := 4) (j := 4) (by show 4 < 66; decide) (by decide) (by dsimp only; rw [sx_s_e]; exact h14.symm) (lw_oiC (g := 14) (j := 0) (by show 14 < 66; decide) (by decide) (by dsimp only; rw [sx_s_e]; exact h15.symm) (lw_oiC (g := 14) (j := 212) (by show 14 < 66; decide) (by decide) (by dsimp only; rw [sx_s_e]; exact h16.symm) (lw_oiC (g := 14) (j := 424) (by show 14 < 66; decide) (by decide) (by dsimp only; rw [sx_s_e]; exact h17.symm) (lw_oiC (g := 14) (j := 636) (by show 14 < 66; decide) (by decide) (by dsimp only; rw [sx_s_e]; exact h18.symm) (lw_oiC (g := 14) (j := 4) (by show 14 < 66; decide) (by decide) (by dsimp only; rw [sx_s_e]; exact h19.symm) (lw_oiC (g := 14) (j := 216) (by show 14 < 66; decide) (by decide) (by dsimp only; rw [sx_s_e]; exact h20.symm) (lw_oiC (g := 14) (j := 428) (by show 14 < 66; decide) (by decide) (by dsimp only; rw [sx_s_e]; exact h21.symm) (lw_oiC (g := 14) (j := 640) (by show 14 < 66; decide) (by decide) (by dsimp only; rw [sx_s_e]; exact h22.symm) (lw_oiN))))))))))))) (fun q hq => by cases hq) (ly_oba (ly_oba (ly_ob1 (by rw [hr 6 (by omega), hv6]; omega)) (ly_obr hr (ly_ob hB))) (ly_oba (ly_ob1 (by rw [h11]; exact hb11)) (ly_oba (ly_obI (x := nt_I M (pl 31) 2) h12) (ly_oba (ly_ob1 (by rw [h13]; exact hb13)) (ly_oba (ly_obI (x := nt_I M (pl 4) 4) h14) (ly_oba (ly_obI (x := nt_I M (pl 14) 0) h15) (ly_oba (ly_obI (x := nt_I M (pl 14) 212) h16) (ly_oba (ly_obI (x := nt_I M (pl 14) 424) h17) (ly_oba (ly_obI (x := nt_I M (pl 14) 636) h18) (ly_oba (ly_obI (x := nt_I M (pl 14) 4) h19) (ly_oba (ly_obI (x := nt_I M (pl 14) 216) h20) (ly_oba (ly_obI (x := nt_I M (pl 14) 428) h21) (ly_obI (x := nt_I M (pl 14) 640) h22))))))))))))) ly_oc0
  obtain ⟨p, hp, r', h2, h3⟩ := lw_app (ko_wd_back3N X) rfl hd hon (vs := [.ref (pl 0), .int (nI 3)]) ⟨rfl, ⟨_, rfl, by rw [sx_c_e]; decide⟩, trivial⟩ k
  have hr' : ∀ s, s < 23 → r' s = r s := fun s hs => h3.2.2.2.2.2.1 s hs
  obtain ⟨ov, M'⟩ := o
  rw [List.mem_singleton.mp hp] at h2 h3
  cases ov with
  | none => exact h2.elim
  | some w =>
    obtain ⟨y, rfl, hy⟩ := h2
    have hy : y.toInt = (-1) + 0 := hy
    have e0 : (nt_I M' (pl 31) 1).toInt = 0 + (1 * r' 11 + (0)) := lw_rd (g := 31) (j := 1) h3.2.2.1 (List.mem_of_getElem? (i := 0) rfl) (by decide)
    have e1 : (nt_I M' (pl 31) 2).toInt = 0 + (1 * r' 12 + (0)) := lw_rd (g := 31) (j := 2) h3.2.2.1 (List.mem_of_getElem? (i := 1) rfl) (by decide)
    have e2 : (nt_I M' (pl 4) 0).toInt = 0 + (1 * r' 13 + (0)) := lw_rd (g := 4) (j := 0) h3.2.2.1 (List.mem_of_getElem? (i := 2) rfl) (by decide)
    have e3 : (nt_I M' (pl 4) 4).toInt = 0 + (1 * r' 14 + (0)) := lw_rd (g := 4) (j := 4) h3.2.2.1 (List.mem_of_getElem? (i := 3) rfl) (by decide)
    have e4 : (nt_I M' (pl 14) 0).toInt = 0 + (1 * r' 15 + (0)) := lw_rd (g := 14) (j := 0) h3.2.2.1 (List.mem_of_getElem? (i := 4) rfl) (by decide)
    have e5 : (nt_I M' (pl 14) 212).toInt = 0 + (1 * r' 16 + (0)) := lw_rd (g := 14) (j := 212) h3.2.2.1 (List.mem_of_getElem? (i := 5) rfl) (by decide)
    have e6 : (nt_I M' (pl 14) 424).toInt = 0 + (1 * r' 17 + (0)) := lw_rd (g := 14) (j := 424) h3.2.2.1 (List.mem_of_getElem? (i := 6) rfl) (by decide)
    have e7 : (nt_I M' (pl 14) 636).toInt = 0 + (1 * r' 18 + (0)) := lw_rd (g := 14) (j := 636) h3.2.2.1 (List.mem_of_getElem? (i := 7) rfl) (by decide)
    have e8 : (nt_I M' (pl 14) 4).toInt = 0 + (1 * r' 19 + (0)) := lw_rd (g := 14) (j := 4) h3.2.2.1 (List.mem_of_getElem? (i := 8) rfl) (by decide)
    have e9 : (nt_I M' (pl 14) 216).toInt = 0 + (1 * r' 20 + (0)) := lw_rd (g := 14) (j := 216) h3.2.2.1 (List.mem_of_getElem? (i := 9) rfl) (by decide)
    have e10 : (nt_I M' (pl 14) 428).toInt = 0 + (1 * r' 21 + (0)) := lw_rd (g := 14) (j := 428) h3.2.2.1 (List.mem_of_getElem? (i := 10) rfl) (by decide)
    have e11 : (nt_I M' (pl 14) 640).toInt = 0 + (1 * r' 22 + (0)) := lw_rd (g := 14) (j := 640) h3.2.2.1 (List.mem_of_getElem? (i := 11) rfl) (by decide)
    have g11 := hr' 11 (by omega)
    rw [h11] at g11
    have g12 := hr' 12 (by omega)
    rw [h12] at g12
    have g13 := hr' 13 (by omega)
    rw [h13] at g13
    have g14 := hr' 14 (by omega)
    rw [h14] at g14
    have g15 := hr' 15 (by omega)
    rw [h15] at g15
    have g16 := hr' 16 (by omega)
    rw [h16] at g16
    have g17 := hr' 17 (by omega)
    rw [h17] at g17
    have g18 := hr' 18 (by omega)
    rw [h18] at g18
    have g19 := hr' 19 (by omega)
    rw [h19] at g19
    have g20 := hr' 20 (by omega)
    rw [h20] at g20
    have g21 := hr' 21 (by omega)
    rw [h21] at g21
    have g22 := hr' 22 (by omega)
    rw [h22] at g22
    exact ⟨y, M', rfl, ⟨by omega, e0.trans (lw_s g11), e1.trans (lw_s g12), e2.trans (lw_s g13), e3.trans (lw_s g14), e4.trans (lw_s g15), e5.trans (lw_s g16), e6.trans (lw_s g17), e7.trans (lw_s g18), e8.trans (lw_s g19), e9.trans (lw_s g20), e10.trans (lw_s g21), e11.trans (lw_s g22)⟩⟩
theorem lwd_n_imageL {X : nt_X} {pl : Nat → Nat} {v : Nat → Int} {M : nt_M} {d : Nat} {o : Option Value × nt_M} {b0 : Int32} (hd : 0 ≤ d) (hB : ly_B pl v M) (hb11 : (0 : Int) ≤ (nt_I M (pl 31) 1).toInt ∧ (nt_I M (pl 31) 1).toInt ≤ 1) (hb13 : (0 : Int) ≤ (nt_I M (pl 4) 0).toInt ∧ (nt_I M (pl 4) 0).toInt ≤ 4) (hb23 : (-2147483648 : Int) ≤ b0.toInt ∧ b0.toInt ≤ -1) (k : nt_ev X d 127 [.ref (pl 16), .int b0] M o) : ∃ (y : Int32) (M' : nt_M), o = (some (.int y), M') ∧ ((y.toInt = -1 ∧ (nt_I M' (pl 31) 1).toInt = (nt_I M (pl 31) 1).toInt ∧ (nt_I M' (pl 31) 2).toInt = (nt_I M (pl 31) 2).toInt ∧ (nt_I M' (pl 4) 0).toInt = (nt_I M (pl 4) 0).toInt ∧ (nt_I M' (pl 4) 4).toInt = (nt_I M (pl 4) 4).toInt ∧ (nt_I M' (pl 14) 0).toInt = (nt_I M (pl 14) 0).toInt ∧ (nt_I M' (pl 14) 212).toInt = (nt_I M (pl 14) 212).toInt ∧ (nt_I M' (pl 14) 424).toInt = (nt_I M (pl 14) 424).toInt ∧ (nt_I M' (pl 14) 636).toInt = (nt_I M (pl 14) 636).toInt ∧ (nt_I M' (pl 14) 4).toInt = (nt_I M (pl 14) 4).toInt ∧ (nt_I M' (pl 14) 216).toInt = (nt_I M (pl 14) 216).toInt ∧ (nt_I M' (pl 14) 428).toInt = (nt_I M (pl 14) 428).toInt ∧ (nt_I M' (pl 14) 640).toInt = (nt_I M (pl 14) 640).toInt)) := by
  obtain ⟨r, hr, h11, h12, h13, h14, h15, h16, h17, h18, h19, h20, h21, h22, h23⟩ : ∃ r : Nat → Int, (∀ s, s < 11 → r s = v s) ∧ r 11 = (nt_I M (pl 31) 1).toInt ∧ r 12 = (nt_I M (pl 31) 2).toInt ∧ r 13 = (nt_I M (pl 4) 0).toInt ∧ r 14 = (nt_I M (pl 4) 4).toInt ∧ r 15 = (nt_I M (pl 14) 0).toInt ∧ r 16 = (nt_I M (pl 14) 212).toInt ∧ r 17 = (nt_I M (pl 14) 424).toInt ∧ r 18 = (nt_I M (pl 14) 636).toInt ∧ r 19 = (nt_I M (pl 14) 4).toInt ∧ r 20 = (nt_I M (pl 14) 216).toInt ∧ r 21 = (nt_I M (pl 14) 428).toInt ∧ r 22 = (nt_I M (pl 14) 640).toInt ∧ r 23 = b0.toInt := ⟨fun s => if s = 11 then (nt_I M (pl 31) 1).toInt else if s = 12 then (nt_I M (pl 31) 2).toInt else if s = 13 then (nt_I M (pl 4) 0).toInt else if s = 14 then (nt_I M (pl 4) 4).toInt else if s = 15 then (nt_I M (pl 14) 0).toInt else if s = 16 then (nt_I M (pl 14) 212).toInt else if s = 17 then (nt_I M (pl 14) 424).toInt else if s = 18 then (nt_I M (pl 14) 636).toInt else if s = 19 then (nt_I M (pl 14) 4).toInt else if s = 20 then (nt_I M (pl 14) 216).toInt else if s = 21 then (nt_I M (pl 14) 428).toInt else if s = 22 then (nt_I M (pl 14) 640).toInt else if s = 23 then b0.toInt else v s, fun s hs => by dsimp only; rw [if_neg (by omega), if_neg (by omega), if_neg (by omega), if_neg (by omega), if_neg (by omega), if_neg (by omega), if_neg (by omega), if_neg (by omega), if_neg (by omega), if_neg (by omega), if_neg (by omega), if_neg (by omega), if_neg (by omega)], rfl, rfl, rfl, rfl, rfl, rfl, rfl, rfl, rfl, rfl, rfl, rfl, rfl⟩
  have hij := ly_ij (K := kk_wd_n_imageL) rfl hB
  have hon := ly_app (K := kk_wd_n_imageL) (ed := []) (ec := [((31, (1, [])), (0, [(11, 1)])), ((31, (2, [])), (0, [(12, 1)])), ((4, (0, [])), (0, [(13, 1)])), ((4, (4, [])), (0, [(14, 1)])), ((14, (0, [])), (0, [(15, 1)])), ((14, (212, [])), (0, [(16, 1)])), ((14, (424, [])), (0, [(17, 1)])), ((14, (636, [])), (0, [(18, 1)])), ((14, (4, [])), (0, [(19, 1)])), ((14, (216, [])), (0, [(20, 1)])), ((14, (428, [])), (0, [(21, 1)])), ((14, (640, [])), (0, [(22, 1)]))]) (er := []) rfl hB (fun _ _ => rfl) hr hij ly_nil (lw_oiC (g := 31) (j := 1) (by show 31 < 66; decide) (by decide) (by dsimp only; rw [sx_s_e]; exact h11.symm) (lw_oiC (g := 31) (j := 2) (by show 31 < 66; decide) (by decide) (by dsimp only; rw [sx_s_e]; exact h12.symm) (lw_oiC (g := 4) (j := 0) (by show 4 < 66; decide) (by decide) (by dsimp only; rw [sx_s_e]; exact h13.symm) (lw_oiC (g := 4) (j := 4) (by show 4 < 66; decide) (by decide) (by dsimp only; rw [sx_s_e]; exact h14.symm) (lw_oiC (g := 14) (j := 0) (by show 14 < 66; decide) (by decide) (by dsimp only; rw [sx_s_e]; exact h15.symm) (lw_oiC (g := 14) (j := 212) (by show 14 < 66; decide) (by decide) (by dsimp only; rw [sx_s_e]; exact h16.symm) (lw_oiC (g := 14) (j := 424) (by show 14 < 66; decide) (by decide) (by dsimp only; rw [sx_s_e]; exact h17.symm) (lw_oiC (g := 14) (j := 636) (by show 14 < 66; decide) (by decide) (by dsimp only; rw [sx_s_e]; exact h18.symm) (lw_oiC (g := 14) (j := 4) (by show 14 < 66; decide) (by decide) (by dsimp only; rw [sx_s_e]; exact h19.symm) (lw_oiC (g := 14) (j := 216) (by show 14 < 66; decide) (by decide) (by dsimp only; rw [sx_s_e]; exact h20.symm) (lw_oiC (g := 14) (j := 428) (by show 14 < 66; decide) (by decide) (by dsimp only; rw [sx_s_e]; exact h21.symm) (lw_oiC (g := 14) (j := 640) (by show 14 < 66; decide) (by decide) (by dsimp only; rw [sx_s_e]; exact h22.symm) (lw_oiN))))))))))))) (fun q hq => by cases hq) (ly_oba (ly_obr hr (ly_ob hB)) (ly_oba (ly_ob1 (by rw [h11]; exact hb11)) (ly_oba (ly_obI (x := nt_I M (pl 31) 2) h12) (ly_oba (ly_ob1 (by rw [h13]; exact hb13)) (ly_oba (ly_obI (x := nt_I M (pl 4) 4) h14) (ly_oba (ly_obI (x := nt_I M (pl 14) 0) h15) (ly_oba (ly_obI (x := nt_I M (pl 14) 212) h16) (ly_oba (ly_obI (x := nt_I M (pl 14) 424) h17) (ly_oba (ly_obI (x := nt_I M (pl 14) 636) h18) (ly_oba (ly_obI (x := nt_I M (pl 14) 4) h19) (ly_oba (ly_obI (x := nt_I M (pl 14) 216) h20) (ly_oba (ly_obI (x := nt_I M (pl 14) 428) h21) (ly_oba (ly_obI (x := nt_I M (pl 14) 640) h22) (ly_ob1 (by rw [h23]; exact hb23))))))))))))))) ly_oc0
  obtain ⟨p, hp, r', h2, h3⟩ := lw_app (ko_wd_n_imageL X) rfl hd hon (vs := [.ref (pl 16), .int b0]) ⟨rfl, ⟨b0, rfl, (ly_e1 h23).symm⟩, trivial⟩ k
  have hr' : ∀ s, s < 24 → r' s = r s := fun s hs => h3.2.2.2.2.2.1 s hs
  obtain ⟨ov, M'⟩ := o
  rw [List.mem_singleton.mp hp] at h2 h3
  cases ov with
  | none => exact h2.elim
  | some w =>
    obtain ⟨y, rfl, hy⟩ := h2
    have hy : y.toInt = (-1) + 0 := hy
    have e0 : (nt_I M' (pl 31) 1).toInt = 0 + (1 * r' 11 + (0)) := lw_rd (g := 31) (j := 1) h3.2.2.1 (List.mem_of_getElem? (i := 0) rfl) (by decide)
    have e1 : (nt_I M' (pl 31) 2).toInt = 0 + (1 * r' 12 + (0)) := lw_rd (g := 31) (j := 2) h3.2.2.1 (List.mem_of_getElem? (i := 1) rfl) (by decide)
    have e2 : (nt_I M' (pl 4) 0).toInt = 0 + (1 * r' 13 + (0)) := lw_rd (g := 4) (j := 0) h3.2.2.1 (List.mem_of_getElem? (i := 2) rfl) (by decide)
    have e3 : (nt_I M' (pl 4) 4).toInt = 0 + (1 * r' 14 + (0)) := lw_rd (g := 4) (j := 4) h3.2.2.1 (List.mem_of_getElem? (i := 3) rfl) (by decide)
    have e4 : (nt_I M' (pl 14) 0).toInt = 0 + (1 * r' 15 + (0)) := lw_rd (g := 14) (j := 0) h3.2.2.1 (List.mem_of_getElem? (i := 4) rfl) (by decide)
    have e5 : (nt_I M' (pl 14) 212).toInt = 0 + (1 * r' 16 + (0)) := lw_rd (g := 14) (j := 212) h3.2.2.1 (List.mem_of_getElem? (i := 5) rfl) (by decide)
    have e6 : (nt_I M' (pl 14) 424).toInt = 0 + (1 * r' 17 + (0)) := lw_rd (g := 14) (j := 424) h3.2.2.1 (List.mem_of_getElem? (i := 6) rfl) (by decide)
    have e7 : (nt_I M' (pl 14) 636).toInt = 0 + (1 * r' 18 + (0)) := lw_rd (g := 14) (j := 636) h3.2.2.1 (List.mem_of_getElem? (i := 7) rfl) (by decide)
    have e8 : (nt_I M' (pl 14) 4).toInt = 0 + (1 * r' 19 + (0)) := lw_rd (g := 14) (j := 4) h3.2.2.1 (List.mem_of_getElem? (i := 8) rfl) (by decide)
    have e9 : (nt_I M' (pl 14) 216).toInt = 0 + (1 * r' 20 + (0)) := lw_rd (g := 14) (j := 216) h3.2.2.1 (List.mem_of_getElem? (i := 9) rfl) (by decide)
    have e10 : (nt_I M' (pl 14) 428).toInt = 0 + (1 * r' 21 + (0)) := lw_rd (g := 14) (j := 428) h3.2.2.1 (List.mem_of_getElem? (i := 10) rfl) (by decide)
    have e11 : (nt_I M' (pl 14) 640).toInt = 0 + (1 * r' 22 + (0)) := lw_rd (g := 14) (j := 640) h3.2.2.1 (List.mem_of_getElem? (i := 11) rfl) (by decide)
    have g11 := hr' 11 (by omega)
    rw [h11] at g11
    have g12 := hr' 12 (by omega)
    rw [h12] at g12
    have g13 := hr' 13 (by omega)
    rw [h13] at g13
    have g14 := hr' 14 (by omega)
    rw [h14] at g14
    have g15 := hr' 15 (by omega)
    rw [h15] at g15
    have g16 := hr' 16 (by omega)
    rw [h16] at g16
    have g17 := hr' 17 (by omega)
    rw [h17] at g17
    have g18 := hr' 18 (by omega)
    rw [h18] at g18
    have g19 := hr' 19 (by omega)
    rw [h19] at g19
    have g20 := hr' 20 (by omega)
    rw [h20] at g20
    have g21 := hr' 21 (by omega)
    rw [h21] at g21
    have g22 := hr' 22 (by omega)
    rw [h22] at g22
    exact ⟨y, M', rfl, ⟨by omega, e0.trans (lw_s g11), e1.trans (lw_s g12), e2.trans (lw_s g13), e3.trans (lw_s g14), e4.trans (lw_s g15), e5.trans (lw_s g16), e6.trans (lw_s g17), e7.trans (lw_s g18), e8.trans (lw_s g19), e9.trans (lw_s g20), e10.trans (lw_s g21), e11.trans (lw_s g22)⟩⟩
theorem lwd_imageL {X : nt_X} {pl : Nat → Nat} {v : Nat → Int} {M : nt_M} {d : Nat} {o : Option Value × nt_M} {b0 : Int32} (hd : 1 ≤ d) (hB : ly_B pl v M) (hb11 : (0 : Int) ≤ (nt_I M (pl 31) 1).toInt ∧ (nt_I M (pl 31) 1).toInt ≤ 1) (hb13 : (0 : Int) ≤ (nt_I M (pl 4) 0).toInt ∧ (nt_I M (pl 4) 0).toInt ≤ 4) (hb23 : (-2147483648 : Int) ≤ b0.toInt ∧ b0.toInt ≤ -1) (k : nt_ev X d 234 [.ref (pl 0), .int b0] M o) : ∃ (y : Int32) (M' : nt_M), o = (some (.int y), M') ∧ ((y.toInt = -1 ∧ (nt_I M' (pl 31) 1).toInt = (nt_I M (pl 31) 1).toInt ∧ (nt_I M' (pl 31) 2).toInt = (nt_I M (pl 31) 2).toInt ∧ (nt_I M' (pl 4) 0).toInt = (nt_I M (pl 4) 0).toInt ∧ (nt_I M' (pl 4) 4).toInt = (nt_I M (pl 4) 4).toInt ∧ (nt_I M' (pl 14) 0).toInt = (nt_I M (pl 14) 0).toInt ∧ (nt_I M' (pl 14) 212).toInt = (nt_I M (pl 14) 212).toInt ∧ (nt_I M' (pl 14) 424).toInt = (nt_I M (pl 14) 424).toInt ∧ (nt_I M' (pl 14) 636).toInt = (nt_I M (pl 14) 636).toInt ∧ (nt_I M' (pl 14) 4).toInt = (nt_I M (pl 14) 4).toInt ∧ (nt_I M' (pl 14) 216).toInt = (nt_I M (pl 14) 216).toInt ∧ (nt_I M' (pl 14) 428).toInt = (nt_I M (pl 14) 428).toInt ∧ (nt_I M' (pl 14) 640).toInt = (nt_I M (pl 14) 640).toInt)) := by
  obtain ⟨r, hr, h11, h12, h13, h14, h15, h16, h17, h18, h19, h20, h21, h22, h23⟩ : ∃ r : Nat → Int, (∀ s, s < 11 → r s = v s) ∧ r 11 = (nt_I M (pl 31) 1).toInt ∧ r 12 = (nt_I M (pl 31) 2).toInt ∧ r 13 = (nt_I M (pl 4) 0).toInt ∧ r 14 = (nt_I M (pl 4) 4).toInt ∧ r 15 = (nt_I M (pl 14) 0).toInt ∧ r 16 = (nt_I M (pl 14) 212).toInt ∧ r 17 = (nt_I M (pl 14) 424).toInt ∧ r 18 = (nt_I M (pl 14) 636).toInt ∧ r 19 = (nt_I M (pl 14) 4).toInt ∧ r 20 = (nt_I M (pl 14) 216).toInt ∧ r 21 = (nt_I M (pl 14) 428).toInt ∧ r 22 = (nt_I M (pl 14) 640).toInt ∧ r 23 = b0.toInt := ⟨fun s => if s = 11 then (nt_I M (pl 31) 1).toInt else if s = 12 then (nt_I M (pl 31) 2).toInt else if s = 13 then (nt_I M (pl 4) 0).toInt else if s = 14 then (nt_I M (pl 4) 4).toInt else if s = 15 then (nt_I M (pl 14) 0).toInt else if s = 16 then (nt_I M (pl 14) 212).toInt else if s = 17 then (nt_I M (pl 14) 424).toInt else if s = 18 then (nt_I M (pl 14) 636).toInt else if s = 19 then (nt_I M (pl 14) 4).toInt else if s = 20 then (nt_I M (pl 14) 216).toInt else if s = 21 then (nt_I M (pl 14) 428).toInt else if s = 22 then (nt_I M (pl 14) 640).toInt else if s = 23 then b0.toInt else v s, fun s hs => by dsimp only; rw [if_neg (by omega), if_neg (by omega), if_neg (by omega), if_neg (by omega), if_neg (by omega), if_neg (by omega), if_neg (by omega), if_neg (by omega), if_neg (by omega), if_neg (by omega), if_neg (by omega), if_neg (by omega), if_neg (by omega)], rfl, rfl, rfl, rfl, rfl, rfl, rfl, rfl, rfl, rfl, rfl, rfl, rfl⟩
  have hij := ly_ij (K := kk_wd_imageL) rfl hB
  have hon := ly_app (K := kk_wd_imageL) (ed := []) (ec := [((31, (1, [])), (0, [(11, 1)])), ((31, (2, [])), (0, [(12, 1)])), ((4, (0, [])), (0, [(13, 1)])), ((4, (4, [])), (0, [(14, 1)])), ((14, (0, [])), (0, [(15, 1)])), ((14, (212, [])), (0, [(16, 1)])), ((14, (424, [])), (0, [(17, 1)])), ((14, (636, [])), (0, [(18, 1)])), ((14, (4, [])), (0, [(19, 1)])), ((14, (216, [])), (0, [(20, 1)])), ((14, (428, [])), (0, [(21, 1)])), ((14, (640, [])), (0, [(22, 1)]))]) (er := []) rfl hB (fun _ _ => rfl) hr hij ly_nil (lw_oiC (g := 31) (j := 1) (by show 31 < 66; decide) (by decide) (by dsimp only; rw [sx_s_e]; exact h11.symm) (lw_oiC (g := 31) (j := 2) (by show 31 < 66; decide) (by decide) (by dsimp only; rw [sx_s_e]; exact h12.symm) (lw_oiC (g := 4) (j := 0) (by show 4 < 66; decide) (by decide) (by dsimp only; rw [sx_s_e]; exact h13.symm) (lw_oiC (g := 4) (j := 4) (by show 4 < 66; decide) (by decide) (by dsimp only; rw [sx_s_e]; exact h14.symm) (lw_oiC (g := 14) (j := 0) (by show 14 < 66; decide) (by decide) (by dsimp only; rw [sx_s_e]; exact h15.symm) (lw_oiC (g := 14) (j := 212) (by show 14 < 66; decide) (by decide) (by dsimp only; rw [sx_s_e]; exact h16.symm) (lw_oiC (g := 14) (j := 424) (by show 14 < 66; decide) (by decide) (by dsimp only; rw [sx_s_e]; exact h17.symm) (lw_oiC (g := 14) (j := 636) (by show 14 < 66; decide) (by decide) (by dsimp only; rw [sx_s_e]; exact h18.symm) (lw_oiC (g := 14) (j := 4) (by show 14 < 66; decide) (by decide) (by dsimp only; rw [sx_s_e]; exact h19.symm) (lw_oiC (g := 14) (j := 216) (by show 14 < 66; decide) (by decide) (by dsimp only; rw [sx_s_e]; exact h20.symm) (lw_oiC (g := 14) (j := 428) (by show 14 < 66; decide) (by decide) (by dsimp only; rw [sx_s_e]; exact h21.symm) (lw_oiC (g := 14) (j := 640) (by show 14 < 66; decide) (by decide) (by dsimp only; rw [sx_s_e]; exact h22.symm) (lw_oiN))))))))))))) (fun q hq => by cases hq) (ly_oba (ly_obr hr (ly_ob hB)) (ly_oba (ly_ob1 (by rw [h11]; exact hb11)) (ly_oba (ly_obI (x := nt_I M (pl 31) 2) h12) (ly_oba (ly_ob1 (by rw [h13]; exact hb13)) (ly_oba (ly_obI (x := nt_I M (pl 4) 4) h14) (ly_oba (ly_obI (x := nt_I M (pl 14) 0) h15) (ly_oba (ly_obI (x := nt_I M (pl 14) 212) h16) (ly_oba (ly_obI (x := nt_I M (pl 14) 424) h17) (ly_oba (ly_obI (x := nt_I M (pl 14) 636) h18) (ly_oba (ly_obI (x := nt_I M (pl 14) 4) h19) (ly_oba (ly_obI (x := nt_I M (pl 14) 216) h20) (ly_oba (ly_obI (x := nt_I M (pl 14) 428) h21) (ly_oba (ly_obI (x := nt_I M (pl 14) 640) h22) (ly_ob1 (by rw [h23]; exact hb23))))))))))))))) ly_oc0
  obtain ⟨p, hp, r', h2, h3⟩ := lw_app (ko_wd_imageL X) rfl hd hon (vs := [.ref (pl 0), .int b0]) ⟨rfl, ⟨b0, rfl, (ly_e1 h23).symm⟩, trivial⟩ k
  have hr' : ∀ s, s < 24 → r' s = r s := fun s hs => h3.2.2.2.2.2.1 s hs
  obtain ⟨ov, M'⟩ := o
  rw [List.mem_singleton.mp hp] at h2 h3
  cases ov with
  | none => exact h2.elim
  | some w =>
    obtain ⟨y, rfl, hy⟩ := h2
    have hy : y.toInt = (-1) + 0 := hy
    have e0 : (nt_I M' (pl 31) 1).toInt = 0 + (1 * r' 11 + (0)) := lw_rd (g := 31) (j := 1) h3.2.2.1 (List.mem_of_getElem? (i := 0) rfl) (by decide)
    have e1 : (nt_I M' (pl 31) 2).toInt = 0 + (1 * r' 12 + (0)) := lw_rd (g := 31) (j := 2) h3.2.2.1 (List.mem_of_getElem? (i := 1) rfl) (by decide)
    have e2 : (nt_I M' (pl 4) 0).toInt = 0 + (1 * r' 13 + (0)) := lw_rd (g := 4) (j := 0) h3.2.2.1 (List.mem_of_getElem? (i := 2) rfl) (by decide)
    have e3 : (nt_I M' (pl 4) 4).toInt = 0 + (1 * r' 14 + (0)) := lw_rd (g := 4) (j := 4) h3.2.2.1 (List.mem_of_getElem? (i := 3) rfl) (by decide)
    have e4 : (nt_I M' (pl 14) 0).toInt = 0 + (1 * r' 15 + (0)) := lw_rd (g := 14) (j := 0) h3.2.2.1 (List.mem_of_getElem? (i := 4) rfl) (by decide)
    have e5 : (nt_I M' (pl 14) 212).toInt = 0 + (1 * r' 16 + (0)) := lw_rd (g := 14) (j := 212) h3.2.2.1 (List.mem_of_getElem? (i := 5) rfl) (by decide)
    have e6 : (nt_I M' (pl 14) 424).toInt = 0 + (1 * r' 17 + (0)) := lw_rd (g := 14) (j := 424) h3.2.2.1 (List.mem_of_getElem? (i := 6) rfl) (by decide)
    have e7 : (nt_I M' (pl 14) 636).toInt = 0 + (1 * r' 18 + (0)) := lw_rd (g := 14) (j := 636) h3.2.2.1 (List.mem_of_getElem? (i := 7) rfl) (by decide)
    have e8 : (nt_I M' (pl 14) 4).toInt = 0 + (1 * r' 19 + (0)) := lw_rd (g := 14) (j := 4) h3.2.2.1 (List.mem_of_getElem? (i := 8) rfl) (by decide)
    have e9 : (nt_I M' (pl 14) 216).toInt = 0 + (1 * r' 20 + (0)) := lw_rd (g := 14) (j := 216) h3.2.2.1 (List.mem_of_getElem? (i := 9) rfl) (by decide)
    have e10 : (nt_I M' (pl 14) 428).toInt = 0 + (1 * r' 21 + (0)) := lw_rd (g := 14) (j := 428) h3.2.2.1 (List.mem_of_getElem? (i := 10) rfl) (by decide)
    have e11 : (nt_I M' (pl 14) 640).toInt = 0 + (1 * r' 22 + (0)) := lw_rd (g := 14) (j := 640) h3.2.2.1 (List.mem_of_getElem? (i := 11) rfl) (by decide)
    have g11 := hr' 11 (by omega)
    rw [h11] at g11
    have g12 := hr' 12 (by omega)
    rw [h12] at g12
    have g13 := hr' 13 (by omega)
    rw [h13] at g13
    have g14 := hr' 14 (by omega)
    rw [h14] at g14
    have g15 := hr' 15 (by omega)
    rw [h15] at g15
    have g16 := hr' 16 (by omega)
    rw [h16] at g16
    have g17 := hr' 17 (by omega)
    rw [h17] at g17
    have g18 := hr' 18 (by omega)
    rw [h18] at g18
    have g19 := hr' 19 (by omega)
    rw [h19] at g19
    have g20 := hr' 20 (by omega)
    rw [h20] at g20
    have g21 := hr' 21 (by omega)
    rw [h21] at g21
    have g22 := hr' 22 (by omega)
    rw [h22] at g22
    exact ⟨y, M', rfl, ⟨by omega, e0.trans (lw_s g11), e1.trans (lw_s g12), e2.trans (lw_s g13), e3.trans (lw_s g14), e4.trans (lw_s g15), e5.trans (lw_s g16), e6.trans (lw_s g17), e7.trans (lw_s g18), e8.trans (lw_s g19), e9.trans (lw_s g20), e10.trans (lw_s g21), e11.trans (lw_s g22)⟩⟩
theorem lwd_n_imageH {X : nt_X} {pl : Nat → Nat} {v : Nat → Int} {M : nt_M} {d : Nat} {o : Option Value × nt_M} {b0 : Int32} (hd : 0 ≤ d) (hB : ly_B pl v M) (hb11 : (0 : Int) ≤ (nt_I M (pl 31) 1).toInt ∧ (nt_I M (pl 31) 1).toInt ≤ 1) (hb13 : (0 : Int) ≤ (nt_I M (pl 4) 0).toInt ∧ (nt_I M (pl 4) 0).toInt ≤ 4) (hb23 : (4 : Int) ≤ b0.toInt ∧ b0.toInt ≤ 2147483647) (k : nt_ev X d 127 [.ref (pl 16), .int b0] M o) : ∃ (y : Int32) (M' : nt_M), o = (some (.int y), M') ∧ ((y.toInt = -1 ∧ (nt_I M' (pl 31) 1).toInt = (nt_I M (pl 31) 1).toInt ∧ (nt_I M' (pl 31) 2).toInt = (nt_I M (pl 31) 2).toInt ∧ (nt_I M' (pl 4) 0).toInt = (nt_I M (pl 4) 0).toInt ∧ (nt_I M' (pl 4) 4).toInt = (nt_I M (pl 4) 4).toInt ∧ (nt_I M' (pl 14) 0).toInt = (nt_I M (pl 14) 0).toInt ∧ (nt_I M' (pl 14) 212).toInt = (nt_I M (pl 14) 212).toInt ∧ (nt_I M' (pl 14) 424).toInt = (nt_I M (pl 14) 424).toInt ∧ (nt_I M' (pl 14) 636).toInt = (nt_I M (pl 14) 636).toInt ∧ (nt_I M' (pl 14) 4).toInt = (nt_I M (pl 14) 4).toInt ∧ (nt_I M' (pl 14) 216).toInt = (nt_I M (pl 14) 216).toInt ∧ (nt_I M' (pl 14) 428).toInt = (nt_I M (pl 14) 428).toInt ∧ (nt_I M' (pl 14) 640).toInt = (nt_I M (pl 14) 640).toInt)) := by
  obtain ⟨r, hr, h11, h12, h13, h14, h15, h16, h17, h18, h19, h20, h21, h22, h23⟩ : ∃ r : Nat → Int, (∀ s, s < 11 → r s = v s) ∧ r 11 = (nt_I M (pl 31) 1).toInt ∧ r 12 = (nt_I M (pl 31) 2).toInt ∧ r 13 = (nt_I M (pl 4) 0).toInt ∧ r 14 = (nt_I M (pl 4) 4).toInt ∧ r 15 = (nt_I M (pl 14) 0).toInt ∧ r 16 = (nt_I M (pl 14) 212).toInt ∧ r 17 = (nt_I M (pl 14) 424).toInt ∧ r 18 = (nt_I M (pl 14) 636).toInt ∧ r 19 = (nt_I M (pl 14) 4).toInt ∧ r 20 = (nt_I M (pl 14) 216).toInt ∧ r 21 = (nt_I M (pl 14) 428).toInt ∧ r 22 = (nt_I M (pl 14) 640).toInt ∧ r 23 = b0.toInt := ⟨fun s => if s = 11 then (nt_I M (pl 31) 1).toInt else if s = 12 then (nt_I M (pl 31) 2).toInt else if s = 13 then (nt_I M (pl 4) 0).toInt else if s = 14 then (nt_I M (pl 4) 4).toInt else if s = 15 then (nt_I M (pl 14) 0).toInt else if s = 16 then (nt_I M (pl 14) 212).toInt else if s = 17 then (nt_I M (pl 14) 424).toInt else if s = 18 then (nt_I M (pl 14) 636).toInt else if s = 19 then (nt_I M (pl 14) 4).toInt else if s = 20 then (nt_I M (pl 14) 216).toInt else if s = 21 then (nt_I M (pl 14) 428).toInt else if s = 22 then (nt_I M (pl 14) 640).toInt else if s = 23 then b0.toInt else v s, fun s hs => by dsimp only; rw [if_neg (by omega), if_neg (by omega), if_neg (by omega), if_neg (by omega), if_neg (by omega), if_neg (by omega), if_neg (by omega), if_neg (by omega), if_neg (by omega), if_neg (by omega), if_neg (by omega), if_neg (by omega), if_neg (by omega)], rfl, rfl, rfl, rfl, rfl, rfl, rfl, rfl, rfl, rfl, rfl, rfl, rfl⟩
  have hij := ly_ij (K := kk_wd_n_imageH) rfl hB
  have hon := ly_app (K := kk_wd_n_imageH) (ed := []) (ec := [((31, (1, [])), (0, [(11, 1)])), ((31, (2, [])), (0, [(12, 1)])), ((4, (0, [])), (0, [(13, 1)])), ((4, (4, [])), (0, [(14, 1)])), ((14, (0, [])), (0, [(15, 1)])), ((14, (212, [])), (0, [(16, 1)])), ((14, (424, [])), (0, [(17, 1)])), ((14, (636, [])), (0, [(18, 1)])), ((14, (4, [])), (0, [(19, 1)])), ((14, (216, [])), (0, [(20, 1)])), ((14, (428, [])), (0, [(21, 1)])), ((14, (640, [])), (0, [(22, 1)]))]) (er := []) rfl hB (fun _ _ => rfl) hr hij ly_nil (lw_oiC (g := 31) (j := 1) (by show 31 < 66; decide) (by decide) (by dsimp only; rw [sx_s_e]; exact h11.symm) (lw_oiC (g := 31) (j := 2) (by show 31 < 66; decide) (by decide) (by dsimp only; rw [sx_s_e]; exact h12.symm) (lw_oiC (g := 4) (j := 0) (by show 4 < 66; decide) (by decide) (by dsimp only; rw [sx_s_e]; exact h13.symm) (lw_oiC (g := 4) (j := 4) (by show 4 < 66; decide) (by decide) (by dsimp only; rw [sx_s_e]; exact h14.symm) (lw_oiC (g := 14) (j := 0) (by show 14 < 66; decide) (by decide) (by dsimp only; rw [sx_s_e]; exact h15.symm) (lw_oiC (g := 14) (j := 212) (by show 14 < 66; decide) (by decide) (by dsimp only; rw [sx_s_e]; exact h16.symm) (lw_oiC (g := 14) (j := 424) (by show 14 < 66; decide) (by decide) (by dsimp only; rw [sx_s_e]; exact h17.symm) (lw_oiC (g := 14) (j := 636) (by show 14 < 66; decide) (by decide) (by dsimp only; rw [sx_s_e]; exact h18.symm) (lw_oiC (g := 14) (j := 4) (by show 14 < 66; decide) (by decide) (by dsimp only; rw [sx_s_e]; exact h19.symm) (lw_oiC (g := 14) (j := 216) (by show 14 < 66; decide) (by decide) (by dsimp only; rw [sx_s_e]; exact h20.symm) (lw_oiC (g := 14) (j := 428) (by show 14 < 66; decide) (by decide) (by dsimp only; rw [sx_s_e]; exact h21.symm) (lw_oiC (g := 14) (j := 640) (by show 14 < 66; decide) (by decide) (by dsimp only; rw [sx_s_e]; exact h22.symm) (lw_oiN))))))))))))) (fun q hq => by cases hq) (ly_oba (ly_obr hr (ly_ob hB)) (ly_oba (ly_ob1 (by rw [h11]; exact hb11)) (ly_oba (ly_obI (x := nt_I M (pl 31) 2) h12) (ly_oba (ly_ob1 (by rw [h13]; exact hb13)) (ly_oba (ly_obI (x := nt_I M (pl 4) 4) h14) (ly_oba (ly_obI (x := nt_I M (pl 14) 0) h15) (ly_oba (ly_obI (x := nt_I M (pl 14) 212) h16) (ly_oba (ly_obI (x := nt_I M (pl 14) 424) h17) (ly_oba (ly_obI (x := nt_I M (pl 14) 636) h18) (ly_oba (ly_obI (x := nt_I M (pl 14) 4) h19) (ly_oba (ly_obI (x := nt_I M (pl 14) 216) h20) (ly_oba (ly_obI (x := nt_I M (pl 14) 428) h21) (ly_oba (ly_obI (x := nt_I M (pl 14) 640) h22) (ly_ob1 (by rw [h23]; exact hb23))))))))))))))) ly_oc0
  obtain ⟨p, hp, r', h2, h3⟩ := lw_app (ko_wd_n_imageH X) rfl hd hon (vs := [.ref (pl 16), .int b0]) ⟨rfl, ⟨b0, rfl, (ly_e1 h23).symm⟩, trivial⟩ k
  have hr' : ∀ s, s < 24 → r' s = r s := fun s hs => h3.2.2.2.2.2.1 s hs
  obtain ⟨ov, M'⟩ := o
  rw [List.mem_singleton.mp hp] at h2 h3
  cases ov with
  | none => exact h2.elim
  | some w =>
    obtain ⟨y, rfl, hy⟩ := h2
    have hy : y.toInt = (-1) + 0 := hy
    have e0 : (nt_I M' (pl 31) 1).toInt = 0 + (1 * r' 11 + (0)) := lw_rd (g := 31) (j := 1) h3.2.2.1 (List.mem_of_getElem? (i := 0) rfl) (by decide)
    have e1 : (nt_I M' (pl 31) 2).toInt = 0 + (1 * r' 12 + (0)) := lw_rd (g := 31) (j := 2) h3.2.2.1 (List.mem_of_getElem? (i := 1) rfl) (by decide)
    have e2 : (nt_I M' (pl 4) 0).toInt = 0 + (1 * r' 13 + (0)) := lw_rd (g := 4) (j := 0) h3.2.2.1 (List.mem_of_getElem? (i := 2) rfl) (by decide)
    have e3 : (nt_I M' (pl 4) 4).toInt = 0 + (1 * r' 14 + (0)) := lw_rd (g := 4) (j := 4) h3.2.2.1 (List.mem_of_getElem? (i := 3) rfl) (by decide)
    have e4 : (nt_I M' (pl 14) 0).toInt = 0 + (1 * r' 15 + (0)) := lw_rd (g := 14) (j := 0) h3.2.2.1 (List.mem_of_getElem? (i := 4) rfl) (by decide)
    have e5 : (nt_I M' (pl 14) 212).toInt = 0 + (1 * r' 16 + (0)) := lw_rd (g := 14) (j := 212) h3.2.2.1 (List.mem_of_getElem? (i := 5) rfl) (by decide)
    have e6 : (nt_I M' (pl 14) 424).toInt = 0 + (1 * r' 17 + (0)) := lw_rd (g := 14) (j := 424) h3.2.2.1 (List.mem_of_getElem? (i := 6) rfl) (by decide)
    have e7 : (nt_I M' (pl 14) 636).toInt = 0 + (1 * r' 18 + (0)) := lw_rd (g := 14) (j := 636) h3.2.2.1 (List.mem_of_getElem? (i := 7) rfl) (by decide)
    have e8 : (nt_I M' (pl 14) 4).toInt = 0 + (1 * r' 19 + (0)) := lw_rd (g := 14) (j := 4) h3.2.2.1 (List.mem_of_getElem? (i := 8) rfl) (by decide)
    have e9 : (nt_I M' (pl 14) 216).toInt = 0 + (1 * r' 20 + (0)) := lw_rd (g := 14) (j := 216) h3.2.2.1 (List.mem_of_getElem? (i := 9) rfl) (by decide)
    have e10 : (nt_I M' (pl 14) 428).toInt = 0 + (1 * r' 21 + (0)) := lw_rd (g := 14) (j := 428) h3.2.2.1 (List.mem_of_getElem? (i := 10) rfl) (by decide)
    have e11 : (nt_I M' (pl 14) 640).toInt = 0 + (1 * r' 22 + (0)) := lw_rd (g := 14) (j := 640) h3.2.2.1 (List.mem_of_getElem? (i := 11) rfl) (by decide)
    have g11 := hr' 11 (by omega)
    rw [h11] at g11
    have g12 := hr' 12 (by omega)
    rw [h12] at g12
    have g13 := hr' 13 (by omega)
    rw [h13] at g13
    have g14 := hr' 14 (by omega)
    rw [h14] at g14
    have g15 := hr' 15 (by omega)
    rw [h15] at g15
    have g16 := hr' 16 (by omega)
    rw [h16] at g16
    have g17 := hr' 17 (by omega)
    rw [h17] at g17
    have g18 := hr' 18 (by omega)
    rw [h18] at g18
    have g19 := hr' 19 (by omega)
    rw [h19] at g19
    have g20 := hr' 20 (by omega)
    rw [h20] at g20
    have g21 := hr' 21 (by omega)
    rw [h21] at g21
    have g22 := hr' 22 (by omega)
    rw [h22] at g22
    exact ⟨y, M', rfl, ⟨by omega, e0.trans (lw_s g11), e1.trans (lw_s g12), e2.trans (lw_s g13), e3.trans (lw_s g14), e4.trans (lw_s g15), e5.trans (lw_s g16), e6.trans (lw_s g17), e7.trans (lw_s g18), e8.trans (lw_s g19), e9.trans (lw_s g20), e10.trans (lw_s g21), e11.trans (lw_s g22)⟩⟩
theorem lwd_imageH {X : nt_X} {pl : Nat → Nat} {v : Nat → Int} {M : nt_M} {d : Nat} {o : Option Value × nt_M} {b0 : Int32} (hd : 1 ≤ d) (hB : ly_B pl v M) (hb11 : (0 : Int) ≤ (nt_I M (pl 31) 1).toInt ∧ (nt_I M (pl 31) 1).toInt ≤ 1) (hb13 : (0 : Int) ≤ (nt_I M (pl 4) 0).toInt ∧ (nt_I M (pl 4) 0).toInt ≤ 4) (hb23 : (4 : Int) ≤ b0.toInt ∧ b0.toInt ≤ 2147483647) (k : nt_ev X d 234 [.ref (pl 0), .int b0] M o) : ∃ (y : Int32) (M' : nt_M), o = (some (.int y), M') ∧ ((y.toInt = -1 ∧ (nt_I M' (pl 31) 1).toInt = (nt_I M (pl 31) 1).toInt ∧ (nt_I M' (pl 31) 2).toInt = (nt_I M (pl 31) 2).toInt ∧ (nt_I M' (pl 4) 0).toInt = (nt_I M (pl 4) 0).toInt ∧ (nt_I M' (pl 4) 4).toInt = (nt_I M (pl 4) 4).toInt ∧ (nt_I M' (pl 14) 0).toInt = (nt_I M (pl 14) 0).toInt ∧ (nt_I M' (pl 14) 212).toInt = (nt_I M (pl 14) 212).toInt ∧ (nt_I M' (pl 14) 424).toInt = (nt_I M (pl 14) 424).toInt ∧ (nt_I M' (pl 14) 636).toInt = (nt_I M (pl 14) 636).toInt ∧ (nt_I M' (pl 14) 4).toInt = (nt_I M (pl 14) 4).toInt ∧ (nt_I M' (pl 14) 216).toInt = (nt_I M (pl 14) 216).toInt ∧ (nt_I M' (pl 14) 428).toInt = (nt_I M (pl 14) 428).toInt ∧ (nt_I M' (pl 14) 640).toInt = (nt_I M (pl 14) 640).toInt)) := by
  obtain ⟨r, hr, h11, h12, h13, h14, h15, h16, h17, h18, h19, h20, h21, h22, h23⟩ : ∃ r : Nat → Int, (∀ s, s < 11 → r s = v s) ∧ r 11 = (nt_I M (pl 31) 1).toInt ∧ r 12 = (nt_I M (pl 31) 2).toInt ∧ r 13 = (nt_I M (pl 4) 0).toInt ∧ r 14 = (nt_I M (pl 4) 4).toInt ∧ r 15 = (nt_I M (pl 14) 0).toInt ∧ r 16 = (nt_I M (pl 14) 212).toInt ∧ r 17 = (nt_I M (pl 14) 424).toInt ∧ r 18 = (nt_I M (pl 14) 636).toInt ∧ r 19 = (nt_I M (pl 14) 4).toInt ∧ r 20 = (nt_I M (pl 14) 216).toInt ∧ r 21 = (nt_I M (pl 14) 428).toInt ∧ r 22 = (nt_I M (pl 14) 640).toInt ∧ r 23 = b0.toInt := ⟨fun s => if s = 11 then (nt_I M (pl 31) 1).toInt else if s = 12 then (nt_I M (pl 31) 2).toInt else if s = 13 then (nt_I M (pl 4) 0).toInt else if s = 14 then (nt_I M (pl 4) 4).toInt else if s = 15 then (nt_I M (pl 14) 0).toInt else if s = 16 then (nt_I M (pl 14) 212).toInt else if s = 17 then (nt_I M (pl 14) 424).toInt else if s = 18 then (nt_I M (pl 14) 636).toInt else if s = 19 then (nt_I M (pl 14) 4).toInt else if s = 20 then (nt_I M (pl 14) 216).toInt else if s = 21 then (nt_I M (pl 14) 428).toInt else if s = 22 then (nt_I M (pl 14) 640).toInt else if s = 23 then b0.toInt else v s, fun s hs => by dsimp only; rw [if_neg (by omega), if_neg (by omega), if_neg (by omega), if_neg (by omega), if_neg (by omega), if_neg (by omega), if_neg (by omega), if_neg (by omega), if_neg (by omega), if_neg (by omega), if_neg (by omega), if_neg (by omega), if_neg (by omega)], rfl, rfl, rfl, rfl, rfl, rfl, rfl, rfl, rfl, rfl, rfl, rfl, rfl⟩
  have hij := ly_ij (K := kk_wd_imageH) rfl hB
  have hon := ly_app (K := kk_wd_imageH) (ed := []) (ec := [((31, (1, [])), (0, [(11, 1)])), ((31, (2, [])), (0, [(12, 1)])), ((4, (0, [])), (0, [(13, 1)])), ((4, (4, [])), (0, [(14, 1)])), ((14, (0, [])), (0, [(15, 1)])), ((14, (212, [])), (0, [(16, 1)])), ((14, (424, [])), (0, [(17, 1)])), ((14, (636, [])), (0, [(18, 1)])), ((14, (4, [])), (0, [(19, 1)])), ((14, (216, [])), (0, [(20, 1)])), ((14, (428, [])), (0, [(21, 1)])), ((14, (640, [])), (0, [(22, 1)]))]) (er := []) rfl hB (fun _ _ => rfl) hr hij ly_nil (lw_oiC (g := 31) (j := 1) (by show 31 < 66; decide) (by decide) (by dsimp only; rw [sx_s_e]; exact h11.symm) (lw_oiC (g := 31) (j := 2) (by show 31 < 66; decide) (by decide) (by dsimp only; rw [sx_s_e]; exact h12.symm) (lw_oiC (g := 4) (j := 0) (by show 4 < 66; decide) (by decide) (by dsimp only; rw [sx_s_e]; exact h13.symm) (lw_oiC (g := 4) (j := 4) (by show 4 < 66; decide) (by decide) (by dsimp only; rw [sx_s_e]; exact h14.symm) (lw_oiC (g := 14) (j := 0) (by show 14 < 66; decide) (by decide) (by dsimp only; rw [sx_s_e]; exact h15.symm) (lw_oiC (g := 14) (j := 212) (by show 14 < 66; decide) (by decide) (by dsimp only; rw [sx_s_e]; exact h16.symm) (lw_oiC (g := 14) (j := 424) (by show 14 < 66; decide) (by decide) (by dsimp only; rw [sx_s_e]; exact h17.symm) (lw_oiC (g := 14) (j := 636) (by show 14 < 66; decide) (by decide) (by dsimp only; rw [sx_s_e]; exact h18.symm) (lw_oiC (g := 14) (j := 4) (by show 14 < 66; decide) (by decide) (by dsimp only; rw [sx_s_e]; exact h19.symm) (lw_oiC (g := 14) (j := 216) (by show 14 < 66; decide) (by decide) (by dsimp only; rw [sx_s_e]; exact h20.symm) (lw_oiC (g := 14) (j := 428) (by show 14 < 66; decide) (by decide) (by dsimp only; rw [sx_s_e]; exact h21.symm) (lw_oiC (g := 14) (j := 640) (by show 14 < 66; decide) (by decide) (by dsimp only; rw [sx_s_e]; exact h22.symm) (lw_oiN))))))))))))) (fun q hq => by cases hq) (ly_oba (ly_obr hr (ly_ob hB)) (ly_oba (ly_ob1 (by rw [h11]; exact hb11)) (ly_oba (ly_obI (x := nt_I M (pl 31) 2) h12) (ly_oba (ly_ob1 (by rw [h13]; exact hb13)) (ly_oba (ly_obI (x := nt_I M (pl 4) 4) h14) (ly_oba (ly_obI (x := nt_I M (pl 14) 0) h15) (ly_oba (ly_obI (x := nt_I M (pl 14) 212) h16) (ly_oba (ly_obI (x := nt_I M (pl 14) 424) h17) (ly_oba (ly_obI (x := nt_I M (pl 14) 636) h18) (ly_oba (ly_obI (x := nt_I M (pl 14) 4) h19) (ly_oba (ly_obI (x := nt_I M (pl 14) 216) h20) (ly_oba (ly_obI (x := nt_I M (pl 14) 428) h21) (ly_oba (ly_obI (x := nt_I M (pl 14) 640) h22) (ly_ob1 (by rw [h23]; exact hb23))))))))))))))) ly_oc0
  obtain ⟨p, hp, r', h2, h3⟩ := lw_app (ko_wd_imageH X) rfl hd hon (vs := [.ref (pl 0), .int b0]) ⟨rfl, ⟨b0, rfl, (ly_e1 h23).symm⟩, trivial⟩ k
  have hr' : ∀ s, s < 24 → r' s = r s := fun s hs => h3.2.2.2.2.2.1 s hs
  obtain ⟨ov, M'⟩ := o
  rw [List.mem_singleton.mp hp] at h2 h3
  cases ov with
  | none => exact h2.elim
  | some w =>
    obtain ⟨y, rfl, hy⟩ := h2
    have hy : y.toInt = (-1) + 0 := hy
    have e0 : (nt_I M' (pl 31) 1).toInt = 0 + (1 * r' 11 + (0)) := lw_rd (g := 31) (j := 1) h3.2.2.1 (List.mem_of_getElem? (i := 0) rfl) (by decide)
    have e1 : (nt_I M' (pl 31) 2).toInt = 0 + (1 * r' 12 + (0)) := lw_rd (g := 31) (j := 2) h3.2.2.1 (List.mem_of_getElem? (i := 1) rfl) (by decide)
    have e2 : (nt_I M' (pl 4) 0).toInt = 0 + (1 * r' 13 + (0)) := lw_rd (g := 4) (j := 0) h3.2.2.1 (List.mem_of_getElem? (i := 2) rfl) (by decide)
    have e3 : (nt_I M' (pl 4) 4).toInt = 0 + (1 * r' 14 + (0)) := lw_rd (g := 4) (j := 4) h3.2.2.1 (List.mem_of_getElem? (i := 3) rfl) (by decide)
    have e4 : (nt_I M' (pl 14) 0).toInt = 0 + (1 * r' 15 + (0)) := lw_rd (g := 14) (j := 0) h3.2.2.1 (List.mem_of_getElem? (i := 4) rfl) (by decide)
    have e5 : (nt_I M' (pl 14) 212).toInt = 0 + (1 * r' 16 + (0)) := lw_rd (g := 14) (j := 212) h3.2.2.1 (List.mem_of_getElem? (i := 5) rfl) (by decide)
    have e6 : (nt_I M' (pl 14) 424).toInt = 0 + (1 * r' 17 + (0)) := lw_rd (g := 14) (j := 424) h3.2.2.1 (List.mem_of_getElem? (i := 6) rfl) (by decide)
    have e7 : (nt_I M' (pl 14) 636).toInt = 0 + (1 * r' 18 + (0)) := lw_rd (g := 14) (j := 636) h3.2.2.1 (List.mem_of_getElem? (i := 7) rfl) (by decide)
    have e8 : (nt_I M' (pl 14) 4).toInt = 0 + (1 * r' 19 + (0)) := lw_rd (g := 14) (j := 4) h3.2.2.1 (List.mem_of_getElem? (i := 8) rfl) (by decide)
    have e9 : (nt_I M' (pl 14) 216).toInt = 0 + (1 * r' 20 + (0)) := lw_rd (g := 14) (j := 216) h3.2.2.1 (List.mem_of_getElem? (i := 9) rfl) (by decide)
    have e10 : (nt_I M' (pl 14) 428).toInt = 0 + (1 * r' 21 + (0)) := lw_rd (g := 14) (j := 428) h3.2.2.1 (List.mem_of_getElem? (i := 10) rfl) (by decide)
    have e11 : (nt_I M' (pl 14) 640).toInt = 0 + (1 * r' 22 + (0)) := lw_rd (g := 14) (j := 640) h3.2.2.1 (List.mem_of_getElem? (i := 11) rfl) (by decide)
    have g11 := hr' 11 (by omega)
    rw [h11] at g11
    have g12 := hr' 12 (by omega)
    rw [h12] at g12
    have g13 := hr' 13 (by omega)
    rw [h13] at g13
    have g14 := hr' 14 (by omega)
    rw [h14] at g14
    have g15 := hr' 15 (by omega)
    rw [h15] at g15
    have g16 := hr' 16 (by omega)
    rw [h16] at g16
    have g17 := hr' 17 (by omega)
    rw [h17] at g17
    have g18 := hr' 18 (by omega)
    rw [h18] at g18
    have g19 := hr' 19 (by omega)
    rw [h19] at g19
    have g20 := hr' 20 (by omega)
    rw [h20] at g20
    have g21 := hr' 21 (by omega)
    rw [h21] at g21
    have g22 := hr' 22 (by omega)
    rw [h22] at g22
    exact ⟨y, M', rfl, ⟨by omega, e0.trans (lw_s g11), e1.trans (lw_s g12), e2.trans (lw_s g13), e3.trans (lw_s g14), e4.trans (lw_s g15), e5.trans (lw_s g16), e6.trans (lw_s g17), e7.trans (lw_s g18), e8.trans (lw_s g19), e9.trans (lw_s g20), e10.trans (lw_s g21), e11.trans (lw_s g22)⟩⟩
theorem lwd_n_backL {X : nt_X} {pl : Nat → Nat} {v : Nat → Int} {M : nt_M} {d : Nat} {o : Option Value × nt_M} {b0 : Int32} (hd : 0 ≤ d) (hB : ly_B pl v M) (hb11 : (0 : Int) ≤ (nt_I M (pl 31) 1).toInt ∧ (nt_I M (pl 31) 1).toInt ≤ 1) (hb13 : (0 : Int) ≤ (nt_I M (pl 4) 0).toInt ∧ (nt_I M (pl 4) 0).toInt ≤ 4) (hb23 : (-2147483648 : Int) ≤ b0.toInt ∧ b0.toInt ≤ -1) (k : nt_ev X d 128 [.ref (pl 16), .int b0] M o) : ∃ (y : Int32) (M' : nt_M), o = (some (.int y), M') ∧ ((y.toInt = -1 ∧ (nt_I M' (pl 31) 1).toInt = (nt_I M (pl 31) 1).toInt ∧ (nt_I M' (pl 31) 2).toInt = (nt_I M (pl 31) 2).toInt ∧ (nt_I M' (pl 4) 0).toInt = (nt_I M (pl 4) 0).toInt ∧ (nt_I M' (pl 4) 4).toInt = (nt_I M (pl 4) 4).toInt ∧ (nt_I M' (pl 14) 0).toInt = (nt_I M (pl 14) 0).toInt ∧ (nt_I M' (pl 14) 212).toInt = (nt_I M (pl 14) 212).toInt ∧ (nt_I M' (pl 14) 424).toInt = (nt_I M (pl 14) 424).toInt ∧ (nt_I M' (pl 14) 636).toInt = (nt_I M (pl 14) 636).toInt ∧ (nt_I M' (pl 14) 4).toInt = (nt_I M (pl 14) 4).toInt ∧ (nt_I M' (pl 14) 216).toInt = (nt_I M (pl 14) 216).toInt ∧ (nt_I M' (pl 14) 428).toInt = (nt_I M (pl 14) 428).toInt ∧ (nt_I M' (pl 14) 640).toInt = (nt_I M (pl 14) 640).toInt)) := by
  obtain ⟨r, hr, h11, h12, h13, h14, h15, h16, h17, h18, h19, h20, h21, h22, h23⟩ : ∃ r : Nat → Int, (∀ s, s < 11 → r s = v s) ∧ r 11 = (nt_I M (pl 31) 1).toInt ∧ r 12 = (nt_I M (pl 31) 2).toInt ∧ r 13 = (nt_I M (pl 4) 0).toInt ∧ r 14 = (nt_I M (pl 4) 4).toInt ∧ r 15 = (nt_I M (pl 14) 0).toInt ∧ r 16 = (nt_I M (pl 14) 212).toInt ∧ r 17 = (nt_I M (pl 14) 424).toInt ∧ r 18 = (nt_I M (pl 14) 636).toInt ∧ r 19 = (nt_I M (pl 14) 4).toInt ∧ r 20 = (nt_I M (pl 14) 216).toInt ∧ r 21 = (nt_I M (pl 14) 428).toInt ∧ r 22 = (nt_I M (pl 14) 640).toInt ∧ r 23 = b0.toInt := ⟨fun s => if s = 11 then (nt_I M (pl 31) 1).toInt else if s = 12 then (nt_I M (pl 31) 2).toInt else if s = 13 then (nt_I M (pl 4) 0).toInt else if s = 14 then (nt_I M (pl 4) 4).toInt else if s = 15 then (nt_I M (pl 14) 0).toInt else if s = 16 then (nt_I M (pl 14) 212).toInt else if s = 17 then (nt_I M (pl 14) 424).toInt else if s = 18 then (nt_I M (pl 14) 636).toInt else if s = 19 then (nt_I M (pl 14) 4).toInt else if s = 20 then (nt_I M (pl 14) 216).toInt else if s = 21 then (nt_I M (pl 14) 428).toInt else if s = 22 then (nt_I M (pl 14) 640).toInt else if s = 23 then b0.toInt else v s, fun s hs => by dsimp only; rw [if_neg (by omega), if_neg (by omega), if_neg (by omega), if_neg (by omega), if_neg (by omega), if_neg (by omega), if_neg (by omega), if_neg (by omega), if_neg (by omega), if_neg (by omega), if_neg (by omega), if_neg (by omega), if_neg (by omega)], rfl, rfl, rfl, rfl, rfl, rfl, rfl, rfl, rfl, rfl, rfl, rfl, rfl⟩
  have hij := ly_ij (K := kk_wd_n_backL) rfl hB
  have hon := ly_app (K := kk_wd_n_backL) (ed := []) (ec := [((31, (1, [])), (0, [(11, 1)])), ((31, (2, [])), (0, [(12, 1)])), ((4, (0, [])), (0, [(13, 1)])), ((4, (4, [])), (0, [(14, 1)])), ((14, (0, [])), (0, [(15, 1)])), ((14, (212, [])), (0, [(16, 1)])), ((14, (424, [])), (0, [(17, 1)])), ((14, (636, [])), (0, [(18, 1)])), ((14, (4, [])), (0, [(19, 1)])), ((14, (216, [])), (0, [(20, 1)])), ((14, (428, [])), (0, [(21, 1)])), ((14, (640, [])), (0, [(22, 1)]))]) (er := []) rfl hB (fun _ _ => rfl) hr hij ly_nil (lw_oiC (g := 31) (j := 1) (by show 31 < 66; decide) (by decide) (by dsimp only; rw [sx_s_e]; exact h11.symm) (lw_oiC (g := 31) (j := 2) (by show 31 < 66; decide) (by decide) (by dsimp only; rw [sx_s_e]; exact h12.symm) (lw_oiC (g := 4) (j := 0) (by show 4 < 66; decide) (by decide) (by dsimp only; rw [sx_s_e]; exact h13.symm) (lw_oiC (g := 4) (j := 4) (by show 4 < 66; decide) (by decide) (by dsimp only; rw [sx_s_e]; exact h14.symm) (lw_oiC (g := 14) (j := 0) (by show 14 < 66; decide) (by decide) (by dsimp only; rw [sx_s_e]; exact h15.symm) (lw_oiC (g := 14) (j := 212) (by show 14 < 66; decide) (by decide) (by dsimp only; rw [sx_s_e]; exact h16.symm) (lw_oiC (g := 14) (j := 424) (by show 14 < 66; decide) (by decide) (by dsimp only; rw [sx_s_e]; exact h17.symm) (lw_oiC (g := 14) (j := 636) (by show 14 < 66; decide) (by decide) (by dsimp only; rw [sx_s_e]; exact h18.symm) (lw_oiC (g := 14) (j := 4) (by show 14 < 66; decide) (by decide) (by dsimp only; rw [sx_s_e]; exact h19.symm) (lw_oiC (g := 14) (j := 216) (by show 14 < 66; decide) (by decide) (by dsimp only; rw [sx_s_e]; exact h20.symm) (lw_oiC (g := 14) (j := 428) (by show 14 < 66; decide) (by decide) (by dsimp only; rw [sx_s_e]; exact h21.symm) (lw_oiC (g := 14) (j := 640) (by show 14 < 66; decide) (by decide) (by dsimp only; rw [sx_s_e]; exact h22.symm) (lw_oiN))))))))))))) (fun q hq => by cases hq) (ly_oba (ly_obr hr (ly_ob hB)) (ly_oba (ly_ob1 (by rw [h11]; exact hb11)) (ly_oba (ly_obI (x := nt_I M (pl 31) 2) h12) (ly_oba (ly_ob1 (by rw [h13]; exact hb13)) (ly_oba (ly_obI (x := nt_I M (pl 4) 4) h14) (ly_oba (ly_obI (x := nt_I M (pl 14) 0) h15) (ly_oba (ly_obI (x := nt_I M (pl 14) 212) h16) (ly_oba (ly_obI (x := nt_I M (pl 14) 424) h17) (ly_oba (ly_obI (x := nt_I M (pl 14) 636) h18) (ly_oba (ly_obI (x := nt_I M (pl 14) 4) h19) (ly_oba (ly_obI (x := nt_I M (pl 14) 216) h20) (ly_oba (ly_obI (x := nt_I M (pl 14) 428) h21) (ly_oba (ly_obI (x := nt_I M (pl 14) 640) h22) (ly_ob1 (by rw [h23]; exact hb23))))))))))))))) ly_oc0
  obtain ⟨p, hp, r', h2, h3⟩ := lw_app (ko_wd_n_backL X) rfl hd hon (vs := [.ref (pl 16), .int b0]) ⟨rfl, ⟨b0, rfl, (ly_e1 h23).symm⟩, trivial⟩ k
  have hr' : ∀ s, s < 24 → r' s = r s := fun s hs => h3.2.2.2.2.2.1 s hs
  obtain ⟨ov, M'⟩ := o
  rw [List.mem_singleton.mp hp] at h2 h3
  cases ov with
  | none => exact h2.elim
  | some w =>
    obtain ⟨y, rfl, hy⟩ := h2
    have hy : y.toInt = (-1) + 0 := hy
    have e0 : (nt_I M' (pl 31) 1).toInt = 0 + (1 * r' 11 + (0)) := lw_rd (g := 31) (j := 1) h3.2.2.1 (List.mem_of_getElem? (i := 0) rfl) (by decide)
    have e1 : (nt_I M' (pl 31) 2).toInt = 0 + (1 * r' 12 + (0)) := lw_rd (g := 31) (j := 2) h3.2.2.1 (List.mem_of_getElem? (i := 1) rfl) (by decide)
    have e2 : (nt_I M' (pl 4) 0).toInt = 0 + (1 * r' 13 + (0)) := lw_rd (g := 4) (j := 0) h3.2.2.1 (List.mem_of_getElem? (i := 2) rfl) (by decide)
    have e3 : (nt_I M' (pl 4) 4).toInt = 0 + (1 * r' 14 + (0)) := lw_rd (g := 4) (j := 4) h3.2.2.1 (List.mem_of_getElem? (i := 3) rfl) (by decide)
    have e4 : (nt_I M' (pl 14) 0).toInt = 0 + (1 * r' 15 + (0)) := lw_rd (g := 14) (j := 0) h3.2.2.1 (List.mem_of_getElem? (i := 4) rfl) (by decide)
    have e5 : (nt_I M' (pl 14) 212).toInt = 0 + (1 * r' 16 + (0)) := lw_rd (g := 14) (j := 212) h3.2.2.1 (List.mem_of_getElem? (i := 5) rfl) (by decide)
    have e6 : (nt_I M' (pl 14) 424).toInt = 0 + (1 * r' 17 + (0)) := lw_rd (g := 14) (j := 424) h3.2.2.1 (List.mem_of_getElem? (i := 6) rfl) (by decide)
    have e7 : (nt_I M' (pl 14) 636).toInt = 0 + (1 * r' 18 + (0)) := lw_rd (g := 14) (j := 636) h3.2.2.1 (List.mem_of_getElem? (i := 7) rfl) (by decide)
    have e8 : (nt_I M' (pl 14) 4).toInt = 0 + (1 * r' 19 + (0)) := lw_rd (g := 14) (j := 4) h3.2.2.1 (List.mem_of_getElem? (i := 8) rfl) (by decide)
    have e9 : (nt_I M' (pl 14) 216).toInt = 0 + (1 * r' 20 + (0)) := lw_rd (g := 14) (j := 216) h3.2.2.1 (List.mem_of_getElem? (i := 9) rfl) (by decide)
    have e10 : (nt_I M' (pl 14) 428).toInt = 0 + (1 * r' 21 + (0)) := lw_rd (g := 14) (j := 428) h3.2.2.1 (List.mem_of_getElem? (i := 10) rfl) (by decide)
    have e11 : (nt_I M' (pl 14) 640).toInt = 0 + (1 * r' 22 + (0)) := lw_rd (g := 14) (j := 640) h3.2.2.1 (List.mem_of_getElem? (i := 11) rfl) (by decide)
    have g11 := hr' 11 (by omega)
    rw [h11] at g11
    have g12 := hr' 12 (by omega)
    rw [h12] at g12
    have g13 := hr' 13 (by omega)
    rw [h13] at g13
    have g14 := hr' 14 (by omega)
    rw [h14] at g14
    have g15 := hr' 15 (by omega)
    rw [h15] at g15
    have g16 := hr' 16 (by omega)
    rw [h16] at g16
    have g17 := hr' 17 (by omega)
    rw [h17] at g17
    have g18 := hr' 18 (by omega)
    rw [h18] at g18
    have g19 := hr' 19 (by omega)
    rw [h19] at g19
    have g20 := hr' 20 (by omega)
    rw [h20] at g20
    have g21 := hr' 21 (by omega)
    rw [h21] at g21
    have g22 := hr' 22 (by omega)
    rw [h22] at g22
    exact ⟨y, M', rfl, ⟨by omega, e0.trans (lw_s g11), e1.trans (lw_s g12), e2.trans (lw_s g13), e3.trans (lw_s g14), e4.trans (lw_s g15), e5.trans (lw_s g16), e6.trans (lw_s g17), e7.trans (lw_s g18), e8.trans (lw_s g19), e9.trans (lw_s g20), e10.trans (lw_s g21), e11.trans (lw_s g22)⟩⟩
theorem lwd_backL {X : nt_X} {pl : Nat → Nat} {v : Nat → Int} {M : nt_M} {d : Nat} {o : Option Value × nt_M} {b0 : Int32} (hd : 1 ≤ d) (hB : ly_B pl v M) (hb11 : (0 : Int) ≤ (nt_I M (pl 31) 1).toInt ∧ (nt_I M (pl 31) 1).toInt ≤ 1) (hb13 : (0 : Int) ≤ (nt_I M (pl 4) 0).toInt ∧ (nt_I M (pl 4) 0).toInt ≤ 4) (hb23 : (-2147483648 : Int) ≤ b0.toInt ∧ b0.toInt ≤ -1) (k : nt_ev X d 235 [.ref (pl 0), .int b0] M o) : ∃ (y : Int32) (M' : nt_M), o = (some (.int y), M') ∧ ((y.toInt = -1 ∧ (nt_I M' (pl 31) 1).toInt = (nt_I M (pl 31) 1).toInt ∧ (nt_I M' (pl 31) 2).toInt = (nt_I M (pl 31) 2).toInt ∧ (nt_I M' (pl 4) 0).toInt = (nt_I M (pl 4) 0).toInt ∧ (nt_I M' (pl 4) 4).toInt = (nt_I M (pl 4) 4).toInt ∧ (nt_I M' (pl 14) 0).toInt = (nt_I M (pl 14) 0).toInt ∧ (nt_I M' (pl 14) 212).toInt = (nt_I M (pl 14) 212).toInt ∧ (nt_I M' (pl 14) 424).toInt = (nt_I M (pl 14) 424).toInt ∧ (nt_I M' (pl 14) 636).toInt = (nt_I M (pl 14) 636).toInt ∧ (nt_I M' (pl 14) 4).toInt = (nt_I M (pl 14) 4).toInt ∧ (nt_I M' (pl 14) 216).toInt = (nt_I M (pl 14) 216).toInt ∧ (nt_I M' (pl 14) 428).toInt = (nt_I M (pl 14) 428).toInt ∧ (nt_I M' (pl 14) 640).toInt = (nt_I M (pl 14) 640).toInt)) := by
  obtain ⟨r, hr, h11, h12, h13, h14, h15, h16, h17, h18, h19, h20, h21, h22, h23⟩ : ∃ r : Nat → Int, (∀ s, s < 11 → r s = v s) ∧ r 11 = (nt_I M (pl 31) 1).toInt ∧ r 12 = (nt_I M (pl 31) 2).toInt ∧ r 13 = (nt_I M (pl 4) 0).toInt ∧ r 14 = (nt_I M (pl 4) 4).toInt ∧ r 15 = (nt_I M (pl 14) 0).toInt ∧ r 16 = (nt_I M (pl 14) 212).toInt ∧ r 17 = (nt_I M (pl 14) 424).toInt ∧ r 18 = (nt_I M (pl 14) 636).toInt ∧ r 19 = (nt_I M (pl 14) 4).toInt ∧ r 20 = (nt_I M (pl 14) 216).toInt ∧ r 21 = (nt_I M (pl 14) 428).toInt ∧ r 22 = (nt_I M (pl 14) 640).toInt ∧ r 23 = b0.toInt := ⟨fun s => if s = 11 then (nt_I M (pl 31) 1).toInt else if s = 12 then (nt_I M (pl 31) 2).toInt else if s = 13 then (nt_I M (pl 4) 0).toInt else if s = 14 then (nt_I M (pl 4) 4).toInt else if s = 15 then (nt_I M (pl 14) 0).toInt else if s = 16 then (nt_I M (pl 14) 212).toInt else if s = 17 then (nt_I M (pl 14) 424).toInt else if s = 18 then (nt_I M (pl 14) 636).toInt else if s = 19 then (nt_I M (pl 14) 4).toInt else if s = 20 then (nt_I M (pl 14) 216).toInt else if s = 21 then (nt_I M (pl 14) 428).toInt else if s = 22 then (nt_I M (pl 14) 640).toInt else if s = 23 then b0.toInt else v s, fun s hs => by dsimp only; rw [if_neg (by omega), if_neg (by omega), if_neg (by omega), if_neg (by omega), if_neg (by omega), if_neg (by omega), if_neg (by omega), if_neg (by omega), if_neg (by omega), if_neg (by omega), if_neg (by omega), if_neg (by omega), if_neg (by omega)], rfl, rfl, rfl, rfl, rfl, rfl, rfl, rfl, rfl, rfl, rfl, rfl, rfl⟩
  have hij := ly_ij (K := kk_wd_backL) rfl hB
  have hon := ly_app (K := kk_wd_backL) (ed := []) (ec := [((31, (1, [])), (0, [(11, 1)])), ((31, (2, [])), (0, [(12, 1)])), ((4, (0, [])), (0, [(13, 1)])), ((4, (4, [])), (0, [(14, 1)])), ((14, (0, [])), (0, [(15, 1)])), ((14, (212, [])), (0, [(16, 1)])), ((14, (424, [])), (0, [(17, 1)])), ((14, (636, [])), (0, [(18, 1)])), ((14, (4, [])), (0, [(19, 1)])), ((14, (216, [])), (0, [(20, 1)])), ((14, (428, [])), (0, [(21, 1)])), ((14, (640, [])), (0, [(22, 1)]))]) (er := []) rfl hB (fun _ _ => rfl) hr hij ly_nil (lw_oiC (g := 31) (j := 1) (by show 31 < 66; decide) (by decide) (by dsimp only; rw [sx_s_e]; exact h11.symm) (lw_oiC (g := 31) (j := 2) (by show 31 < 66; decide) (by decide) (by dsimp only; rw [sx_s_e]; exact h12.symm) (lw_oiC (g := 4) (j := 0) (by show 4 < 66; decide) (by decide) (by dsimp only; rw [sx_s_e]; exact h13.symm) (lw_oiC (g := 4) (j := 4) (by show 4 < 66; decide) (by decide) (by dsimp only; rw [sx_s_e]; exact h14.symm) (lw_oiC (g := 14) (j := 0) (by show 14 < 66; decide) (by decide) (by dsimp only; rw [sx_s_e]; exact h15.symm) (lw_oiC (g := 14) (j := 212) (by show 14 < 66; decide) (by decide) (by dsimp only; rw [sx_s_e]; exact h16.symm) (lw_oiC (g := 14) (j := 424) (by show 14 < 66; decide) (by decide) (by dsimp only; rw [sx_s_e]; exact h17.symm) (lw_oiC (g := 14) (j := 636) (by show 14 < 66; decide) (by decide) (by dsimp only; rw [sx_s_e]; exact h18.symm) (lw_oiC (g := 14) (j := 4) (by show 14 < 66; decide) (by decide) (by dsimp only; rw [sx_s_e]; exact h19.symm) (lw_oiC (g := 14) (j := 216) (by show 14 < 66; decide) (by decide) (by dsimp only; rw [sx_s_e]; exact h20.symm) (lw_oiC (g := 14) (j := 428) (by show 14 < 66; decide) (by decide) (by dsimp only; rw [sx_s_e]; exact h21.symm) (lw_oiC (g := 14) (j := 640) (by show 14 < 66; decide) (by decide) (by dsimp only; rw [sx_s_e]; exact h22.symm) (lw_oiN))))))))))))) (fun q hq => by cases hq) (ly_oba (ly_obr hr (ly_ob hB)) (ly_oba (ly_ob1 (by rw [h11]; exact hb11)) (ly_oba (ly_obI (x := nt_I M (pl 31) 2) h12) (ly_oba (ly_ob1 (by rw [h13]; exact hb13)) (ly_oba (ly_obI (x := nt_I M (pl 4) 4) h14) (ly_oba (ly_obI (x := nt_I M (pl 14) 0) h15) (ly_oba (ly_obI (x := nt_I M (pl 14) 212) h16) (ly_oba (ly_obI (x := nt_I M (pl 14) 424) h17) (ly_oba (ly_obI (x := nt_I M (pl 14) 636) h18) (ly_oba (ly_obI (x := nt_I M (pl 14) 4) h19) (ly_oba (ly_obI (x := nt_I M (pl 14) 216) h20) (ly_oba (ly_obI (x := nt_I M (pl 14) 428) h21) (ly_oba (ly_obI (x := nt_I M (pl 14) 640) h22) (ly_ob1 (by rw [h23]; exact hb23))))))))))))))) ly_oc0
  obtain ⟨p, hp, r', h2, h3⟩ := lw_app (ko_wd_backL X) rfl hd hon (vs := [.ref (pl 0), .int b0]) ⟨rfl, ⟨b0, rfl, (ly_e1 h23).symm⟩, trivial⟩ k
  have hr' : ∀ s, s < 24 → r' s = r s := fun s hs => h3.2.2.2.2.2.1 s hs
  obtain ⟨ov, M'⟩ := o
  rw [List.mem_singleton.mp hp] at h2 h3
  cases ov with
  | none => exact h2.elim
  | some w =>
    obtain ⟨y, rfl, hy⟩ := h2
    have hy : y.toInt = (-1) + 0 := hy
    have e0 : (nt_I M' (pl 31) 1).toInt = 0 + (1 * r' 11 + (0)) := lw_rd (g := 31) (j := 1) h3.2.2.1 (List.mem_of_getElem? (i := 0) rfl) (by decide)
    have e1 : (nt_I M' (pl 31) 2).toInt = 0 + (1 * r' 12 + (0)) := lw_rd (g := 31) (j := 2) h3.2.2.1 (List.mem_of_getElem? (i := 1) rfl) (by decide)
    have e2 : (nt_I M' (pl 4) 0).toInt = 0 + (1 * r' 13 + (0)) := lw_rd (g := 4) (j := 0) h3.2.2.1 (List.mem_of_getElem? (i := 2) rfl) (by decide)
    have e3 : (nt_I M' (pl 4) 4).toInt = 0 + (1 * r' 14 + (0)) := lw_rd (g := 4) (j := 4) h3.2.2.1 (List.mem_of_getElem? (i := 3) rfl) (by decide)
    have e4 : (nt_I M' (pl 14) 0).toInt = 0 + (1 * r' 15 + (0)) := lw_rd (g := 14) (j := 0) h3.2.2.1 (List.mem_of_getElem? (i := 4) rfl) (by decide)
    have e5 : (nt_I M' (pl 14) 212).toInt = 0 + (1 * r' 16 + (0)) := lw_rd (g := 14) (j := 212) h3.2.2.1 (List.mem_of_getElem? (i := 5) rfl) (by decide)
    have e6 : (nt_I M' (pl 14) 424).toInt = 0 + (1 * r' 17 + (0)) := lw_rd (g := 14) (j := 424) h3.2.2.1 (List.mem_of_getElem? (i := 6) rfl) (by decide)
    have e7 : (nt_I M' (pl 14) 636).toInt = 0 + (1 * r' 18 + (0)) := lw_rd (g := 14) (j := 636) h3.2.2.1 (List.mem_of_getElem? (i := 7) rfl) (by decide)
    have e8 : (nt_I M' (pl 14) 4).toInt = 0 + (1 * r' 19 + (0)) := lw_rd (g := 14) (j := 4) h3.2.2.1 (List.mem_of_getElem? (i := 8) rfl) (by decide)
    have e9 : (nt_I M' (pl 14) 216).toInt = 0 + (1 * r' 20 + (0)) := lw_rd (g := 14) (j := 216) h3.2.2.1 (List.mem_of_getElem? (i := 9) rfl) (by decide)
    have e10 : (nt_I M' (pl 14) 428).toInt = 0 + (1 * r' 21 + (0)) := lw_rd (g := 14) (j := 428) h3.2.2.1 (List.mem_of_getElem? (i := 10) rfl) (by decide)
    have e11 : (nt_I M' (pl 14) 640).toInt = 0 + (1 * r' 22 + (0)) := lw_rd (g := 14) (j := 640) h3.2.2.1 (List.mem_of_getElem? (i := 11) rfl) (by decide)
    have g11 := hr' 11 (by omega)
    rw [h11] at g11
    have g12 := hr' 12 (by omega)
    rw [h12] at g12
    have g13 := hr' 13 (by omega)
    rw [h13] at g13
    have g14 := hr' 14 (by omega)
    rw [h14] at g14
    have g15 := hr' 15 (by omega)
    rw [h15] at g15
    have g16 := hr' 16 (by omega)
    rw [h16] at g16
    have g17 := hr' 17 (by omega)
    rw [h17] at g17
    have g18 := hr' 18 (by omega)
    rw [h18] at g18
    have g19 := hr' 19 (by omega)
    rw [h19] at g19
    have g20 := hr' 20 (by omega)
    rw [h20] at g20
    have g21 := hr' 21 (by omega)
    rw [h21] at g21
    have g22 := hr' 22 (by omega)
    rw [h22] at g22
    exact ⟨y, M', rfl, ⟨by omega, e0.trans (lw_s g11), e1.trans (lw_s g12), e2.trans (lw_s g13), e3.trans (lw_s g14), e4.trans (lw_s g15), e5.trans (lw_s g16), e6.trans (lw_s g17), e7.trans (lw_s g18), e8.trans (lw_s g19), e9.trans (lw_s g20), e10.trans (lw_s g21), e11.trans (lw_s g22)⟩⟩
theorem lwd_n_backH {X : nt_X} {pl : Nat → Nat} {v : Nat → Int} {M : nt_M} {d : Nat} {o : Option Value × nt_M} {b0 : Int32} (hd : 0 ≤ d) (hB : ly_B pl v M) (hb11 : (0 : Int) ≤ (nt_I M (pl 31) 1).toInt ∧ (nt_I M (pl 31) 1).toInt ≤ 1) (hb13 : (0 : Int) ≤ (nt_I M (pl 4) 0).toInt ∧ (nt_I M (pl 4) 0).toInt ≤ 4) (hb23 : (4 : Int) ≤ b0.toInt ∧ b0.toInt ≤ 2147483647) (k : nt_ev X d 128 [.ref (pl 16), .int b0] M o) : ∃ (y : Int32) (M' : nt_M), o = (some (.int y), M') ∧ ((y.toInt = -1 ∧ (nt_I M' (pl 31) 1).toInt = (nt_I M (pl 31) 1).toInt ∧ (nt_I M' (pl 31) 2).toInt = (nt_I M (pl 31) 2).toInt ∧ (nt_I M' (pl 4) 0).toInt = (nt_I M (pl 4) 0).toInt ∧ (nt_I M' (pl 4) 4).toInt = (nt_I M (pl 4) 4).toInt ∧ (nt_I M' (pl 14) 0).toInt = (nt_I M (pl 14) 0).toInt ∧ (nt_I M' (pl 14) 212).toInt = (nt_I M (pl 14) 212).toInt ∧ (nt_I M' (pl 14) 424).toInt = (nt_I M (pl 14) 424).toInt ∧ (nt_I M' (pl 14) 636).toInt = (nt_I M (pl 14) 636).toInt ∧ (nt_I M' (pl 14) 4).toInt = (nt_I M (pl 14) 4).toInt ∧ (nt_I M' (pl 14) 216).toInt = (nt_I M (pl 14) 216).toInt ∧ (nt_I M' (pl 14) 428).toInt = (nt_I M (pl 14) 428).toInt ∧ (nt_I M' (pl 14) 640).toInt = (nt_I M (pl 14) 640).toInt)) := by
  obtain ⟨r, hr, h11, h12, h13, h14, h15, h16, h17, h18, h19, h20, h21, h22, h23⟩ : ∃ r : Nat → Int, (∀ s, s < 11 → r s = v s) ∧ r 11 = (nt_I M (pl 31) 1).toInt ∧ r 12 = (nt_I M (pl 31) 2).toInt ∧ r 13 = (nt_I M (pl 4) 0).toInt ∧ r 14 = (nt_I M (pl 4) 4).toInt ∧ r 15 = (nt_I M (pl 14) 0).toInt ∧ r 16 = (nt_I M (pl 14) 212).toInt ∧ r 17 = (nt_I M (pl 14) 424).toInt ∧ r 18 = (nt_I M (pl 14) 636).toInt ∧ r 19 = (nt_I M (pl 14) 4).toInt ∧ r 20 = (nt_I M (pl 14) 216).toInt ∧ r 21 = (nt_I M (pl 14) 428).toInt ∧ r 22 = (nt_I M (pl 14) 640).toInt ∧ r 23 = b0.toInt := ⟨fun s => if s = 11 then (nt_I M (pl 31) 1).toInt else if s = 12 then (nt_I M (pl 31) 2).toInt else if s = 13 then (nt_I M (pl 4) 0).toInt else if s = 14 then (nt_I M (pl 4) 4).toInt else if s = 15 then (nt_I M (pl 14) 0).toInt else if s = 16 then (nt_I M (pl 14) 212).toInt else if s = 17 then (nt_I M (pl 14) 424).toInt else if s = 18 then (nt_I M (pl 14) 636).toInt else if s = 19 then (nt_I M (pl 14) 4).toInt else if s = 20 then (nt_I M (pl 14) 216).toInt else if s = 21 then (nt_I M (pl 14) 428).toInt else if s = 22 then (nt_I M (pl 14) 640).toInt else if s = 23 then b0.toInt else v s, fun s hs => by dsimp only; rw [if_neg (by omega), if_neg (by omega), if_neg (by omega), if_neg (by omega), if_neg (by omega), if_neg (by omega), if_neg (by omega), if_neg (by omega), if_neg (by omega), if_neg (by omega), if_neg (by omega), if_neg (by omega), if_neg (by omega)], rfl, rfl, rfl, rfl, rfl, rfl, rfl, rfl, rfl, rfl, rfl, rfl, rfl⟩
  have hij := ly_ij (K := kk_wd_n_backH) rfl hB
  have hon := ly_app (K := kk_wd_n_backH) (ed := []) (ec := [((31, (1, [])), (0, [(11, 1)])), ((31, (2, [])), (0, [(12, 1)])), ((4, (0, [])), (0, [(13, 1)])), ((4, (4, [])), (0, [(14, 1)])), ((14, (0, [])), (0, [(15, 1)])), ((14, (212, [])), (0, [(16, 1)])), ((14, (424, [])), (0, [(17, 1)])), ((14, (636, [])), (0, [(18, 1)])), ((14, (4, [])), (0, [(19, 1)])), ((14, (216, [])), (0, [(20, 1)])), ((14, (428, [])), (0, [(21, 1)])), ((14, (640, [])), (0, [(22, 1)]))]) (er := []) rfl hB (fun _ _ => rfl) hr hij ly_nil (lw_oiC (g := 31) (j := 1) (by show 31 < 66; decide) (by decide) (by dsimp only; rw [sx_s_e]; exact h11.symm) (lw_oiC (g := 31) (j := 2) (by show 31 < 66; decide) (by decide) (by dsimp only; rw [sx_s_e]; exact h12.symm) (lw_oiC (g := 4) (j := 0) (by show 4 < 66; decide) (by decide) (by dsimp only; rw [sx_s_e]; exact h13.symm) (lw_oiC (g := 4) (j := 4) (by show 4 < 66; decide) (by decide) (by dsimp only; rw [sx_s_e]; exact h14.symm) (lw_oiC (g := 14) (j := 0) (by show 14 < 66; decide) (by decide) (by dsimp only; rw [sx_s_e]; exact h15.symm) (lw_oiC (g := 14) (j := 212) (by show 14 < 66; decide) (by decide) (by dsimp only; rw [sx_s_e]; exact h16.symm) (lw_oiC (g := 14) (j := 424) (by show 14 < 66; decide) (by decide) (by dsimp only; rw [sx_s_e]; exact h17.symm) (lw_oiC (g := 14) (j := 636) (by show 14 < 66; decide) (by decide) (by dsimp only; rw [sx_s_e]; exact h18.symm) (lw_oiC (g := 14) (j := 4) (by show 14 < 66; decide) (by decide) (by dsimp only; rw [sx_s_e]; exact h19.symm) (lw_oiC (g := 14) (j := 216) (by show 14 < 66; decide) (by decide) (by dsimp only; rw [sx_s_e]; exact h20.symm) (lw_oiC (g := 14) (j := 428) (by show 14 < 66; decide) (by decide) (by dsimp only; rw [sx_s_e]; exact h21.symm) (lw_oiC (g := 14) (j := 640) (by show 14 < 66; decide) (by decide) (by dsimp only; rw [sx_s_e]; exact h22.symm) (lw_oiN))))))))))))) (fun q hq => by cases hq) (ly_oba (ly_obr hr (ly_ob hB)) (ly_oba (ly_ob1 (by rw [h11]; exact hb11)) (ly_oba (ly_obI (x := nt_I M (pl 31) 2) h12) (ly_oba (ly_ob1 (by rw [h13]; exact hb13)) (ly_oba (ly_obI (x := nt_I M (pl 4) 4) h14) (ly_oba (ly_obI (x := nt_I M (pl 14) 0) h15) (ly_oba (ly_obI (x := nt_I M (pl 14) 212) h16) (ly_oba (ly_obI (x := nt_I M (pl 14) 424) h17) (ly_oba (ly_obI (x := nt_I M (pl 14) 636) h18) (ly_oba (ly_obI (x := nt_I M (pl 14) 4) h19) (ly_oba (ly_obI (x := nt_I M (pl 14) 216) h20) (ly_oba (ly_obI (x := nt_I M (pl 14) 428) h21) (ly_oba (ly_obI (x := nt_I M (pl 14) 640) h22) (ly_ob1 (by rw [h23]; exact hb23))))))))))))))) ly_oc0
  obtain ⟨p, hp, r', h2, h3⟩ := lw_app (ko_wd_n_backH X) rfl hd hon (vs := [.ref (pl 16), .int b0]) ⟨rfl, ⟨b0, rfl, (ly_e1 h23).symm⟩, trivial⟩ k
  have hr' : ∀ s, s < 24 → r' s = r s := fun s hs => h3.2.2.2.2.2.1 s hs
  obtain ⟨ov, M'⟩ := o
  rw [List.mem_singleton.mp hp] at h2 h3
  cases ov with
  | none => exact h2.elim
  | some w =>
    obtain ⟨y, rfl, hy⟩ := h2
    have hy : y.toInt = (-1) + 0 := hy
    have e0 : (nt_I M' (pl 31) 1).toInt = 0 + (1 * r' 11 + (0)) := lw_rd (g := 31) (j := 1) h3.2.2.1 (List.mem_of_getElem? (i := 0) rfl) (by decide)
    have e1 : (nt_I M' (pl 31) 2).toInt = 0 + (1 * r' 12 + (0)) := lw_rd (g := 31) (j := 2) h3.2.2.1 (List.mem_of_getElem? (i := 1) rfl) (by decide)
    have e2 : (nt_I M' (pl 4) 0).toInt = 0 + (1 * r' 13 + (0)) := lw_rd (g := 4) (j := 0) h3.2.2.1 (List.mem_of_getElem? (i := 2) rfl) (by decide)
    have e3 : (nt_I M' (pl 4) 4).toInt = 0 + (1 * r' 14 + (0)) := lw_rd (g := 4) (j := 4) h3.2.2.1 (List.mem_of_getElem? (i := 3) rfl) (by decide)
    have e4 : (nt_I M' (pl 14) 0).toInt = 0 + (1 * r' 15 + (0)) := lw_rd (g := 14) (j := 0) h3.2.2.1 (List.mem_of_getElem? (i := 4) rfl) (by decide)
    have e5 : (nt_I M' (pl 14) 212).toInt = 0 + (1 * r' 16 + (0)) := lw_rd (g := 14) (j := 212) h3.2.2.1 (List.mem_of_getElem? (i := 5) rfl) (by decide)
    have e6 : (nt_I M' (pl 14) 424).toInt = 0 + (1 * r' 17 + (0)) := lw_rd (g := 14) (j := 424) h3.2.2.1 (List.mem_of_getElem? (i := 6) rfl) (by decide)
    have e7 : (nt_I M' (pl 14) 636).toInt = 0 + (1 * r' 18 + (0)) := lw_rd (g := 14) (j := 636) h3.2.2.1 (List.mem_of_getElem? (i := 7) rfl) (by decide)
    have e8 : (nt_I M' (pl 14) 4).toInt = 0 + (1 * r' 19 + (0)) := lw_rd (g := 14) (j := 4) h3.2.2.1 (List.mem_of_getElem? (i := 8) rfl) (by decide)
    have e9 : (nt_I M' (pl 14) 216).toInt = 0 + (1 * r' 20 + (0)) := lw_rd (g := 14) (j := 216) h3.2.2.1 (List.mem_of_getElem? (i := 9) rfl) (by decide)
    have e10 : (nt_I M' (pl 14) 428).toInt = 0 + (1 * r' 21 + (0)) := lw_rd (g := 14) (j := 428) h3.2.2.1 (List.mem_of_getElem? (i := 10) rfl) (by decide)
    have e11 : (nt_I M' (pl 14) 640).toInt = 0 + (1 * r' 22 + (0)) := lw_rd (g := 14) (j := 640) h3.2.2.1 (List.mem_of_getElem? (i := 11) rfl) (by decide)
    have g11 := hr' 11 (by omega)
    rw [h11] at g11
    have g12 := hr' 12 (by omega)
    rw [h12] at g12
    have g13 := hr' 13 (by omega)
    rw [h13] at g13
    have g14 := hr' 14 (by omega)
    rw [h14] at g14
    have g15 := hr' 15 (by omega)
    rw [h15] at g15
    have g16 := hr' 16 (by omega)
    rw [h16] at g16
    have g17 := hr' 17 (by omega)
    rw [h17] at g17
    have g18 := hr' 18 (by omega)
    rw [h18] at g18
    have g19 := hr' 19 (by omega)
    rw [h19] at g19
    have g20 := hr' 20 (by omega)
    rw [h20] at g20
    have g21 := hr' 21 (by omega)
    rw [h21] at g21
    have g22 := hr' 22 (by omega)
    rw [h22] at g22
    exact ⟨y, M', rfl, ⟨by omega, e0.trans (lw_s g11), e1.trans (lw_s g12), e2.trans (lw_s g13), e3.trans (lw_s g14), e4.trans (lw_s g15), e5.trans (lw_s g16), e6.trans (lw_s g17), e7.trans (lw_s g18), e8.trans (lw_s g19), e9.trans (lw_s g20), e10.trans (lw_s g21), e11.trans (lw_s g22)⟩⟩
theorem lwd_backH {X : nt_X} {pl : Nat → Nat} {v : Nat → Int} {M : nt_M} {d : Nat} {o : Option Value × nt_M} {b0 : Int32} (hd : 1 ≤ d) (hB : ly_B pl v M) (hb11 : (0 : Int) ≤ (nt_I M (pl 31) 1).toInt ∧ (nt_I M (pl 31) 1).toInt ≤ 1) (hb13 : (0 : Int) ≤ (nt_I M (pl 4) 0).toInt ∧ (nt_I M (pl 4) 0).toInt ≤ 4) (hb23 : (4 : Int) ≤ b0.toInt ∧ b0.toInt ≤ 2147483647) (k : nt_ev X d 235 [.ref (pl 0), .int b0] M o) : ∃ (y : Int32) (M' : nt_M), o = (some (.int y), M') ∧ ((y.toInt = -1 ∧ (nt_I M' (pl 31) 1).toInt = (nt_I M (pl 31) 1).toInt ∧ (nt_I M' (pl 31) 2).toInt = (nt_I M (pl 31) 2).toInt ∧ (nt_I M' (pl 4) 0).toInt = (nt_I M (pl 4) 0).toInt ∧ (nt_I M' (pl 4) 4).toInt = (nt_I M (pl 4) 4).toInt ∧ (nt_I M' (pl 14) 0).toInt = (nt_I M (pl 14) 0).toInt ∧ (nt_I M' (pl 14) 212).toInt = (nt_I M (pl 14) 212).toInt ∧ (nt_I M' (pl 14) 424).toInt = (nt_I M (pl 14) 424).toInt ∧ (nt_I M' (pl 14) 636).toInt = (nt_I M (pl 14) 636).toInt ∧ (nt_I M' (pl 14) 4).toInt = (nt_I M (pl 14) 4).toInt ∧ (nt_I M' (pl 14) 216).toInt = (nt_I M (pl 14) 216).toInt ∧ (nt_I M' (pl 14) 428).toInt = (nt_I M (pl 14) 428).toInt ∧ (nt_I M' (pl 14) 640).toInt = (nt_I M (pl 14) 640).toInt)) := by
  obtain ⟨r, hr, h11, h12, h13, h14, h15, h16, h17, h18, h19, h20, h21, h22, h23⟩ : ∃ r : Nat → Int, (∀ s, s < 11 → r s = v s) ∧ r 11 = (nt_I M (pl 31) 1).toInt ∧ r 12 = (nt_I M (pl 31) 2).toInt ∧ r 13 = (nt_I M (pl 4) 0).toInt ∧ r 14 = (nt_I M (pl 4) 4).toInt ∧ r 15 = (nt_I M (pl 14) 0).toInt ∧ r 16 = (nt_I M (pl 14) 212).toInt ∧ r 17 = (nt_I M (pl 14) 424).toInt ∧ r 18 = (nt_I M (pl 14) 636).toInt ∧ r 19 = (nt_I M (pl 14) 4).toInt ∧ r 20 = (nt_I M (pl 14) 216).toInt ∧ r 21 = (nt_I M (pl 14) 428).toInt ∧ r 22 = (nt_I M (pl 14) 640).toInt ∧ r 23 = b0.toInt := ⟨fun s => if s = 11 then (nt_I M (pl 31) 1).toInt else if s = 12 then (nt_I M (pl 31) 2).toInt else if s = 13 then (nt_I M (pl 4) 0).toInt else if s = 14 then (nt_I M (pl 4) 4).toInt else if s = 15 then (nt_I M (pl 14) 0).toInt else if s = 16 then (nt_I M (pl 14) 212).toInt else if s = 17 then (nt_I M (pl 14) 424).toInt else if s = 18 then (nt_I M (pl 14) 636).toInt else if s = 19 then (nt_I M (pl 14) 4).toInt else if s = 20 then (nt_I M (pl 14) 216).toInt else if s = 21 then (nt_I M (pl 14) 428).toInt else if s = 22 then (nt_I M (pl 14) 640).toInt else if s = 23 then b0.toInt else v s, fun s hs => by dsimp only; rw [if_neg (by omega), if_neg (by omega), if_neg (by omega), if_neg (by omega), if_neg (by omega), if_neg (by omega), if_neg (by omega), if_neg (by omega), if_neg (by omega), if_neg (by omega), if_neg (by omega), if_neg (by omega), if_neg (by omega)], rfl, rfl, rfl, rfl, rfl, rfl, rfl, rfl, rfl, rfl, rfl, rfl, rfl⟩
  have hij := ly_ij (K := kk_wd_backH) rfl hB
  have hon := ly_app (K := kk_wd_backH) (ed := []) (ec := [((31, (1, [])), (0, [(11, 1)])), ((31, (2, [])), (0, [(12, 1)])), ((4, (0, [])), (0, [(13, 1)])), ((4, (4, [])), (0, [(14, 1)])), ((14, (0, [])), (0, [(15, 1)])), ((14, (212, [])), (0, [(16, 1)])), ((14, (424, [])), (0, [(17, 1)])), ((14, (636, [])), (0, [(18, 1)])), ((14, (4, [])), (0, [(19, 1)])), ((14, (216, [])), (0, [(20, 1)])), ((14, (428, [])), (0, [(21, 1)])), ((14, (640, [])), (0, [(22, 1)]))]) (er := []) rfl hB (fun _ _ => rfl) hr hij ly_nil (lw_oiC (g := 31) (j := 1) (by show 31 < 66; decide) (by decide) (by dsimp only; rw [sx_s_e]; exact h11.symm) (lw_oiC (g := 31) (j := 2) (by show 31 < 66; decide) (by decide) (by dsimp only; rw [sx_s_e]; exact h12.symm) (lw_oiC (g := 4) (j := 0) (by show 4 < 66; decide) (by decide) (by dsimp only; rw [sx_s_e]; exact h13.symm) (lw_oiC (g := 4) (j := 4) (by show 4 < 66; decide) (by decide) (by dsimp only; rw [sx_s_e]; exact h14.symm) (lw_oiC (g := 14) (j := 0) (by show 14 < 66; decide) (by decide) (by dsimp only; rw [sx_s_e]; exact h15.symm) (lw_oiC (g := 14) (j := 212) (by show 14 < 66; decide) (by decide) (by dsimp only; rw [sx_s_e]; exact h16.symm) (lw_oiC (g := 14) (j := 424) (by show 14 < 66; decide) (by decide) (by dsimp only; rw [sx_s_e]; exact h17.symm) (lw_oiC (g := 14) (j := 636) (by show 14 < 66; decide) (by decide) (by dsimp only; rw [sx_s_e]; exact h18.symm) (lw_oiC (g := 14) (j := 4) (by show 14 < 66; decide) (by decide) (by dsimp only; rw [sx_s_e]; exact h19.symm) (lw_oiC (g := 14) (j := 216) (by show 14 < 66; decide) (by decide) (by dsimp only; rw [sx_s_e]; exact h20.symm) (lw_oiC (g := 14) (j := 428) (by show 14 < 66; decide) (by decide) (by dsimp only; rw [sx_s_e]; exact h21.symm) (lw_oiC (g := 14) (j := 640) (by show 14 < 66; decide) (by decide) (by dsimp only; rw [sx_s_e]; exact h22.symm) (lw_oiN))))))))))))) (fun q hq => by cases hq) (ly_oba (ly_obr hr (ly_ob hB)) (ly_oba (ly_ob1 (by rw [h11]; exact hb11)) (ly_oba (ly_obI (x := nt_I M (pl 31) 2) h12) (ly_oba (ly_ob1 (by rw [h13]; exact hb13)) (ly_oba (ly_obI (x := nt_I M (pl 4) 4) h14) (ly_oba (ly_obI (x := nt_I M (pl 14) 0) h15) (ly_oba (ly_obI (x := nt_I M (pl 14) 212) h16) (ly_oba (ly_obI (x := nt_I M (pl 14) 424) h17) (ly_oba (ly_obI (x := nt_I M (pl 14) 636) h18) (ly_oba (ly_obI (x := nt_I M (pl 14) 4) h19) (ly_oba (ly_obI (x := nt_I M (pl 14) 216) h20) (ly_oba (ly_obI (x := nt_I M (pl 14) 428) h21) (ly_oba (ly_obI (x := nt_I M (pl 14) 640) h22) (ly_ob1 (by rw [h23]; exact hb23))))))))))))))) ly_oc0
  obtain ⟨p, hp, r', h2, h3⟩ := lw_app (ko_wd_backH X) rfl hd hon (vs := [.ref (pl 0), .int b0]) ⟨rfl, ⟨b0, rfl, (ly_e1 h23).symm⟩, trivial⟩ k
  have hr' : ∀ s, s < 24 → r' s = r s := fun s hs => h3.2.2.2.2.2.1 s hs
  obtain ⟨ov, M'⟩ := o
  rw [List.mem_singleton.mp hp] at h2 h3
  cases ov with
  | none => exact h2.elim
  | some w =>
    obtain ⟨y, rfl, hy⟩ := h2
    have hy : y.toInt = (-1) + 0 := hy
    have e0 : (nt_I M' (pl 31) 1).toInt = 0 + (1 * r' 11 + (0)) := lw_rd (g := 31) (j := 1) h3.2.2.1 (List.mem_of_getElem? (i := 0) rfl) (by decide)
    have e1 : (nt_I M' (pl 31) 2).toInt = 0 + (1 * r' 12 + (0)) := lw_rd (g := 31) (j := 2) h3.2.2.1 (List.mem_of_getElem? (i := 1) rfl) (by decide)
    have e2 : (nt_I M' (pl 4) 0).toInt = 0 + (1 * r' 13 + (0)) := lw_rd (g := 4) (j := 0) h3.2.2.1 (List.mem_of_getElem? (i := 2) rfl) (by decide)
    have e3 : (nt_I M' (pl 4) 4).toInt = 0 + (1 * r' 14 + (0)) := lw_rd (g := 4) (j := 4) h3.2.2.1 (List.mem_of_getElem? (i := 3) rfl) (by decide)
    have e4 : (nt_I M' (pl 14) 0).toInt = 0 + (1 * r' 15 + (0)) := lw_rd (g := 14) (j := 0) h3.2.2.1 (List.mem_of_getElem? (i := 4) rfl) (by decide)
    have e5 : (nt_I M' (pl 14) 212).toInt = 0 + (1 * r' 16 + (0)) := lw_rd (g := 14) (j := 212) h3.2.2.1 (List.mem_of_getElem? (i := 5) rfl) (by decide)
    have e6 : (nt_I M' (pl 14) 424).toInt = 0 + (1 * r' 17 + (0)) := lw_rd (g := 14) (j := 424) h3.2.2.1 (List.mem_of_getElem? (i := 6) rfl) (by decide)
    have e7 : (nt_I M' (pl 14) 636).toInt = 0 + (1 * r' 18 + (0)) := lw_rd (g := 14) (j := 636) h3.2.2.1 (List.mem_of_getElem? (i := 7) rfl) (by decide)
    have e8 : (nt_I M' (pl 14) 4).toInt = 0 + (1 * r' 19 + (0)) := lw_rd (g := 14) (j := 4) h3.2.2.1 (List.mem_of_getElem? (i := 8) rfl) (by decide)
    have e9 : (nt_I M' (pl 14) 216).toInt = 0 + (1 * r' 20 + (0)) := lw_rd (g := 14) (j := 216) h3.2.2.1 (List.mem_of_getElem? (i := 9) rfl) (by decide)
    have e10 : (nt_I M' (pl 14) 428).toInt = 0 + (1 * r' 21 + (0)) := lw_rd (g := 14) (j := 428) h3.2.2.1 (List.mem_of_getElem? (i := 10) rfl) (by decide)
    have e11 : (nt_I M' (pl 14) 640).toInt = 0 + (1 * r' 22 + (0)) := lw_rd (g := 14) (j := 640) h3.2.2.1 (List.mem_of_getElem? (i := 11) rfl) (by decide)
    have g11 := hr' 11 (by omega)
    rw [h11] at g11
    have g12 := hr' 12 (by omega)
    rw [h12] at g12
    have g13 := hr' 13 (by omega)
    rw [h13] at g13
    have g14 := hr' 14 (by omega)
    rw [h14] at g14
    have g15 := hr' 15 (by omega)
    rw [h15] at g15
    have g16 := hr' 16 (by omega)
    rw [h16] at g16
    have g17 := hr' 17 (by omega)
    rw [h17] at g17
    have g18 := hr' 18 (by omega)
    rw [h18] at g18
    have g19 := hr' 19 (by omega)
    rw [h19] at g19
    have g20 := hr' 20 (by omega)
    rw [h20] at g20
    have g21 := hr' 21 (by omega)
    rw [h21] at g21
    have g22 := hr' 22 (by omega)
    rw [h22] at g22
    exact ⟨y, M', rfl, ⟨by omega, e0.trans (lw_s g11), e1.trans (lw_s g12), e2.trans (lw_s g13), e3.trans (lw_s g14), e4.trans (lw_s g15), e5.trans (lw_s g16), e6.trans (lw_s g17), e7.trans (lw_s g18), e8.trans (lw_s g19), e9.trans (lw_s g20), e10.trans (lw_s g21), e11.trans (lw_s g22)⟩⟩
theorem lwd_n_feed {X : nt_X} {pl : Nat → Nat} {v : Nat → Int} {M : nt_M} {d : Nat} {o : Option Value × nt_M} {b0 b1 b2 b3 b4 : Int32} (hd : 1 ≤ d) (hB : ly_B pl v M) (hb11 : (0 : Int) ≤ (nt_I M (pl 31) 1).toInt ∧ (nt_I M (pl 31) 1).toInt ≤ 1) (hb13 : (0 : Int) ≤ (nt_I M (pl 4) 0).toInt ∧ (nt_I M (pl 4) 0).toInt ≤ 4) (k : nt_ev X d 102 [.ref (pl 16), .int b0, .int b1, .int b2, .int b3, .int b4] M o) : ∃ (y : Int32) (M' : nt_M), o = (some (.int y), M') ∧ (((nt_I M' (pl 31) 1).toInt = (nt_I M (pl 31) 1).toInt ∧ (nt_I M' (pl 31) 2).toInt = (nt_I M (pl 31) 2).toInt ∧ (nt_I M' (pl 4) 0).toInt = (nt_I M (pl 4) 0).toInt ∧ (nt_I M' (pl 4) 4).toInt = (nt_I M (pl 4) 4).toInt ∧ (nt_I M' (pl 14) 0).toInt = (nt_I M (pl 14) 0).toInt ∧ (nt_I M' (pl 14) 212).toInt = (nt_I M (pl 14) 212).toInt ∧ (nt_I M' (pl 14) 424).toInt = (nt_I M (pl 14) 424).toInt ∧ (nt_I M' (pl 14) 636).toInt = (nt_I M (pl 14) 636).toInt ∧ (nt_I M' (pl 14) 4).toInt = (nt_I M (pl 14) 4).toInt ∧ (nt_I M' (pl 14) 216).toInt = (nt_I M (pl 14) 216).toInt ∧ (nt_I M' (pl 14) 428).toInt = (nt_I M (pl 14) 428).toInt ∧ (nt_I M' (pl 14) 640).toInt = (nt_I M (pl 14) 640).toInt)) := by
  obtain ⟨r, hr, h11, h12, h13, h14, h15, h16, h17, h18, h19, h20, h21, h22, h23, h24, h25, h26, h27⟩ : ∃ r : Nat → Int, (∀ s, s < 11 → r s = v s) ∧ r 11 = (nt_I M (pl 31) 1).toInt ∧ r 12 = (nt_I M (pl 31) 2).toInt ∧ r 13 = (nt_I M (pl 4) 0).toInt ∧ r 14 = (nt_I M (pl 4) 4).toInt ∧ r 15 = (nt_I M (pl 14) 0).toInt ∧ r 16 = (nt_I M (pl 14) 212).toInt ∧ r 17 = (nt_I M (pl 14) 424).toInt ∧ r 18 = (nt_I M (pl 14) 636).toInt ∧ r 19 = (nt_I M (pl 14) 4).toInt ∧ r 20 = (nt_I M (pl 14) 216).toInt ∧ r 21 = (nt_I M (pl 14) 428).toInt ∧ r 22 = (nt_I M (pl 14) 640).toInt ∧ r 23 = b0.toInt ∧ r 24 = b1.toInt ∧ r 25 = b2.toInt ∧ r 26 = b3.toInt ∧ r 27 = b4.toInt := ⟨fun s => if s = 11 then (nt_I M (pl 31) 1).toInt else if s = 12 then (nt_I M (pl 31) 2).toInt else if s = 13 then (nt_I M (pl 4) 0).toInt else if s = 14 then (nt_I M (pl 4) 4).toInt else if s = 15 then (nt_I M (pl 14) 0).toInt else if s = 16 then (nt_I M (pl 14) 212).toInt else if s = 17 then (nt_I M (pl 14) 424).toInt else if s = 18 then (nt_I M (pl 14) 636).toInt else if s = 19 then (nt_I M (pl 14) 4).toInt else if s = 20 then (nt_I M (pl 14) 216).toInt else if s = 21 then (nt_I M (pl 14) 428).toInt else if s = 22 then (nt_I M (pl 14) 640).toInt else if s = 23 then b0.toInt else if s = 24 then b1.toInt else if s = 25 then b2.toInt else if s = 26 then b3.toInt else if s = 27 then b4.toInt else v s, fun s hs => by dsimp only; rw [if_neg (by omega), if_neg (by omega), if_neg (by omega), if_neg (by omega), if_neg (by omega), if_neg (by omega), if_neg (by omega), if_neg (by omega), if_neg (by omega), if_neg (by omega), if_neg (by omega), if_neg (by omega), if_neg (by omega), if_neg (by omega), if_neg (by omega), if_neg (by omega), if_neg (by omega)], rfl, rfl, rfl, rfl, rfl, rfl, rfl, rfl, rfl, rfl, rfl, rfl, rfl, rfl, rfl, rfl, rfl⟩
  have hij := ly_ij (K := kk_wd_n_feed) rfl hB
  have hon := ly_app (K := kk_wd_n_feed) (ed := []) (ec := [((31, (1, [])), (0, [(11, 1)])), ((31, (2, [])), (0, [(12, 1)])), ((4, (0, [])), (0, [(13, 1)])), ((4, (4, [])), (0, [(14, 1)])), ((14, (0, [])), (0, [(15, 1)])), ((14, (212, [])), (0, [(16, 1)])), ((14, (424, [])), (0, [(17, 1)])), ((14, (636, [])), (0, [(18, 1)])), ((14, (4, [])), (0, [(19, 1)])), ((14, (216, [])), (0, [(20, 1)])), ((14, (428, [])), (0, [(21, 1)])), ((14, (640, [])), (0, [(22, 1)]))]) (er := []) rfl hB (fun _ _ => rfl) hr hij ly_nil (lw_oiC (g := 31) (j := 1) (by show 31 < 66; decide) (by decide) (by dsimp only; rw [sx_s_e]; exact h11.symm) (lw_oiC (g := 31) (j := 2) (by show 31 < 66; decide) (by decide) (by dsimp only; rw [sx_s_e]; exact h12.symm) (lw_oiC (g := 4) (j := 0) (by show 4 < 66; decide) (by decide) (by dsimp only; rw [sx_s_e]; exact h13.symm) (lw_oiC (g := 4) (j := 4) (by show 4 < 66; decide) (by decide) (by dsimp only; rw [sx_s_e]; exact h14.symm) (lw_oiC (g := 14) (j := 0) (by show 14 < 66; decide) (by decide) (by dsimp only; rw [sx_s_e]; exact h15.symm) (lw_oiC (g := 14) (j := 212) (by show 14 < 66; decide) (by decide) (by dsimp only; rw [sx_s_e]; exact h16.symm) (lw_oiC (g := 14) (j := 424) (by show 14 < 66; decide) (by decide) (by dsimp only; rw [sx_s_e]; exact h17.symm) (lw_oiC (g := 14) (j := 636) (by show 14 < 66; decide) (by decide) (by dsimp only; rw [sx_s_e]; exact h18.symm) (lw_oiC (g := 14) (j := 4) (by show 14 < 66; decide) (by decide) (by dsimp only; rw [sx_s_e]; exact h19.symm) (lw_oiC (g := 14) (j := 216) (by show 14 < 66; decide) (by decide) (by dsimp only; rw [sx_s_e]; exact h20.symm) (lw_oiC (g := 14) (j := 428) (by show 14 < 66; decide) (by decide) (by dsimp only; rw [sx_s_e]; exact h21.symm) (lw_oiC (g := 14) (j := 640) (by show 14 < 66; decide) (by decide) (by dsimp only; rw [sx_s_e]; exact h22.symm) (lw_oiN))))))))))))) (fun q hq => by cases hq) (ly_oba (ly_obr hr (ly_ob hB)) (ly_oba (ly_ob1 (by rw [h11]; exact hb11)) (ly_oba (ly_obI (x := nt_I M (pl 31) 2) h12) (ly_oba (ly_ob1 (by rw [h13]; exact hb13)) (ly_oba (ly_obI (x := nt_I M (pl 4) 4) h14) (ly_oba (ly_obI (x := nt_I M (pl 14) 0) h15) (ly_oba (ly_obI (x := nt_I M (pl 14) 212) h16) (ly_oba (ly_obI (x := nt_I M (pl 14) 424) h17) (ly_oba (ly_obI (x := nt_I M (pl 14) 636) h18) (ly_oba (ly_obI (x := nt_I M (pl 14) 4) h19) (ly_oba (ly_obI (x := nt_I M (pl 14) 216) h20) (ly_oba (ly_obI (x := nt_I M (pl 14) 428) h21) (ly_oba (ly_obI (x := nt_I M (pl 14) 640) h22) (ly_oba (ly_obI h23) (ly_oba (ly_obI h24) (ly_oba (ly_obI h25) (ly_oba (ly_obI h26) (ly_obI h27)))))))))))))))))) ly_oc0
  obtain ⟨p, hp, r', h2, h3⟩ := lw_app (ko_wd_n_feed X) rfl hd hon (vs := [.ref (pl 16), .int b0, .int b1, .int b2, .int b3, .int b4]) ⟨rfl, ⟨b0, rfl, (ly_e1 h23).symm⟩, ⟨b1, rfl, (ly_e1 h24).symm⟩, ⟨b2, rfl, (ly_e1 h25).symm⟩, ⟨b3, rfl, (ly_e1 h26).symm⟩, ⟨b4, rfl, (ly_e1 h27).symm⟩, trivial⟩ k
  have hr' : ∀ s, s < 28 → r' s = r s := fun s hs => h3.2.2.2.2.2.1 s hs
  obtain ⟨ov, M'⟩ := o
  rw [List.mem_singleton.mp hp] at h2 h3
  cases ov with
  | none => exact h2.elim
  | some w =>
    obtain ⟨y, rfl, hy⟩ := h2
    have hy : y.toInt = 0 + (1 * r' 28 + (0)) := hy
    have e0 : (nt_I M' (pl 31) 1).toInt = 0 + (1 * r' 11 + (0)) := lw_rd (g := 31) (j := 1) h3.2.2.1 (List.mem_of_getElem? (i := 0) rfl) (by decide)
    have e1 : (nt_I M' (pl 31) 2).toInt = 0 + (1 * r' 12 + (0)) := lw_rd (g := 31) (j := 2) h3.2.2.1 (List.mem_of_getElem? (i := 1) rfl) (by decide)
    have e2 : (nt_I M' (pl 4) 0).toInt = 0 + (1 * r' 13 + (0)) := lw_rd (g := 4) (j := 0) h3.2.2.1 (List.mem_of_getElem? (i := 2) rfl) (by decide)
    have e3 : (nt_I M' (pl 4) 4).toInt = 0 + (1 * r' 14 + (0)) := lw_rd (g := 4) (j := 4) h3.2.2.1 (List.mem_of_getElem? (i := 3) rfl) (by decide)
    have e4 : (nt_I M' (pl 14) 0).toInt = 0 + (1 * r' 15 + (0)) := lw_rd (g := 14) (j := 0) h3.2.2.1 (List.mem_of_getElem? (i := 4) rfl) (by decide)
    have e5 : (nt_I M' (pl 14) 212).toInt = 0 + (1 * r' 16 + (0)) := lw_rd (g := 14) (j := 212) h3.2.2.1 (List.mem_of_getElem? (i := 5) rfl) (by decide)
    have e6 : (nt_I M' (pl 14) 424).toInt = 0 + (1 * r' 17 + (0)) := lw_rd (g := 14) (j := 424) h3.2.2.1 (List.mem_of_getElem? (i := 6) rfl) (by decide)
    have e7 : (nt_I M' (pl 14) 636).toInt = 0 + (1 * r' 18 + (0)) := lw_rd (g := 14) (j := 636) h3.2.2.1 (List.mem_of_getElem? (i := 7) rfl) (by decide)
    have e8 : (nt_I M' (pl 14) 4).toInt = 0 + (1 * r' 19 + (0)) := lw_rd (g := 14) (j := 4) h3.2.2.1 (List.mem_of_getElem? (i := 8) rfl) (by decide)
    have e9 : (nt_I M' (pl 14) 216).toInt = 0 + (1 * r' 20 + (0)) := lw_rd (g := 14) (j := 216) h3.2.2.1 (List.mem_of_getElem? (i := 9) rfl) (by decide)
    have e10 : (nt_I M' (pl 14) 428).toInt = 0 + (1 * r' 21 + (0)) := lw_rd (g := 14) (j := 428) h3.2.2.1 (List.mem_of_getElem? (i := 10) rfl) (by decide)
    have e11 : (nt_I M' (pl 14) 640).toInt = 0 + (1 * r' 22 + (0)) := lw_rd (g := 14) (j := 640) h3.2.2.1 (List.mem_of_getElem? (i := 11) rfl) (by decide)
    have g11 := hr' 11 (by omega)
    rw [h11] at g11
    have g12 := hr' 12 (by omega)
    rw [h12] at g12
    have g13 := hr' 13 (by omega)
    rw [h13] at g13
    have g14 := hr' 14 (by omega)
    rw [h14] at g14
    have g15 := hr' 15 (by omega)
    rw [h15] at g15
    have g16 := hr' 16 (by omega)
    rw [h16] at g16
    have g17 := hr' 17 (by omega)
    rw [h17] at g17
    have g18 := hr' 18 (by omega)
    rw [h18] at g18
    have g19 := hr' 19 (by omega)
    rw [h19] at g19
    have g20 := hr' 20 (by omega)
    rw [h20] at g20
    have g21 := hr' 21 (by omega)
    rw [h21] at g21
    have g22 := hr' 22 (by omega)
    rw [h22] at g22
    exact ⟨y, M', rfl, ⟨e0.trans (lw_s g11), e1.trans (lw_s g12), e2.trans (lw_s g13), e3.trans (lw_s g14), e4.trans (lw_s g15), e5.trans (lw_s g16), e6.trans (lw_s g17), e7.trans (lw_s g18), e8.trans (lw_s g19), e9.trans (lw_s g20), e10.trans (lw_s g21), e11.trans (lw_s g22)⟩⟩
theorem lwd_feed {X : nt_X} {pl : Nat → Nat} {v : Nat → Int} {M : nt_M} {d : Nat} {o : Option Value × nt_M} {b0 b1 b2 b3 b4 : Int32} (hd : 1 ≤ d) (hB : ly_B pl v M) (hb11 : (0 : Int) ≤ (nt_I M (pl 31) 1).toInt ∧ (nt_I M (pl 31) 1).toInt ≤ 1) (hb13 : (0 : Int) ≤ (nt_I M (pl 4) 0).toInt ∧ (nt_I M (pl 4) 0).toInt ≤ 4) (k : nt_ev X d 130 [.ref (pl 0), .int b0, .int b1, .int b2, .int b3, .int b4] M o) : ∃ (y : Int32) (M' : nt_M), o = (some (.int y), M') ∧ (((nt_I M' (pl 31) 1).toInt = (nt_I M (pl 31) 1).toInt ∧ (nt_I M' (pl 31) 2).toInt = (nt_I M (pl 31) 2).toInt ∧ (nt_I M' (pl 4) 0).toInt = (nt_I M (pl 4) 0).toInt ∧ (nt_I M' (pl 4) 4).toInt = (nt_I M (pl 4) 4).toInt ∧ (nt_I M' (pl 14) 0).toInt = (nt_I M (pl 14) 0).toInt ∧ (nt_I M' (pl 14) 212).toInt = (nt_I M (pl 14) 212).toInt ∧ (nt_I M' (pl 14) 424).toInt = (nt_I M (pl 14) 424).toInt ∧ (nt_I M' (pl 14) 636).toInt = (nt_I M (pl 14) 636).toInt ∧ (nt_I M' (pl 14) 4).toInt = (nt_I M (pl 14) 4).toInt ∧ (nt_I M' (pl 14) 216).toInt = (nt_I M (pl 14) 216).toInt ∧ (nt_I M' (pl 14) 428).toInt = (nt_I M (pl 14) 428).toInt ∧ (nt_I M' (pl 14) 640).toInt = (nt_I M (pl 14) 640).toInt)) := by
  obtain ⟨r, hr, h11, h12, h13, h14, h15, h16, h17, h18, h19, h20, h21, h22, h23, h24, h25, h26, h27⟩ : ∃ r : Nat → Int, (∀ s, s < 11 → r s = v s) ∧ r 11 = (nt_I M (pl 31) 1).toInt ∧ r 12 = (nt_I M (pl 31) 2).toInt ∧ r 13 = (nt_I M (pl 4) 0).toInt ∧ r 14 = (nt_I M (pl 4) 4).toInt ∧ r 15 = (nt_I M (pl 14) 0).toInt ∧ r 16 = (nt_I M (pl 14) 212).toInt ∧ r 17 = (nt_I M (pl 14) 424).toInt ∧ r 18 = (nt_I M (pl 14) 636).toInt ∧ r 19 = (nt_I M (pl 14) 4).toInt ∧ r 20 = (nt_I M (pl 14) 216).toInt ∧ r 21 = (nt_I M (pl 14) 428).toInt ∧ r 22 = (nt_I M (pl 14) 640).toInt ∧ r 23 = b0.toInt ∧ r 24 = b1.toInt ∧ r 25 = b2.toInt ∧ r 26 = b3.toInt ∧ r 27 = b4.toInt := ⟨fun s => if s = 11 then (nt_I M (pl 31) 1).toInt else if s = 12 then (nt_I M (pl 31) 2).toInt else if s = 13 then (nt_I M (pl 4) 0).toInt else if s = 14 then (nt_I M (pl 4) 4).toInt else if s = 15 then (nt_I M (pl 14) 0).toInt else if s = 16 then (nt_I M (pl 14) 212).toInt else if s = 17 then (nt_I M (pl 14) 424).toInt else if s = 18 then (nt_I M (pl 14) 636).toInt else if s = 19 then (nt_I M (pl 14) 4).toInt else if s = 20 then (nt_I M (pl 14) 216).toInt else if s = 21 then (nt_I M (pl 14) 428).toInt else if s = 22 then (nt_I M (pl 14) 640).toInt else if s = 23 then b0.toInt else if s = 24 then b1.toInt else if s = 25 then b2.toInt else if s = 26 then b3.toInt else if s = 27 then b4.toInt else v s, fun s hs => by dsimp only; rw [if_neg (by omega), if_neg (by omega), if_neg (by omega), if_neg (by omega), if_neg (by omega), if_neg (by omega), if_neg (by omega), if_neg (by omega), if_neg (by omega), if_neg (by omega), if_neg (by omega), if_neg (by omega), if_neg (by omega), if_neg (by omega), if_neg (by omega), if_neg (by omega), if_neg (by omega)], rfl, rfl, rfl, rfl, rfl, rfl, rfl, rfl, rfl, rfl, rfl, rfl, rfl, rfl, rfl, rfl, rfl⟩
  have hij := ly_ij (K := kk_wd_feed) rfl hB
  have hon := ly_app (K := kk_wd_feed) (ed := []) (ec := [((31, (1, [])), (0, [(11, 1)])), ((31, (2, [])), (0, [(12, 1)])), ((4, (0, [])), (0, [(13, 1)])), ((4, (4, [])), (0, [(14, 1)])), ((14, (0, [])), (0, [(15, 1)])), ((14, (212, [])), (0, [(16, 1)])), ((14, (424, [])), (0, [(17, 1)])), ((14, (636, [])), (0, [(18, 1)])), ((14, (4, [])), (0, [(19, 1)])), ((14, (216, [])), (0, [(20, 1)])), ((14, (428, [])), (0, [(21, 1)])), ((14, (640, [])), (0, [(22, 1)]))]) (er := []) rfl hB (fun _ _ => rfl) hr hij ly_nil (lw_oiC (g := 31) (j := 1) (by show 31 < 66; decide) (by decide) (by dsimp only; rw [sx_s_e]; exact h11.symm) (lw_oiC (g := 31) (j := 2) (by show 31 < 66; decide) (by decide) (by dsimp only; rw [sx_s_e]; exact h12.symm) (lw_oiC (g := 4) (j := 0) (by show 4 < 66; decide) (by decide) (by dsimp only; rw [sx_s_e]; exact h13.symm) (lw_oiC (g := 4) (j := 4) (by show 4 < 66; decide) (by decide) (by dsimp only; rw [sx_s_e]; exact h14.symm) (lw_oiC (g := 14) (j := 0) (by show 14 < 66; decide) (by decide) (by dsimp only; rw [sx_s_e]; exact h15.symm) (lw_oiC (g := 14) (j := 212) (by show 14 < 66; decide) (by decide) (by dsimp only; rw [sx_s_e]; exact h16.symm) (lw_oiC (g := 14) (j := 424) (by show 14 < 66; decide) (by decide) (by dsimp only; rw [sx_s_e]; exact h17.symm) (lw_oiC (g := 14) (j := 636) (by show 14 < 66; decide) (by decide) (by dsimp only; rw [sx_s_e]; exact h18.symm) (lw_oiC (g := 14) (j := 4) (by show 14 < 66; decide) (by decide) (by dsimp only; rw [sx_s_e]; exact h19.symm) (lw_oiC (g := 14) (j := 216) (by show 14 < 66; decide) (by decide) (by dsimp only; rw [sx_s_e]; exact h20.symm) (lw_oiC (g := 14) (j := 428) (by show 14 < 66; decide) (by decide) (by dsimp only; rw [sx_s_e]; exact h21.symm) (lw_oiC (g := 14) (j := 640) (by show 14 < 66; decide) (by decide) (by dsimp only; rw [sx_s_e]; exact h22.symm) (lw_oiN))))))))))))) (fun q hq => by cases hq) (ly_oba (ly_obr hr (ly_ob hB)) (ly_oba (ly_ob1 (by rw [h11]; exact hb11)) (ly_oba (ly_obI (x := nt_I M (pl 31) 2) h12) (ly_oba (ly_ob1 (by rw [h13]; exact hb13)) (ly_oba (ly_obI (x := nt_I M (pl 4) 4) h14) (ly_oba (ly_obI (x := nt_I M (pl 14) 0) h15) (ly_oba (ly_obI (x := nt_I M (pl 14) 212) h16) (ly_oba (ly_obI (x := nt_I M (pl 14) 424) h17) (ly_oba (ly_obI (x := nt_I M (pl 14) 636) h18) (ly_oba (ly_obI (x := nt_I M (pl 14) 4) h19) (ly_oba (ly_obI (x := nt_I M (pl 14) 216) h20) (ly_oba (ly_obI (x := nt_I M (pl 14) 428) h21) (ly_oba (ly_obI (x := nt_I M (pl 14) 640) h22) (ly_oba (ly_obI h23) (ly_oba (ly_obI h24) (ly_oba (ly_obI h25) (ly_oba (ly_obI h26) (ly_obI h27)))))))))))))))))) ly_oc0
  obtain ⟨p, hp, r', h2, h3⟩ := lw_app (ko_wd_feed X) rfl hd hon (vs := [.ref (pl 0), .int b0, .int b1, .int b2, .int b3, .int b4]) ⟨rfl, ⟨b0, rfl, (ly_e1 h23).symm⟩, ⟨b1, rfl, (ly_e1 h24).symm⟩, ⟨b2, rfl, (ly_e1 h25).symm⟩, ⟨b3, rfl, (ly_e1 h26).symm⟩, ⟨b4, rfl, (ly_e1 h27).symm⟩, trivial⟩ k
  have hr' : ∀ s, s < 28 → r' s = r s := fun s hs => h3.2.2.2.2.2.1 s hs
  obtain ⟨ov, M'⟩ := o
  rw [List.mem_singleton.mp hp] at h2 h3
  cases ov with
  | none => exact h2.elim
  | some w =>
    obtain ⟨y, rfl, hy⟩ := h2
    have hy : y.toInt = 0 + (1 * r' 28 + (0)) := hy
    have e0 : (nt_I M' (pl 31) 1).toInt = 0 + (1 * r' 11 + (0)) := lw_rd (g := 31) (j := 1) h3.2.2.1 (List.mem_of_getElem? (i := 0) rfl) (by decide)
    have e1 : (nt_I M' (pl 31) 2).toInt = 0 + (1 * r' 12 + (0)) := lw_rd (g := 31) (j := 2) h3.2.2.1 (List.mem_of_getElem? (i := 1) rfl) (by decide)
    have e2 : (nt_I M' (pl 4) 0).toInt = 0 + (1 * r' 13 + (0)) := lw_rd (g := 4) (j := 0) h3.2.2.1 (List.mem_of_getElem? (i := 2) rfl) (by decide)
    have e3 : (nt_I M' (pl 4) 4).toInt = 0 + (1 * r' 14 + (0)) := lw_rd (g := 4) (j := 4) h3.2.2.1 (List.mem_of_getElem? (i := 3) rfl) (by decide)
    have e4 : (nt_I M' (pl 14) 0).toInt = 0 + (1 * r' 15 + (0)) := lw_rd (g := 14) (j := 0) h3.2.2.1 (List.mem_of_getElem? (i := 4) rfl) (by decide)
    have e5 : (nt_I M' (pl 14) 212).toInt = 0 + (1 * r' 16 + (0)) := lw_rd (g := 14) (j := 212) h3.2.2.1 (List.mem_of_getElem? (i := 5) rfl) (by decide)
    have e6 : (nt_I M' (pl 14) 424).toInt = 0 + (1 * r' 17 + (0)) := lw_rd (g := 14) (j := 424) h3.2.2.1 (List.mem_of_getElem? (i := 6) rfl) (by decide)
    have e7 : (nt_I M' (pl 14) 636).toInt = 0 + (1 * r' 18 + (0)) := lw_rd (g := 14) (j := 636) h3.2.2.1 (List.mem_of_getElem? (i := 7) rfl) (by decide)
    have e8 : (nt_I M' (pl 14) 4).toInt = 0 + (1 * r' 19 + (0)) := lw_rd (g := 14) (j := 4) h3.2.2.1 (List.mem_of_getElem? (i := 8) rfl) (by decide)
    have e9 : (nt_I M' (pl 14) 216).toInt = 0 + (1 * r' 20 + (0)) := lw_rd (g := 14) (j := 216) h3.2.2.1 (List.mem_of_getElem? (i := 9) rfl) (by decide)
    have e10 : (nt_I M' (pl 14) 428).toInt = 0 + (1 * r' 21 + (0)) := lw_rd (g := 14) (j := 428) h3.2.2.1 (List.mem_of_getElem? (i := 10) rfl) (by decide)
    have e11 : (nt_I M' (pl 14) 640).toInt = 0 + (1 * r' 22 + (0)) := lw_rd (g := 14) (j := 640) h3.2.2.1 (List.mem_of_getElem? (i := 11) rfl) (by decide)
    have g11 := hr' 11 (by omega)
    rw [h11] at g11
    have g12 := hr' 12 (by omega)
    rw [h12] at g12
    have g13 := hr' 13 (by omega)
    rw [h13] at g13
    have g14 := hr' 14 (by omega)
    rw [h14] at g14
    have g15 := hr' 15 (by omega)
    rw [h15] at g15
    have g16 := hr' 16 (by omega)
    rw [h16] at g16
    have g17 := hr' 17 (by omega)
    rw [h17] at g17
    have g18 := hr' 18 (by omega)
    rw [h18] at g18
    have g19 := hr' 19 (by omega)
    rw [h19] at g19
    have g20 := hr' 20 (by omega)
    rw [h20] at g20
    have g21 := hr' 21 (by omega)
    rw [h21] at g21
    have g22 := hr' 22 (by omega)
    rw [h22] at g22
    exact ⟨y, M', rfl, ⟨e0.trans (lw_s g11), e1.trans (lw_s g12), e2.trans (lw_s g13), e3.trans (lw_s g14), e4.trans (lw_s g15), e5.trans (lw_s g16), e6.trans (lw_s g17), e7.trans (lw_s g18), e8.trans (lw_s g19), e9.trans (lw_s g20), e10.trans (lw_s g21), e11.trans (lw_s g22)⟩⟩
theorem lwd_n_end {X : nt_X} {pl : Nat → Nat} {v : Nat → Int} {M : nt_M} {d : Nat} {o : Option Value × nt_M} {b0 : Int32} (hd : 0 ≤ d) (hB : ly_B pl v M) (hb11 : (0 : Int) ≤ (nt_I M (pl 31) 1).toInt ∧ (nt_I M (pl 31) 1).toInt ≤ 1) (hb13 : (0 : Int) ≤ (nt_I M (pl 4) 0).toInt ∧ (nt_I M (pl 4) 0).toInt ≤ 4) (k : nt_ev X d 103 [.ref (pl 16), .int b0] M o) : ∃ (y : Int32) (M' : nt_M), o = (some (.int y), M') ∧ (((nt_I M' (pl 31) 1).toInt = (nt_I M (pl 31) 1).toInt ∧ (nt_I M' (pl 31) 2).toInt = (nt_I M (pl 31) 2).toInt ∧ (nt_I M' (pl 4) 0).toInt = (nt_I M (pl 4) 0).toInt ∧ (nt_I M' (pl 4) 4).toInt = (nt_I M (pl 4) 4).toInt ∧ (nt_I M' (pl 14) 0).toInt = (nt_I M (pl 14) 0).toInt ∧ (nt_I M' (pl 14) 212).toInt = (nt_I M (pl 14) 212).toInt ∧ (nt_I M' (pl 14) 424).toInt = (nt_I M (pl 14) 424).toInt ∧ (nt_I M' (pl 14) 636).toInt = (nt_I M (pl 14) 636).toInt ∧ (nt_I M' (pl 14) 4).toInt = (nt_I M (pl 14) 4).toInt ∧ (nt_I M' (pl 14) 216).toInt = (nt_I M (pl 14) 216).toInt ∧ (nt_I M' (pl 14) 428).toInt = (nt_I M (pl 14) 428).toInt ∧ (nt_I M' (pl 14) 640).toInt = (nt_I M (pl 14) 640).toInt)) := by
  obtain ⟨r, hr, h11, h12, h13, h14, h15, h16, h17, h18, h19, h20, h21, h22, h23⟩ : ∃ r : Nat → Int, (∀ s, s < 11 → r s = v s) ∧ r 11 = (nt_I M (pl 31) 1).toInt ∧ r 12 = (nt_I M (pl 31) 2).toInt ∧ r 13 = (nt_I M (pl 4) 0).toInt ∧ r 14 = (nt_I M (pl 4) 4).toInt ∧ r 15 = (nt_I M (pl 14) 0).toInt ∧ r 16 = (nt_I M (pl 14) 212).toInt ∧ r 17 = (nt_I M (pl 14) 424).toInt ∧ r 18 = (nt_I M (pl 14) 636).toInt ∧ r 19 = (nt_I M (pl 14) 4).toInt ∧ r 20 = (nt_I M (pl 14) 216).toInt ∧ r 21 = (nt_I M (pl 14) 428).toInt ∧ r 22 = (nt_I M (pl 14) 640).toInt ∧ r 23 = b0.toInt := ⟨fun s => if s = 11 then (nt_I M (pl 31) 1).toInt else if s = 12 then (nt_I M (pl 31) 2).toInt else if s = 13 then (nt_I M (pl 4) 0).toInt else if s = 14 then (nt_I M (pl 4) 4).toInt else if s = 15 then (nt_I M (pl 14) 0).toInt else if s = 16 then (nt_I M (pl 14) 212).toInt else if s = 17 then (nt_I M (pl 14) 424).toInt else if s = 18 then (nt_I M (pl 14) 636).toInt else if s = 19 then (nt_I M (pl 14) 4).toInt else if s = 20 then (nt_I M (pl 14) 216).toInt else if s = 21 then (nt_I M (pl 14) 428).toInt else if s = 22 then (nt_I M (pl 14) 640).toInt else if s = 23 then b0.toInt else v s, fun s hs => by dsimp only; rw [if_neg (by omega), if_neg (by omega), if_neg (by omega), if_neg (by omega), if_neg (by omega), if_neg (by omega), if_neg (by omega), if_neg (by omega), if_neg (by omega), if_neg (by omega), if_neg (by omega), if_neg (by omega), if_neg (by omega)], rfl, rfl, rfl, rfl, rfl, rfl, rfl, rfl, rfl, rfl, rfl, rfl, rfl⟩
  have hij := ly_ij (K := kk_wd_n_end) rfl hB
  have hon := ly_app (K := kk_wd_n_end) (ed := []) (ec := [((31, (1, [])), (0, [(11, 1)])), ((31, (2, [])), (0, [(12, 1)])), ((4, (0, [])), (0, [(13, 1)])), ((4, (4, [])), (0, [(14, 1)])), ((14, (0, [])), (0, [(15, 1)])), ((14, (212, [])), (0, [(16, 1)])), ((14, (424, [])), (0, [(17, 1)])), ((14, (636, [])), (0, [(18, 1)])), ((14, (4, [])), (0, [(19, 1)])), ((14, (216, [])), (0, [(20, 1)])), ((14, (428, [])), (0, [(21, 1)])), ((14, (640, [])), (0, [(22, 1)]))]) (er := []) rfl hB (fun _ _ => rfl) hr hij ly_nil (lw_oiC (g := 31) (j := 1) (by show 31 < 66; decide) (by decide) (by dsimp only; rw [sx_s_e]; exact h11.symm) (lw_oiC (g := 31) (j := 2) (by show 31 < 66; decide) (by decide) (by dsimp only; rw [sx_s_e]; exact h12.symm) (lw_oiC (g := 4) (j := 0) (by show 4 < 66; decide) (by decide) (by dsimp only; rw [sx_s_e]; exact h13.symm) (lw_oiC (g := 4) (j := 4) (by show 4 < 66; decide) (by decide) (by dsimp only; rw [sx_s_e]; exact h14.symm) (lw_oiC (g := 14) (j := 0) (by show 14 < 66; decide) (by decide) (by dsimp only; rw [sx_s_e]; exact h15.symm) (lw_oiC (g := 14) (j := 212) (by show 14 < 66; decide) (by decide) (by dsimp only; rw [sx_s_e]; exact h16.symm) (lw_oiC (g := 14) (j := 424) (by show 14 < 66; decide) (by decide) (by dsimp only; rw [sx_s_e]; exact h17.symm) (lw_oiC (g := 14) (j := 636) (by show 14 < 66; decide) (by decide) (by dsimp only; rw [sx_s_e]; exact h18.symm) (lw_oiC (g := 14) (j := 4) (by show 14 < 66; decide) (by decide) (by dsimp only; rw [sx_s_e]; exact h19.symm) (lw_oiC (g := 14) (j := 216) (by show 14 < 66; decide) (by decide) (by dsimp only; rw [sx_s_e]; exact h20.symm) (lw_oiC (g := 14) (j := 428) (by show 14 < 66; decide) (by decide) (by dsimp only; rw [sx_s_e]; exact h21.symm) (lw_oiC (g := 14) (j := 640) (by show 14 < 66; decide) (by decide) (by dsimp only; rw [sx_s_e]; exact h22.symm) (lw_oiN))))))))))))) (fun q hq => by cases hq) (ly_oba (ly_obr hr (ly_ob hB)) (ly_oba (ly_ob1 (by rw [h11]; exact hb11)) (ly_oba (ly_obI (x := nt_I M (pl 31) 2) h12) (ly_oba (ly_ob1 (by rw [h13]; exact hb13)) (ly_oba (ly_obI (x := nt_I M (pl 4) 4) h14) (ly_oba (ly_obI (x := nt_I M (pl 14) 0) h15) (ly_oba (ly_obI (x := nt_I M (pl 14) 212) h16) (ly_oba (ly_obI (x := nt_I M (pl 14) 424) h17) (ly_oba (ly_obI (x := nt_I M (pl 14) 636) h18) (ly_oba (ly_obI (x := nt_I M (pl 14) 4) h19) (ly_oba (ly_obI (x := nt_I M (pl 14) 216) h20) (ly_oba (ly_obI (x := nt_I M (pl 14) 428) h21) (ly_oba (ly_obI (x := nt_I M (pl 14) 640) h22) (ly_obI h23)))))))))))))) ly_oc0
  obtain ⟨p, hp, r', h2, h3⟩ := lw_app (ko_wd_n_end X) rfl hd hon (vs := [.ref (pl 16), .int b0]) ⟨rfl, ⟨b0, rfl, (ly_e1 h23).symm⟩, trivial⟩ k
  have hr' : ∀ s, s < 24 → r' s = r s := fun s hs => h3.2.2.2.2.2.1 s hs
  obtain ⟨ov, M'⟩ := o
  rw [List.mem_singleton.mp hp] at h2 h3
  cases ov with
  | none => exact h2.elim
  | some w =>
    obtain ⟨y, rfl, hy⟩ := h2
    have hy : y.toInt = 0 + (1 * r' 24 + (0)) := hy
    have e0 : (nt_I M' (pl 31) 1).toInt = 0 + (1 * r' 11 + (0)) := lw_rd (g := 31) (j := 1) h3.2.2.1 (List.mem_of_getElem? (i := 0) rfl) (by decide)
    have e1 : (nt_I M' (pl 31) 2).toInt = 0 + (1 * r' 12 + (0)) := lw_rd (g := 31) (j := 2) h3.2.2.1 (List.mem_of_getElem? (i := 1) rfl) (by decide)
    have e2 : (nt_I M' (pl 4) 0).toInt = 0 + (1 * r' 13 + (0)) := lw_rd (g := 4) (j := 0) h3.2.2.1 (List.mem_of_getElem? (i := 2) rfl) (by decide)
    have e3 : (nt_I M' (pl 4) 4).toInt = 0 + (1 * r' 14 + (0)) := lw_rd (g := 4) (j := 4) h3.2.2.1 (List.mem_of_getElem? (i := 3) rfl) (by decide)
    have e4 : (nt_I M' (pl 14) 0).toInt = 0 + (1 * r' 15 + (0)) := lw_rd (g := 14) (j := 0) h3.2.2.1 (List.mem_of_getElem? (i := 4) rfl) (by decide)
    have e5 : (nt_I M' (pl 14) 212).toInt = 0 + (1 * r' 16 + (0)) := lw_rd (g := 14) (j := 212) h3.2.2.1 (List.mem_of_getElem? (i := 5) rfl) (by decide)
    have e6 : (nt_I M' (pl 14) 424).toInt = 0 + (1 * r' 17 + (0)) := lw_rd (g := 14) (j := 424) h3.2.2.1 (List.mem_of_getElem? (i := 6) rfl) (by decide)
    have e7 : (nt_I M' (pl 14) 636).toInt = 0 + (1 * r' 18 + (0)) := lw_rd (g := 14) (j := 636) h3.2.2.1 (List.mem_of_getElem? (i := 7) rfl) (by decide)
    have e8 : (nt_I M' (pl 14) 4).toInt = 0 + (1 * r' 19 + (0)) := lw_rd (g := 14) (j := 4) h3.2.2.1 (List.mem_of_getElem? (i := 8) rfl) (by decide)
    have e9 : (nt_I M' (pl 14) 216).toInt = 0 + (1 * r' 20 + (0)) := lw_rd (g := 14) (j := 216) h3.2.2.1 (List.mem_of_getElem? (i := 9) rfl) (by decide)
    have e10 : (nt_I M' (pl 14) 428).toInt = 0 + (1 * r' 21 + (0)) := lw_rd (g := 14) (j := 428) h3.2.2.1 (List.mem_of_getElem? (i := 10) rfl) (by decide)
    have e11 : (nt_I M' (pl 14) 640).toInt = 0 + (1 * r' 22 + (0)) := lw_rd (g := 14) (j := 640) h3.2.2.1 (List.mem_of_getElem? (i := 11) rfl) (by decide)
    have g11 := hr' 11 (by omega)
    rw [h11] at g11
    have g12 := hr' 12 (by omega)
    rw [h12] at g12
    have g13 := hr' 13 (by omega)
    rw [h13] at g13
    have g14 := hr' 14 (by omega)
    rw [h14] at g14
    have g15 := hr' 15 (by omega)
    rw [h15] at g15
    have g16 := hr' 16 (by omega)
    rw [h16] at g16
    have g17 := hr' 17 (by omega)
    rw [h17] at g17
    have g18 := hr' 18 (by omega)
    rw [h18] at g18
    have g19 := hr' 19 (by omega)
    rw [h19] at g19
    have g20 := hr' 20 (by omega)
    rw [h20] at g20
    have g21 := hr' 21 (by omega)
    rw [h21] at g21
    have g22 := hr' 22 (by omega)
    rw [h22] at g22
    exact ⟨y, M', rfl, ⟨e0.trans (lw_s g11), e1.trans (lw_s g12), e2.trans (lw_s g13), e3.trans (lw_s g14), e4.trans (lw_s g15), e5.trans (lw_s g16), e6.trans (lw_s g17), e7.trans (lw_s g18), e8.trans (lw_s g19), e9.trans (lw_s g20), e10.trans (lw_s g21), e11.trans (lw_s g22)⟩⟩
theorem lwd_end {X : nt_X} {pl : Nat → Nat} {v : Nat → Int} {M : nt_M} {d : Nat} {o : Option Value × nt_M} {b0 : Int32} (hd : 0 ≤ d) (hB : ly_B pl v M) (hb11 : (0 : Int) ≤ (nt_I M (pl 31) 1).toInt ∧ (nt_I M (pl 31) 1).toInt ≤ 1) (hb13 : (0 : Int) ≤ (nt_I M (pl 4) 0).toInt ∧ (nt_I M (pl 4) 0).toInt ≤ 4) (k : nt_ev X d 132 [.ref (pl 0), .int b0] M o) : ∃ (y : Int32) (M' : nt_M), o = (some (.int y), M') ∧ (((nt_I M' (pl 31) 1).toInt = (nt_I M (pl 31) 1).toInt ∧ (nt_I M' (pl 31) 2).toInt = (nt_I M (pl 31) 2).toInt ∧ (nt_I M' (pl 4) 0).toInt = (nt_I M (pl 4) 0).toInt ∧ (nt_I M' (pl 4) 4).toInt = (nt_I M (pl 4) 4).toInt ∧ (nt_I M' (pl 14) 0).toInt = (nt_I M (pl 14) 0).toInt ∧ (nt_I M' (pl 14) 212).toInt = (nt_I M (pl 14) 212).toInt ∧ (nt_I M' (pl 14) 424).toInt = (nt_I M (pl 14) 424).toInt ∧ (nt_I M' (pl 14) 636).toInt = (nt_I M (pl 14) 636).toInt ∧ (nt_I M' (pl 14) 4).toInt = (nt_I M (pl 14) 4).toInt ∧ (nt_I M' (pl 14) 216).toInt = (nt_I M (pl 14) 216).toInt ∧ (nt_I M' (pl 14) 428).toInt = (nt_I M (pl 14) 428).toInt ∧ (nt_I M' (pl 14) 640).toInt = (nt_I M (pl 14) 640).toInt)) := by
  obtain ⟨r, hr, h11, h12, h13, h14, h15, h16, h17, h18, h19, h20, h21, h22, h23⟩ : ∃ r : Nat → Int, (∀ s, s < 11 → r s = v s) ∧ r 11 = (nt_I M (pl 31) 1).toInt ∧ r 12 = (nt_I M (pl 31) 2).toInt ∧ r 13 = (nt_I M (pl 4) 0).toInt ∧ r 14 = (nt_I M (pl 4) 4).toInt ∧ r 15 = (nt_I M (pl 14) 0).toInt ∧ r 16 = (nt_I M (pl 14) 212).toInt ∧ r 17 = (nt_I M (pl 14) 424).toInt ∧ r 18 = (nt_I M (pl 14) 636).toInt ∧ r 19 = (nt_I M (pl 14) 4).toInt ∧ r 20 = (nt_I M (pl 14) 216).toInt ∧ r 21 = (nt_I M (pl 14) 428).toInt ∧ r 22 = (nt_I M (pl 14) 640).toInt ∧ r 23 = b0.toInt := ⟨fun s => if s = 11 then (nt_I M (pl 31) 1).toInt else if s = 12 then (nt_I M (pl 31) 2).toInt else if s = 13 then (nt_I M (pl 4) 0).toInt else if s = 14 then (nt_I M (pl 4) 4).toInt else if s = 15 then (nt_I M (pl 14) 0).toInt else if s = 16 then (nt_I M (pl 14) 212).toInt else if s = 17 then (nt_I M (pl 14) 424).toInt else if s = 18 then (nt_I M (pl 14) 636).toInt else if s = 19 then (nt_I M (pl 14) 4).toInt else if s = 20 then (nt_I M (pl 14) 216).toInt else if s = 21 then (nt_I M (pl 14) 428).toInt else if s = 22 then (nt_I M (pl 14) 640).toInt else if s = 23 then b0.toInt else v s, fun s hs => by dsimp only; rw [if_neg (by omega), if_neg (by omega), if_neg (by omega), if_neg (by omega), if_neg (by omega), if_neg (by omega), if_neg (by omega), if_neg (by omega), if_neg (by omega), if_neg (by omega), if_neg (by omega), if_neg (by omega), if_neg (by omega)], rfl, rfl, rfl, rfl, rfl, rfl, rfl, rfl, rfl, rfl, rfl, rfl, rfl⟩
  have hij := ly_ij (K := kk_wd_end) rfl hB
  have hon := ly_app (K := kk_wd_end) (ed := []) (ec := [((31, (1, [])), (0, [(11, 1)])), ((31, (2, [])), (0, [(12, 1)])), ((4, (0, [])), (0, [(13, 1)])), ((4, (4, [])), (0, [(14, 1)])), ((14, (0, [])), (0, [(15, 1)])), ((14, (212, [])), (0, [(16, 1)])), ((14, (424, [])), (0, [(17, 1)])), ((14, (636, [])), (0, [(18, 1)])), ((14, (4, [])), (0, [(19, 1)])), ((14, (216, [])), (0, [(20, 1)])), ((14, (428, [])), (0, [(21, 1)])), ((14, (640, [])), (0, [(22, 1)]))]) (er := []) rfl hB (fun _ _ => rfl) hr hij ly_nil (lw_oiC (g := 31) (j := 1) (by show 31 < 66; decide) (by decide) (by dsimp only; rw [sx_s_e]; exact h11.symm) (lw_oiC (g := 31) (j := 2) (by show 31 < 66; decide) (by decide) (by dsimp only; rw [sx_s_e]; exact h12.symm) (lw_oiC (g := 4) (j := 0) (by show 4 < 66; decide) (by decide) (by dsimp only; rw [sx_s_e]; exact h13.symm) (lw_oiC (g := 4) (j := 4) (by show 4 < 66; decide) (by decide) (by dsimp only; rw [sx_s_e]; exact h14.symm) (lw_oiC (g := 14) (j := 0) (by show 14 < 66; decide) (by decide) (by dsimp only; rw [sx_s_e]; exact h15.symm) (lw_oiC (g := 14) (j := 212) (by show 14 < 66; decide) (by decide) (by dsimp only; rw [sx_s_e]; exact h16.symm) (lw_oiC (g := 14) (j := 424) (by show 14 < 66; decide) (by decide) (by dsimp only; rw [sx_s_e]; exact h17.symm) (lw_oiC (g := 14) (j := 636) (by show 14 < 66; decide) (by decide) (by dsimp only; rw [sx_s_e]; exact h18.symm) (lw_oiC (g := 14) (j := 4) (by show 14 < 66; decide) (by decide) (by dsimp only; rw [sx_s_e]; exact h19.symm) (lw_oiC (g := 14) (j := 216) (by show 14 < 66; decide) (by decide) (by dsimp only; rw [sx_s_e]; exact h20.symm) (lw_oiC (g := 14) (j := 428) (by show 14 < 66; decide) (by decide) (by dsimp only; rw [sx_s_e]; exact h21.symm) (lw_oiC (g := 14) (j := 640) (by show 14 < 66; decide) (by decide) (by dsimp only; rw [sx_s_e]; exact h22.symm) (lw_oiN))))))))))))) (fun q hq => by cases hq) (ly_oba (ly_obr hr (ly_ob hB)) (ly_oba (ly_ob1 (by rw [h11]; exact hb11)) (ly_oba (ly_obI (x := nt_I M (pl 31) 2) h12) (ly_oba (ly_ob1 (by rw [h13]; exact hb13)) (ly_oba (ly_obI (x := nt_I M (pl 4) 4) h14) (ly_oba (ly_obI (x := nt_I M (pl 14) 0) h15) (ly_oba (ly_obI (x := nt_I M (pl 14) 212) h16) (ly_oba (ly_obI (x := nt_I M (pl 14) 424) h17) (ly_oba (ly_obI (x := nt_I M (pl 14) 636) h18) (ly_oba (ly_obI (x := nt_I M (pl 14) 4) h19) (ly_oba (ly_obI (x := nt_I M (pl 14) 216) h20) (ly_oba (ly_obI (x := nt_I M (pl 14) 428) h21) (ly_oba (ly_obI (x := nt_I M (pl 14) 640) h22) (ly_obI h23)))))))))))))) ly_oc0
  obtain ⟨p, hp, r', h2, h3⟩ := lw_app (ko_wd_end X) rfl hd hon (vs := [.ref (pl 0), .int b0]) ⟨rfl, ⟨b0, rfl, (ly_e1 h23).symm⟩, trivial⟩ k
  have hr' : ∀ s, s < 24 → r' s = r s := fun s hs => h3.2.2.2.2.2.1 s hs
  obtain ⟨ov, M'⟩ := o
  rw [List.mem_singleton.mp hp] at h2 h3
  cases ov with
  | none => exact h2.elim
  | some w =>
    obtain ⟨y, rfl, hy⟩ := h2
    have hy : y.toInt = 0 + (1 * r' 24 + (0)) := hy
    have e0 : (nt_I M' (pl 31) 1).toInt = 0 + (1 * r' 11 + (0)) := lw_rd (g := 31) (j := 1) h3.2.2.1 (List.mem_of_getElem? (i := 0) rfl) (by decide)
    have e1 : (nt_I M' (pl 31) 2).toInt = 0 + (1 * r' 12 + (0)) := lw_rd (g := 31) (j := 2) h3.2.2.1 (List.mem_of_getElem? (i := 1) rfl) (by decide)
    have e2 : (nt_I M' (pl 4) 0).toInt = 0 + (1 * r' 13 + (0)) := lw_rd (g := 4) (j := 0) h3.2.2.1 (List.mem_of_getElem? (i := 2) rfl) (by decide)
    have e3 : (nt_I M' (pl 4) 4).toInt = 0 + (1 * r' 14 + (0)) := lw_rd (g := 4) (j := 4) h3.2.2.1 (List.mem_of_getElem? (i := 3) rfl) (by decide)
    have e4 : (nt_I M' (pl 14) 0).toInt = 0 + (1 * r' 15 + (0)) := lw_rd (g := 14) (j := 0) h3.2.2.1 (List.mem_of_getElem? (i := 4) rfl) (by decide)
    have e5 : (nt_I M' (pl 14) 212).toInt = 0 + (1 * r' 16 + (0)) := lw_rd (g := 14) (j := 212) h3.2.2.1 (List.mem_of_getElem? (i := 5) rfl) (by decide)
    have e6 : (nt_I M' (pl 14) 424).toInt = 0 + (1 * r' 17 + (0)) := lw_rd (g := 14) (j := 424) h3.2.2.1 (List.mem_of_getElem? (i := 6) rfl) (by decide)
    have e7 : (nt_I M' (pl 14) 636).toInt = 0 + (1 * r' 18 + (0)) := lw_rd (g := 14) (j := 636) h3.2.2.1 (List.mem_of_getElem? (i := 7) rfl) (by decide)
    have e8 : (nt_I M' (pl 14) 4).toInt = 0 + (1 * r' 19 + (0)) := lw_rd (g := 14) (j := 4) h3.2.2.1 (List.mem_of_getElem? (i := 8) rfl) (by decide)
    have e9 : (nt_I M' (pl 14) 216).toInt = 0 + (1 * r' 20 + (0)) := lw_rd (g := 14) (j := 216) h3.2.2.1 (List.mem_of_getElem? (i := 9) rfl) (by decide)
    have e10 : (nt_I M' (pl 14) 428).toInt = 0 + (1 * r' 21 + (0)) := lw_rd (g := 14) (j := 428) h3.2.2.1 (List.mem_of_getElem? (i := 10) rfl) (by decide)
    have e11 : (nt_I M' (pl 14) 640).toInt = 0 + (1 * r' 22 + (0)) := lw_rd (g := 14) (j := 640) h3.2.2.1 (List.mem_of_getElem? (i := 11) rfl) (by decide)
    have g11 := hr' 11 (by omega)
    rw [h11] at g11
    have g12 := hr' 12 (by omega)
    rw [h12] at g12
    have g13 := hr' 13 (by omega)
    rw [h13] at g13
    have g14 := hr' 14 (by omega)
    rw [h14] at g14
    have g15 := hr' 15 (by omega)
    rw [h15] at g15
    have g16 := hr' 16 (by omega)
    rw [h16] at g16
    have g17 := hr' 17 (by omega)
    rw [h17] at g17
    have g18 := hr' 18 (by omega)
    rw [h18] at g18
    have g19 := hr' 19 (by omega)
    rw [h19] at g19
    have g20 := hr' 20 (by omega)
    rw [h20] at g20
    have g21 := hr' 21 (by omega)
    rw [h21] at g21
    have g22 := hr' 22 (by omega)
    rw [h22] at g22
    exact ⟨y, M', rfl, ⟨e0.trans (lw_s g11), e1.trans (lw_s g12), e2.trans (lw_s g13), e3.trans (lw_s g14), e4.trans (lw_s g15), e5.trans (lw_s g16), e6.trans (lw_s g17), e7.trans (lw_s g18), e8.trans (lw_s g19), e9.trans (lw_s g20), e10.trans (lw_s g21), e11.trans (lw_s g22)⟩⟩
theorem lwd_n_ship {X : nt_X} {pl : Nat → Nat} {v : Nat → Int} {M : nt_M} {d : Nat} {o : Option Value × nt_M} {b0 b1 : Int32} (hd : 3 ≤ d) (hB : ly_B pl v M) (hb11 : (0 : Int) ≤ (nt_I M (pl 31) 1).toInt ∧ (nt_I M (pl 31) 1).toInt ≤ 1) (hb13 : (0 : Int) ≤ (nt_I M (pl 4) 0).toInt ∧ (nt_I M (pl 4) 0).toInt ≤ 4) (k : nt_ev X d 106 [.ref (pl 16), .int b0, .int b1] M o) : ∃ (y : Int32) (M' : nt_M), o = (some (.int y), M') ∧ (((nt_I M' (pl 31) 1).toInt = (nt_I M (pl 31) 1).toInt ∧ (nt_I M' (pl 31) 2).toInt = (nt_I M (pl 31) 2).toInt ∧ (nt_I M' (pl 4) 0).toInt = (nt_I M (pl 4) 0).toInt ∧ (nt_I M' (pl 4) 4).toInt = (nt_I M (pl 4) 4).toInt ∧ (nt_I M' (pl 14) 0).toInt = (nt_I M (pl 14) 0).toInt ∧ (nt_I M' (pl 14) 212).toInt = (nt_I M (pl 14) 212).toInt ∧ (nt_I M' (pl 14) 424).toInt = (nt_I M (pl 14) 424).toInt ∧ (nt_I M' (pl 14) 636).toInt = (nt_I M (pl 14) 636).toInt ∧ (nt_I M' (pl 14) 4).toInt = (nt_I M (pl 14) 4).toInt ∧ (nt_I M' (pl 14) 216).toInt = (nt_I M (pl 14) 216).toInt ∧ (nt_I M' (pl 14) 428).toInt = (nt_I M (pl 14) 428).toInt ∧ (nt_I M' (pl 14) 640).toInt = (nt_I M (pl 14) 640).toInt)) := by
  obtain ⟨r, hr, h11, h12, h13, h14, h15, h16, h17, h18, h19, h20, h21, h22, h23, h24⟩ : ∃ r : Nat → Int, (∀ s, s < 11 → r s = v s) ∧ r 11 = (nt_I M (pl 31) 1).toInt ∧ r 12 = (nt_I M (pl 31) 2).toInt ∧ r 13 = (nt_I M (pl 4) 0).toInt ∧ r 14 = (nt_I M (pl 4) 4).toInt ∧ r 15 = (nt_I M (pl 14) 0).toInt ∧ r 16 = (nt_I M (pl 14) 212).toInt ∧ r 17 = (nt_I M (pl 14) 424).toInt ∧ r 18 = (nt_I M (pl 14) 636).toInt ∧ r 19 = (nt_I M (pl 14) 4).toInt ∧ r 20 = (nt_I M (pl 14) 216).toInt ∧ r 21 = (nt_I M (pl 14) 428).toInt ∧ r 22 = (nt_I M (pl 14) 640).toInt ∧ r 23 = b0.toInt ∧ r 24 = b1.toInt := ⟨fun s => if s = 11 then (nt_I M (pl 31) 1).toInt else if s = 12 then (nt_I M (pl 31) 2).toInt else if s = 13 then (nt_I M (pl 4) 0).toInt else if s = 14 then (nt_I M (pl 4) 4).toInt else if s = 15 then (nt_I M (pl 14) 0).toInt else if s = 16 then (nt_I M (pl 14) 212).toInt else if s = 17 then (nt_I M (pl 14) 424).toInt else if s = 18 then (nt_I M (pl 14) 636).toInt else if s = 19 then (nt_I M (pl 14) 4).toInt else if s = 20 then (nt_I M (pl 14) 216).toInt else if s = 21 then (nt_I M (pl 14) 428).toInt else if s = 22 then (nt_I M (pl 14) 640).toInt else if s = 23 then b0.toInt else if s = 24 then b1.toInt else v s, fun s hs => by dsimp only; rw [if_neg (by omega), if_neg (by omega), if_neg (by omega), if_neg (by omega), if_neg (by omega), if_neg (by omega), if_neg (by omega), if_neg (by omega), if_neg (by omega), if_neg (by omega), if_neg (by omega), if_neg (by omega), if_neg (by omega), if_neg (by omega)], rfl, rfl, rfl, rfl, rfl, rfl, rfl, rfl, rfl, rfl, rfl, rfl, rfl, rfl⟩
  have hij := ly_ij (K := kk_wd_n_ship) rfl hB
  have hon := ly_app (K := kk_wd_n_ship) (ed := []) (ec := [((31, (1, [])), (0, [(11, 1)])), ((31, (2, [])), (0, [(12, 1)])), ((4, (0, [])), (0, [(13, 1)])), ((4, (4, [])), (0, [(14, 1)])), ((14, (0, [])), (0, [(15, 1)])), ((14, (212, [])), (0, [(16, 1)])), ((14, (424, [])), (0, [(17, 1)])), ((14, (636, [])), (0, [(18, 1)])), ((14, (4, [])), (0, [(19, 1)])), ((14, (216, [])), (0, [(20, 1)])), ((14, (428, [])), (0, [(21, 1)])), ((14, (640, [])), (0, [(22, 1)]))]) (er := []) rfl hB (fun _ _ => rfl) hr hij ly_nil (lw_oiC (g := 31) (j := 1) (by show 31 < 66; decide) (by decide) (by dsimp only; rw [sx_s_e]; exact h11.symm) (lw_oiC (g := 31) (j := 2) (by show 31 < 66; decide) (by decide) (by dsimp only; rw [sx_s_e]; exact h12.symm) (lw_oiC (g := 4) (j := 0) (by show 4 < 66; decide) (by decide) (by dsimp only; rw [sx_s_e]; exact h13.symm) (lw_oiC (g := 4) (j := 4) (by show 4 < 66; decide) (by decide) (by dsimp only; rw [sx_s_e]; exact h14.symm) (lw_oiC (g := 14) (j := 0) (by show 14 < 66; decide) (by decide) (by dsimp only; rw [sx_s_e]; exact h15.symm) (lw_oiC (g := 14) (j := 212) (by show 14 < 66; decide) (by decide) (by dsimp only; rw [sx_s_e]; exact h16.symm) (lw_oiC (g := 14) (j := 424) (by show 14 < 66; decide) (by decide) (by dsimp only; rw [sx_s_e]; exact h17.symm) (lw_oiC (g := 14) (j := 636) (by show 14 < 66; decide) (by decide) (by dsimp only; rw [sx_s_e]; exact h18.symm) (lw_oiC (g := 14) (j := 4) (by show 14 < 66; decide) (by decide) (by dsimp only; rw [sx_s_e]; exact h19.symm) (lw_oiC (g := 14) (j := 216) (by show 14 < 66; decide) (by decide) (by dsimp only; rw [sx_s_e]; exact h20.symm) (lw_oiC (g := 14) (j := 428) (by show 14 < 66; decide) (by decide) (by dsimp only; rw [sx_s_e]; exact h21.symm) (lw_oiC (g := 14) (j := 640) (by show 14 < 66; decide) (by decide) (by dsimp only; rw [sx_s_e]; exact h22.symm) (lw_oiN))))))))))))) (fun q hq => by cases hq) (ly_oba (ly_obr hr (ly_ob hB)) (ly_oba (ly_ob1 (by rw [h11]; exact hb11)) (ly_oba (ly_obI (x := nt_I M (pl 31) 2) h12) (ly_oba (ly_ob1 (by rw [h13]; exact hb13)) (ly_oba (ly_obI (x := nt_I M (pl 4) 4) h14) (ly_oba (ly_obI (x := nt_I M (pl 14) 0) h15) (ly_oba (ly_obI (x := nt_I M (pl 14) 212) h16) (ly_oba (ly_obI (x := nt_I M (pl 14) 424) h17) (ly_oba (ly_obI (x := nt_I M (pl 14) 636) h18) (ly_oba (ly_obI (x := nt_I M (pl 14) 4) h19) (ly_oba (ly_obI (x := nt_I M (pl 14) 216) h20) (ly_oba (ly_obI (x := nt_I M (pl 14) 428) h21) (ly_oba (ly_obI (x := nt_I M (pl 14) 640) h22) (ly_oba (ly_obI h23) (ly_obI h24))))))))))))))) ly_oc0
  obtain ⟨p, hp, r', h2, h3⟩ := lw_app (ko_wd_n_ship X) rfl hd hon (vs := [.ref (pl 16), .int b0, .int b1]) ⟨rfl, ⟨b0, rfl, (ly_e1 h23).symm⟩, ⟨b1, rfl, (ly_e1 h24).symm⟩, trivial⟩ k
  have hr' : ∀ s, s < 25 → r' s = r s := fun s hs => h3.2.2.2.2.2.1 s hs
  obtain ⟨ov, M'⟩ := o
  rw [List.mem_singleton.mp hp] at h2 h3
  cases ov with
  | none => exact h2.elim
  | some w =>
    obtain ⟨y, rfl, hy⟩ := h2
    have hy : y.toInt = 0 + (1 * r' 25 + (0)) := hy
    have e0 : (nt_I M' (pl 31) 1).toInt = 0 + (1 * r' 11 + (0)) := lw_rd (g := 31) (j := 1) h3.2.2.1 (List.mem_of_getElem? (i := 0) rfl) (by decide)
    have e1 : (nt_I M' (pl 31) 2).toInt = 0 + (1 * r' 12 + (0)) := lw_rd (g := 31) (j := 2) h3.2.2.1 (List.mem_of_getElem? (i := 1) rfl) (by decide)
    have e2 : (nt_I M' (pl 4) 0).toInt = 0 + (1 * r' 13 + (0)) := lw_rd (g := 4) (j := 0) h3.2.2.1 (List.mem_of_getElem? (i := 2) rfl) (by decide)
    have e3 : (nt_I M' (pl 4) 4).toInt = 0 + (1 * r' 14 + (0)) := lw_rd (g := 4) (j := 4) h3.2.2.1 (List.mem_of_getElem? (i := 3) rfl) (by decide)
    have e4 : (nt_I M' (pl 14) 0).toInt = 0 + (1 * r' 15 + (0)) := lw_rd (g := 14) (j := 0) h3.2.2.1 (List.mem_of_getElem? (i := 4) rfl) (by decide)
    have e5 : (nt_I M' (pl 14) 212).toInt = 0 + (1 * r' 16 + (0)) := lw_rd (g := 14) (j := 212) h3.2.2.1 (List.mem_of_getElem? (i := 5) rfl) (by decide)
    have e6 : (nt_I M' (pl 14) 424).toInt = 0 + (1 * r' 17 + (0)) := lw_rd (g := 14) (j := 424) h3.2.2.1 (List.mem_of_getElem? (i := 6) rfl) (by decide)
    have e7 : (nt_I M' (pl 14) 636).toInt = 0 + (1 * r' 18 + (0)) := lw_rd (g := 14) (j := 636) h3.2.2.1 (List.mem_of_getElem? (i := 7) rfl) (by decide)
    have e8 : (nt_I M' (pl 14) 4).toInt = 0 + (1 * r' 19 + (0)) := lw_rd (g := 14) (j := 4) h3.2.2.1 (List.mem_of_getElem? (i := 8) rfl) (by decide)
    have e9 : (nt_I M' (pl 14) 216).toInt = 0 + (1 * r' 20 + (0)) := lw_rd (g := 14) (j := 216) h3.2.2.1 (List.mem_of_getElem? (i := 9) rfl) (by decide)
    have e10 : (nt_I M' (pl 14) 428).toInt = 0 + (1 * r' 21 + (0)) := lw_rd (g := 14) (j := 428) h3.2.2.1 (List.mem_of_getElem? (i := 10) rfl) (by decide)
    have e11 : (nt_I M' (pl 14) 640).toInt = 0 + (1 * r' 22 + (0)) := lw_rd (g := 14) (j := 640) h3.2.2.1 (List.mem_of_getElem? (i := 11) rfl) (by decide)
    have g11 := hr' 11 (by omega)
    rw [h11] at g11
    have g12 := hr' 12 (by omega)
    rw [h12] at g12
    have g13 := hr' 13 (by omega)
    rw [h13] at g13
    have g14 := hr' 14 (by omega)
    rw [h14] at g14
    have g15 := hr' 15 (by omega)
    rw [h15] at g15
    have g16 := hr' 16 (by omega)
    rw [h16] at g16
    have g17 := hr' 17 (by omega)
    rw [h17] at g17
    have g18 := hr' 18 (by omega)
    rw [h18] at g18
    have g19 := hr' 19 (by omega)
    rw [h19] at g19
    have g20 := hr' 20 (by omega)
    rw [h20] at g20
    have g21 := hr' 21 (by omega)
    rw [h21] at g21
    have g22 := hr' 22 (by omega)
    rw [h22] at g22
    exact ⟨y, M', rfl, ⟨e0.trans (lw_s g11), e1.trans (lw_s g12), e2.trans (lw_s g13), e3.trans (lw_s g14), e4.trans (lw_s g15), e5.trans (lw_s g16), e6.trans (lw_s g17), e7.trans (lw_s g18), e8.trans (lw_s g19), e9.trans (lw_s g20), e10.trans (lw_s g21), e11.trans (lw_s g22)⟩⟩
theorem lwd_ship {X : nt_X} {pl : Nat → Nat} {v : Nat → Int} {M : nt_M} {d : Nat} {o : Option Value × nt_M} {b0 b1 : Int32} (hd : 5 ≤ d) (hB : ly_B pl v M) (hb11 : (0 : Int) ≤ (nt_I M (pl 31) 1).toInt ∧ (nt_I M (pl 31) 1).toInt ≤ 1) (hb13 : (0 : Int) ≤ (nt_I M (pl 4) 0).toInt ∧ (nt_I M (pl 4) 0).toInt ≤ 4) (k : nt_ev X d 167 [.ref (pl 0), .int b0, .int b1] M o) : ∃ (y : Int32) (M' : nt_M), o = (some (.int y), M') ∧ (((nt_I M' (pl 31) 1).toInt = (nt_I M (pl 31) 1).toInt ∧ (nt_I M' (pl 31) 2).toInt = (nt_I M (pl 31) 2).toInt ∧ (nt_I M' (pl 4) 0).toInt = (nt_I M (pl 4) 0).toInt ∧ (nt_I M' (pl 4) 4).toInt = (nt_I M (pl 4) 4).toInt ∧ (nt_I M' (pl 14) 0).toInt = (nt_I M (pl 14) 0).toInt ∧ (nt_I M' (pl 14) 212).toInt = (nt_I M (pl 14) 212).toInt ∧ (nt_I M' (pl 14) 424).toInt = (nt_I M (pl 14) 424).toInt ∧ (nt_I M' (pl 14) 636).toInt = (nt_I M (pl 14) 636).toInt ∧ (nt_I M' (pl 14) 4).toInt = (nt_I M (pl 14) 4).toInt ∧ (nt_I M' (pl 14) 216).toInt = (nt_I M (pl 14) 216).toInt ∧ (nt_I M' (pl 14) 428).toInt = (nt_I M (pl 14) 428).toInt ∧ (nt_I M' (pl 14) 640).toInt = (nt_I M (pl 14) 640).toInt)) := by
  obtain ⟨r, hr, h11, h12, h13, h14, h15, h16, h17, h18, h19, h20, h21, h22, h23, h24⟩ : ∃ r : Nat → Int, (∀ s, s < 11 → r s = v s) ∧ r 11 = (nt_I M (pl 31) 1).toInt ∧ r 12 = (nt_I M (pl 31) 2).toInt ∧ r 13 = (nt_I M (pl 4) 0).toInt ∧ r 14 = (nt_I M (pl 4) 4).toInt ∧ r 15 = (nt_I M (pl 14) 0).toInt ∧ r 16 = (nt_I M (pl 14) 212).toInt ∧ r 17 = (nt_I M (pl 14) 424).toInt ∧ r 18 = (nt_I M (pl 14) 636).toInt ∧ r 19 = (nt_I M (pl 14) 4).toInt ∧ r 20 = (nt_I M (pl 14) 216).toInt ∧ r 21 = (nt_I M (pl 14) 428).toInt ∧ r 22 = (nt_I M (pl 14) 640).toInt ∧ r 23 = b0.toInt ∧ r 24 = b1.toInt := ⟨fun s => if s = 11 then (nt_I M (pl 31) 1).toInt else if s = 12 then (nt_I M (pl 31) 2).toInt else if s = 13 then (nt_I M (pl 4) 0).toInt else if s = 14 then (nt_I M (pl 4) 4).toInt else if s = 15 then (nt_I M (pl 14) 0).toInt else if s = 16 then (nt_I M (pl 14) 212).toInt else if s = 17 then (nt_I M (pl 14) 424).toInt else if s = 18 then (nt_I M (pl 14) 636).toInt else if s = 19 then (nt_I M (pl 14) 4).toInt else if s = 20 then (nt_I M (pl 14) 216).toInt else if s = 21 then (nt_I M (pl 14) 428).toInt else if s = 22 then (nt_I M (pl 14) 640).toInt else if s = 23 then b0.toInt else if s = 24 then b1.toInt else v s, fun s hs => by dsimp only; rw [if_neg (by omega), if_neg (by omega), if_neg (by omega), if_neg (by omega), if_neg (by omega), if_neg (by omega), if_neg (by omega), if_neg (by omega), if_neg (by omega), if_neg (by omega), if_neg (by omega), if_neg (by omega), if_neg (by omega), if_neg (by omega)], rfl, rfl, rfl, rfl, rfl, rfl, rfl, rfl, rfl, rfl, rfl, rfl, rfl, rfl⟩
  have hij := ly_ij (K := kk_wd_ship) rfl hB
  have hon := ly_app (K := kk_wd_ship) (ed := []) (ec := [((31, (1, [])), (0, [(11, 1)])), ((31, (2, [])), (0, [(12, 1)])), ((4, (0, [])), (0, [(13, 1)])), ((4, (4, [])), (0, [(14, 1)])), ((14, (0, [])), (0, [(15, 1)])), ((14, (212, [])), (0, [(16, 1)])), ((14, (424, [])), (0, [(17, 1)])), ((14, (636, [])), (0, [(18, 1)])), ((14, (4, [])), (0, [(19, 1)])), ((14, (216, [])), (0, [(20, 1)])), ((14, (428, [])), (0, [(21, 1)])), ((14, (640, [])), (0, [(22, 1)]))]) (er := []) rfl hB (fun _ _ => rfl) hr hij ly_nil (lw_oiC (g := 31) (j := 1) (by show 31 < 66; decide) (by decide) (by dsimp only; rw [sx_s_e]; exact h11.symm) (lw_oiC (g := 31) (j := 2) (by show 31 < 66; decide) (by decide) (by dsimp only; rw [sx_s_e]; exact h12.symm) (lw_oiC (g := 4) (j := 0) (by show 4 < 66; decide) (by decide) (by dsimp only; rw [sx_s_e]; exact h13.symm) (lw_oiC (g := 4) (j := 4) (by show 4 < 66; decide) (by decide) (by dsimp only; rw [sx_s_e]; exact h14.symm) (lw_oiC (g := 14) (j := 0) (by show 14 < 66; decide) (by decide) (by dsimp only; rw [sx_s_e]; exact h15.symm) (lw_oiC (g := 14) (j := 212) (by show 14 < 66; decide) (by decide) (by dsimp only; rw [sx_s_e]; exact h16.symm) (lw_oiC (g := 14) (j := 424) (by show 14 < 66; decide) (by decide) (by dsimp only; rw [sx_s_e]; exact h17.symm) (lw_oiC (g := 14) (j := 636) (by show 14 < 66; decide) (by decide) (by dsimp only; rw [sx_s_e]; exact h18.symm) (lw_oiC (g := 14) (j := 4) (by show 14 < 66; decide) (by decide) (by dsimp only; rw [sx_s_e]; exact h19.symm) (lw_oiC (g := 14) (j := 216) (by show 14 < 66; decide) (by decide) (by dsimp only; rw [sx_s_e]; exact h20.symm) (lw_oiC (g := 14) (j := 428) (by show 14 < 66; decide) (by decide) (by dsimp only; rw [sx_s_e]; exact h21.symm) (lw_oiC (g := 14) (j := 640) (by show 14 < 66; decide) (by decide) (by dsimp only; rw [sx_s_e]; exact h22.symm) (lw_oiN))))))))))))) (fun q hq => by cases hq) (ly_oba (ly_obr hr (ly_ob hB)) (ly_oba (ly_ob1 (by rw [h11]; exact hb11)) (ly_oba (ly_obI (x := nt_I M (pl 31) 2) h12) (ly_oba (ly_ob1 (by rw [h13]; exact hb13)) (ly_oba (ly_obI (x := nt_I M (pl 4) 4) h14) (ly_oba (ly_obI (x := nt_I M (pl 14) 0) h15) (ly_oba (ly_obI (x := nt_I M (pl 14) 212) h16) (ly_oba (ly_obI (x := nt_I M (pl 14) 424) h17) (ly_oba (ly_obI (x := nt_I M (pl 14) 636) h18) (ly_oba (ly_obI (x := nt_I M (pl 14) 4) h19) (ly_oba (ly_obI (x := nt_I M (pl 14) 216) h20) (ly_oba (ly_obI (x := nt_I M (pl 14) 428) h21) (ly_oba (ly_obI (x := nt_I M (pl 14) 640) h22) (ly_oba (ly_obI h23) (ly_obI h24))))))))))))))) ly_oc0
  obtain ⟨p, hp, r', h2, h3⟩ := lw_app (ko_wd_ship X) rfl hd hon (vs := [.ref (pl 0), .int b0, .int b1]) ⟨rfl, ⟨b0, rfl, (ly_e1 h23).symm⟩, ⟨b1, rfl, (ly_e1 h24).symm⟩, trivial⟩ k
  have hr' : ∀ s, s < 25 → r' s = r s := fun s hs => h3.2.2.2.2.2.1 s hs
  obtain ⟨ov, M'⟩ := o
  rw [List.mem_singleton.mp hp] at h2 h3
  cases ov with
  | none => exact h2.elim
  | some w =>
    obtain ⟨y, rfl, hy⟩ := h2
    have hy : y.toInt = 0 + (1 * r' 25 + (0)) := hy
    have e0 : (nt_I M' (pl 31) 1).toInt = 0 + (1 * r' 11 + (0)) := lw_rd (g := 31) (j := 1) h3.2.2.1 (List.mem_of_getElem? (i := 0) rfl) (by decide)
    have e1 : (nt_I M' (pl 31) 2).toInt = 0 + (1 * r' 12 + (0)) := lw_rd (g := 31) (j := 2) h3.2.2.1 (List.mem_of_getElem? (i := 1) rfl) (by decide)
    have e2 : (nt_I M' (pl 4) 0).toInt = 0 + (1 * r' 13 + (0)) := lw_rd (g := 4) (j := 0) h3.2.2.1 (List.mem_of_getElem? (i := 2) rfl) (by decide)
    have e3 : (nt_I M' (pl 4) 4).toInt = 0 + (1 * r' 14 + (0)) := lw_rd (g := 4) (j := 4) h3.2.2.1 (List.mem_of_getElem? (i := 3) rfl) (by decide)
    have e4 : (nt_I M' (pl 14) 0).toInt = 0 + (1 * r' 15 + (0)) := lw_rd (g := 14) (j := 0) h3.2.2.1 (List.mem_of_getElem? (i := 4) rfl) (by decide)
    have e5 : (nt_I M' (pl 14) 212).toInt = 0 + (1 * r' 16 + (0)) := lw_rd (g := 14) (j := 212) h3.2.2.1 (List.mem_of_getElem? (i := 5) rfl) (by decide)
    have e6 : (nt_I M' (pl 14) 424).toInt = 0 + (1 * r' 17 + (0)) := lw_rd (g := 14) (j := 424) h3.2.2.1 (List.mem_of_getElem? (i := 6) rfl) (by decide)
    have e7 : (nt_I M' (pl 14) 636).toInt = 0 + (1 * r' 18 + (0)) := lw_rd (g := 14) (j := 636) h3.2.2.1 (List.mem_of_getElem? (i := 7) rfl) (by decide)
    have e8 : (nt_I M' (pl 14) 4).toInt = 0 + (1 * r' 19 + (0)) := lw_rd (g := 14) (j := 4) h3.2.2.1 (List.mem_of_getElem? (i := 8) rfl) (by decide)
    have e9 : (nt_I M' (pl 14) 216).toInt = 0 + (1 * r' 20 + (0)) := lw_rd (g := 14) (j := 216) h3.2.2.1 (List.mem_of_getElem? (i := 9) rfl) (by decide)
    have e10 : (nt_I M' (pl 14) 428).toInt = 0 + (1 * r' 21 + (0)) := lw_rd (g := 14) (j := 428) h3.2.2.1 (List.mem_of_getElem? (i := 10) rfl) (by decide)
    have e11 : (nt_I M' (pl 14) 640).toInt = 0 + (1 * r' 22 + (0)) := lw_rd (g := 14) (j := 640) h3.2.2.1 (List.mem_of_getElem? (i := 11) rfl) (by decide)
    have g11 := hr' 11 (by omega)
    rw [h11] at g11
    have g12 := hr' 12 (by omega)
    rw [h12] at g12
    have g13 := hr' 13 (by omega)
    rw [h13] at g13
    have g14 := hr' 14 (by omega)
    rw [h14] at g14
    have g15 := hr' 15 (by omega)
    rw [h15] at g15
    have g16 := hr' 16 (by omega)
    rw [h16] at g16
    have g17 := hr' 17 (by omega)
    rw [h17] at g17
    have g18 := hr' 18 (by omega)
    rw [h18] at g18
    have g19 := hr' 19 (by omega)
    rw [h19] at g19
    have g20 := hr' 20 (by omega)
    rw [h20] at g20
    have g21 := hr' 21 (by omega)
    rw [h21] at g21
    have g22 := hr' 22 (by omega)
    rw [h22] at g22
    exact ⟨y, M', rfl, ⟨e0.trans (lw_s g11), e1.trans (lw_s g12), e2.trans (lw_s g13), e3.trans (lw_s g14), e4.trans (lw_s g15), e5.trans (lw_s g16), e6.trans (lw_s g17), e7.trans (lw_s g18), e8.trans (lw_s g19), e9.trans (lw_s g20), e10.trans (lw_s g21), e11.trans (lw_s g22)⟩⟩
theorem lwd_n_plank {X : nt_X} {pl : Nat → Nat} {v : Nat → Int} {M : nt_M} {d : Nat} {o : Option Value × nt_M} {b0 b1 : Int32} (hd : 1 ≤ d) (hB : ly_B pl v M) (hb11 : (0 : Int) ≤ (nt_I M (pl 31) 1).toInt ∧ (nt_I M (pl 31) 1).toInt ≤ 1) (hb13 : (0 : Int) ≤ (nt_I M (pl 4) 0).toInt ∧ (nt_I M (pl 4) 0).toInt ≤ 4) (k : nt_ev X d 107 [.ref (pl 16), .int b0, .int b1] M o) : ∃ (y : Int32) (M' : nt_M), o = (some (.int y), M') ∧ (((nt_I M' (pl 31) 1).toInt = (nt_I M (pl 31) 1).toInt ∧ (nt_I M' (pl 31) 2).toInt = (nt_I M (pl 31) 2).toInt ∧ (nt_I M' (pl 4) 0).toInt = (nt_I M (pl 4) 0).toInt ∧ (nt_I M' (pl 4) 4).toInt = (nt_I M (pl 4) 4).toInt ∧ (nt_I M' (pl 14) 0).toInt = (nt_I M (pl 14) 0).toInt ∧ (nt_I M' (pl 14) 212).toInt = (nt_I M (pl 14) 212).toInt ∧ (nt_I M' (pl 14) 424).toInt = (nt_I M (pl 14) 424).toInt ∧ (nt_I M' (pl 14) 636).toInt = (nt_I M (pl 14) 636).toInt ∧ (nt_I M' (pl 14) 4).toInt = (nt_I M (pl 14) 4).toInt ∧ (nt_I M' (pl 14) 216).toInt = (nt_I M (pl 14) 216).toInt ∧ (nt_I M' (pl 14) 428).toInt = (nt_I M (pl 14) 428).toInt ∧ (nt_I M' (pl 14) 640).toInt = (nt_I M (pl 14) 640).toInt)) := by
  obtain ⟨r, hr, h11, h12, h13, h14, h15, h16, h17, h18, h19, h20, h21, h22, h23, h24⟩ : ∃ r : Nat → Int, (∀ s, s < 11 → r s = v s) ∧ r 11 = (nt_I M (pl 31) 1).toInt ∧ r 12 = (nt_I M (pl 31) 2).toInt ∧ r 13 = (nt_I M (pl 4) 0).toInt ∧ r 14 = (nt_I M (pl 4) 4).toInt ∧ r 15 = (nt_I M (pl 14) 0).toInt ∧ r 16 = (nt_I M (pl 14) 212).toInt ∧ r 17 = (nt_I M (pl 14) 424).toInt ∧ r 18 = (nt_I M (pl 14) 636).toInt ∧ r 19 = (nt_I M (pl 14) 4).toInt ∧ r 20 = (nt_I M (pl 14) 216).toInt ∧ r 21 = (nt_I M (pl 14) 428).toInt ∧ r 22 = (nt_I M (pl 14) 640).toInt ∧ r 23 = b0.toInt ∧ r 24 = b1.toInt := ⟨fun s => if s = 11 then (nt_I M (pl 31) 1).toInt else if s = 12 then (nt_I M (pl 31) 2).toInt else if s = 13 then (nt_I M (pl 4) 0).toInt else if s = 14 then (nt_I M (pl 4) 4).toInt else if s = 15 then (nt_I M (pl 14) 0).toInt else if s = 16 then (nt_I M (pl 14) 212).toInt else if s = 17 then (nt_I M (pl 14) 424).toInt else if s = 18 then (nt_I M (pl 14) 636).toInt else if s = 19 then (nt_I M (pl 14) 4).toInt else if s = 20 then (nt_I M (pl 14) 216).toInt else if s = 21 then (nt_I M (pl 14) 428).toInt else if s = 22 then (nt_I M (pl 14) 640).toInt else if s = 23 then b0.toInt else if s = 24 then b1.toInt else v s, fun s hs => by dsimp only; rw [if_neg (by omega), if_neg (by omega), if_neg (by omega), if_neg (by omega), if_neg (by omega), if_neg (by omega), if_neg (by omega), if_neg (by omega), if_neg (by omega), if_neg (by omega), if_neg (by omega), if_neg (by omega), if_neg (by omega), if_neg (by omega)], rfl, rfl, rfl, rfl, rfl, rfl, rfl, rfl, rfl, rfl, rfl, rfl, rfl, rfl⟩
  have hij := ly_ij (K := kk_wd_n_plank) rfl hB
  have hon := ly_app (K := kk_wd_n_plank) (ed := []) (ec := [((31, (1, [])), (0, [(11, 1)])), ((31, (2, [])), (0, [(12, 1)])), ((4, (0, [])), (0, [(13, 1)])), ((4, (4, [])), (0, [(14, 1)])), ((14, (0, [])), (0, [(15, 1)])), ((14, (212, [])), (0, [(16, 1)])), ((14, (424, [])), (0, [(17, 1)])), ((14, (636, [])), (0, [(18, 1)])), ((14, (4, [])), (0, [(19, 1)])), ((14, (216, [])), (0, [(20, 1)])), ((14, (428, [])), (0, [(21, 1)])), ((14, (640, [])), (0, [(22, 1)]))]) (er := []) rfl hB (fun _ _ => rfl) hr hij ly_nil (lw_oiC (g := 31) (j := 1) (by show 31 < 66; decide) (by decide) (by dsimp only; rw [sx_s_e]; exact h11.symm) (lw_oiC (g := 31) (j := 2) (by show 31 < 66; decide) (by decide) (by dsimp only; rw [sx_s_e]; exact h12.symm) (lw_oiC (g := 4) (j := 0) (by show 4 < 66; decide) (by decide) (by dsimp only; rw [sx_s_e]; exact h13.symm) (lw_oiC (g := 4) (j := 4) (by show 4 < 66; decide) (by decide) (by dsimp only; rw [sx_s_e]; exact h14.symm) (lw_oiC (g := 14) (j := 0) (by show 14 < 66; decide) (by decide) (by dsimp only; rw [sx_s_e]; exact h15.symm) (lw_oiC (g := 14) (j := 212) (by show 14 < 66; decide) (by decide) (by dsimp only; rw [sx_s_e]; exact h16.symm) (lw_oiC (g := 14) (j := 424) (by show 14 < 66; decide) (by decide) (by dsimp only; rw [sx_s_e]; exact h17.symm) (lw_oiC (g := 14) (j := 636) (by show 14 < 66; decide) (by decide) (by dsimp only; rw [sx_s_e]; exact h18.symm) (lw_oiC (g := 14) (j := 4) (by show 14 < 66; decide) (by decide) (by dsimp only; rw [sx_s_e]; exact h19.symm) (lw_oiC (g := 14) (j := 216) (by show 14 < 66; decide) (by decide) (by dsimp only; rw [sx_s_e]; exact h20.symm) (lw_oiC (g := 14) (j := 428) (by show 14 < 66; decide) (by decide) (by dsimp only; rw [sx_s_e]; exact h21.symm) (lw_oiC (g := 14) (j := 640) (by show 14 < 66; decide) (by decide) (by dsimp only; rw [sx_s_e]; exact h22.symm) (lw_oiN))))))))))))) (fun q hq => by cases hq) (ly_oba (ly_obr hr (ly_ob hB)) (ly_oba (ly_ob1 (by rw [h11]; exact hb11)) (ly_oba (ly_obI (x := nt_I M (pl 31) 2) h12) (ly_oba (ly_ob1 (by rw [h13]; exact hb13)) (ly_oba (ly_obI (x := nt_I M (pl 4) 4) h14) (ly_oba (ly_obI (x := nt_I M (pl 14) 0) h15) (ly_oba (ly_obI (x := nt_I M (pl 14) 212) h16) (ly_oba (ly_obI (x := nt_I M (pl 14) 424) h17) (ly_oba (ly_obI (x := nt_I M (pl 14) 636) h18) (ly_oba (ly_obI (x := nt_I M (pl 14) 4) h19) (ly_oba (ly_obI (x := nt_I M (pl 14) 216) h20) (ly_oba (ly_obI (x := nt_I M (pl 14) 428) h21) (ly_oba (ly_obI (x := nt_I M (pl 14) 640) h22) (ly_oba (ly_obI h23) (ly_obI h24))))))))))))))) ly_oc0
  obtain ⟨p, hp, r', h2, h3⟩ := lw_app (ko_wd_n_plank X) rfl hd hon (vs := [.ref (pl 16), .int b0, .int b1]) ⟨rfl, ⟨b0, rfl, (ly_e1 h23).symm⟩, ⟨b1, rfl, (ly_e1 h24).symm⟩, trivial⟩ k
  have hr' : ∀ s, s < 25 → r' s = r s := fun s hs => h3.2.2.2.2.2.1 s hs
  obtain ⟨ov, M'⟩ := o
  rw [List.mem_singleton.mp hp] at h2 h3
  cases ov with
  | none => exact h2.elim
  | some w =>
    obtain ⟨y, rfl, hy⟩ := h2
    have hy : y.toInt = 0 + (1 * r' 25 + (0)) := hy
    have e0 : (nt_I M' (pl 31) 1).toInt = 0 + (1 * r' 11 + (0)) := lw_rd (g := 31) (j := 1) h3.2.2.1 (List.mem_of_getElem? (i := 0) rfl) (by decide)
    have e1 : (nt_I M' (pl 31) 2).toInt = 0 + (1 * r' 12 + (0)) := lw_rd (g := 31) (j := 2) h3.2.2.1 (List.mem_of_getElem? (i := 1) rfl) (by decide)
    have e2 : (nt_I M' (pl 4) 0).toInt = 0 + (1 * r' 13 + (0)) := lw_rd (g := 4) (j := 0) h3.2.2.1 (List.mem_of_getElem? (i := 2) rfl) (by decide)
    have e3 : (nt_I M' (pl 4) 4).toInt = 0 + (1 * r' 14 + (0)) := lw_rd (g := 4) (j := 4) h3.2.2.1 (List.mem_of_getElem? (i := 3) rfl) (by decide)
    have e4 : (nt_I M' (pl 14) 0).toInt = 0 + (1 * r' 15 + (0)) := lw_rd (g := 14) (j := 0) h3.2.2.1 (List.mem_of_getElem? (i := 4) rfl) (by decide)
    have e5 : (nt_I M' (pl 14) 212).toInt = 0 + (1 * r' 16 + (0)) := lw_rd (g := 14) (j := 212) h3.2.2.1 (List.mem_of_getElem? (i := 5) rfl) (by decide)
    have e6 : (nt_I M' (pl 14) 424).toInt = 0 + (1 * r' 17 + (0)) := lw_rd (g := 14) (j := 424) h3.2.2.1 (List.mem_of_getElem? (i := 6) rfl) (by decide)
    have e7 : (nt_I M' (pl 14) 636).toInt = 0 + (1 * r' 18 + (0)) := lw_rd (g := 14) (j := 636) h3.2.2.1 (List.mem_of_getElem? (i := 7) rfl) (by decide)
    have e8 : (nt_I M' (pl 14) 4).toInt = 0 + (1 * r' 19 + (0)) := lw_rd (g := 14) (j := 4) h3.2.2.1 (List.mem_of_getElem? (i := 8) rfl) (by decide)
    have e9 : (nt_I M' (pl 14) 216).toInt = 0 + (1 * r' 20 + (0)) := lw_rd (g := 14) (j := 216) h3.2.2.1 (List.mem_of_getElem? (i := 9) rfl) (by decide)
    have e10 : (nt_I M' (pl 14) 428).toInt = 0 + (1 * r' 21 + (0)) := lw_rd (g := 14) (j := 428) h3.2.2.1 (List.mem_of_getElem? (i := 10) rfl) (by decide)
    have e11 : (nt_I M' (pl 14) 640).toInt = 0 + (1 * r' 22 + (0)) := lw_rd (g := 14) (j := 640) h3.2.2.1 (List.mem_of_getElem? (i := 11) rfl) (by decide)
    have g11 := hr' 11 (by omega)
    rw [h11] at g11
    have g12 := hr' 12 (by omega)
    rw [h12] at g12
    have g13 := hr' 13 (by omega)
    rw [h13] at g13
    have g14 := hr' 14 (by omega)
    rw [h14] at g14
    have g15 := hr' 15 (by omega)
    rw [h15] at g15
    have g16 := hr' 16 (by omega)
    rw [h16] at g16
    have g17 := hr' 17 (by omega)
    rw [h17] at g17
    have g18 := hr' 18 (by omega)
    rw [h18] at g18
    have g19 := hr' 19 (by omega)
    rw [h19] at g19
    have g20 := hr' 20 (by omega)
    rw [h20] at g20
    have g21 := hr' 21 (by omega)
    rw [h21] at g21
    have g22 := hr' 22 (by omega)
    rw [h22] at g22
    exact ⟨y, M', rfl, ⟨e0.trans (lw_s g11), e1.trans (lw_s g12), e2.trans (lw_s g13), e3.trans (lw_s g14), e4.trans (lw_s g15), e5.trans (lw_s g16), e6.trans (lw_s g17), e7.trans (lw_s g18), e8.trans (lw_s g19), e9.trans (lw_s g20), e10.trans (lw_s g21), e11.trans (lw_s g22)⟩⟩
theorem lwd_plank {X : nt_X} {pl : Nat → Nat} {v : Nat → Int} {M : nt_M} {d : Nat} {o : Option Value × nt_M} {b0 b1 : Int32} (hd : 1 ≤ d) (hB : ly_B pl v M) (hb11 : (0 : Int) ≤ (nt_I M (pl 31) 1).toInt ∧ (nt_I M (pl 31) 1).toInt ≤ 1) (hb13 : (0 : Int) ≤ (nt_I M (pl 4) 0).toInt ∧ (nt_I M (pl 4) 0).toInt ≤ 4) (k : nt_ev X d 176 [.ref (pl 0), .int b0, .int b1] M o) : ∃ (y : Int32) (M' : nt_M), o = (some (.int y), M') ∧ (((nt_I M' (pl 31) 1).toInt = (nt_I M (pl 31) 1).toInt ∧ (nt_I M' (pl 31) 2).toInt = (nt_I M (pl 31) 2).toInt ∧ (nt_I M' (pl 4) 0).toInt = (nt_I M (pl 4) 0).toInt ∧ (nt_I M' (pl 4) 4).toInt = (nt_I M (pl 4) 4).toInt ∧ (nt_I M' (pl 14) 0).toInt = (nt_I M (pl 14) 0).toInt ∧ (nt_I M' (pl 14) 212).toInt = (nt_I M (pl 14) 212).toInt ∧ (nt_I M' (pl 14) 424).toInt = (nt_I M (pl 14) 424).toInt ∧ (nt_I M' (pl 14) 636).toInt = (nt_I M (pl 14) 636).toInt ∧ (nt_I M' (pl 14) 4).toInt = (nt_I M (pl 14) 4).toInt ∧ (nt_I M' (pl 14) 216).toInt = (nt_I M (pl 14) 216).toInt ∧ (nt_I M' (pl 14) 428).toInt = (nt_I M (pl 14) 428).toInt ∧ (nt_I M' (pl 14) 640).toInt = (nt_I M (pl 14) 640).toInt)) := by
  obtain ⟨r, hr, h11, h12, h13, h14, h15, h16, h17, h18, h19, h20, h21, h22, h23, h24⟩ : ∃ r : Nat → Int, (∀ s, s < 11 → r s = v s) ∧ r 11 = (nt_I M (pl 31) 1).toInt ∧ r 12 = (nt_I M (pl 31) 2).toInt ∧ r 13 = (nt_I M (pl 4) 0).toInt ∧ r 14 = (nt_I M (pl 4) 4).toInt ∧ r 15 = (nt_I M (pl 14) 0).toInt ∧ r 16 = (nt_I M (pl 14) 212).toInt ∧ r 17 = (nt_I M (pl 14) 424).toInt ∧ r 18 = (nt_I M (pl 14) 636).toInt ∧ r 19 = (nt_I M (pl 14) 4).toInt ∧ r 20 = (nt_I M (pl 14) 216).toInt ∧ r 21 = (nt_I M (pl 14) 428).toInt ∧ r 22 = (nt_I M (pl 14) 640).toInt ∧ r 23 = b0.toInt ∧ r 24 = b1.toInt := ⟨fun s => if s = 11 then (nt_I M (pl 31) 1).toInt else if s = 12 then (nt_I M (pl 31) 2).toInt else if s = 13 then (nt_I M (pl 4) 0).toInt else if s = 14 then (nt_I M (pl 4) 4).toInt else if s = 15 then (nt_I M (pl 14) 0).toInt else if s = 16 then (nt_I M (pl 14) 212).toInt else if s = 17 then (nt_I M (pl 14) 424).toInt else if s = 18 then (nt_I M (pl 14) 636).toInt else if s = 19 then (nt_I M (pl 14) 4).toInt else if s = 20 then (nt_I M (pl 14) 216).toInt else if s = 21 then (nt_I M (pl 14) 428).toInt else if s = 22 then (nt_I M (pl 14) 640).toInt else if s = 23 then b0.toInt else if s = 24 then b1.toInt else v s, fun s hs => by dsimp only; rw [if_neg (by omega), if_neg (by omega), if_neg (by omega), if_neg (by omega), if_neg (by omega), if_neg (by omega), if_neg (by omega), if_neg (by omega), if_neg (by omega), if_neg (by omega), if_neg (by omega), if_neg (by omega), if_neg (by omega), if_neg (by omega)], rfl, rfl, rfl, rfl, rfl, rfl, rfl, rfl, rfl, rfl, rfl, rfl, rfl, rfl⟩
  have hij := ly_ij (K := kk_wd_plank) rfl hB
  have hon := ly_app (K := kk_wd_plank) (ed := []) (ec := [((31, (1, [])), (0, [(11, 1)])), ((31, (2, [])), (0, [(12, 1)])), ((4, (0, [])), (0, [(13, 1)])), ((4, (4, [])), (0, [(14, 1)])), ((14, (0, [])), (0, [(15, 1)])), ((14, (212, [])), (0, [(16, 1)])), ((14, (424, [])), (0, [(17, 1)])), ((14, (636, [])), (0, [(18, 1)])), ((14, (4, [])), (0, [(19, 1)])), ((14, (216, [])), (0, [(20, 1)])), ((14, (428, [])), (0, [(21, 1)])), ((14, (640, [])), (0, [(22, 1)]))]) (er := []) rfl hB (fun _ _ => rfl) hr hij ly_nil (lw_oiC (g := 31) (j := 1) (by show 31 < 66; decide) (by decide) (by dsimp only; rw [sx_s_e]; exact h11.symm) (lw_oiC (g := 31) (j := 2) (by show 31 < 66; decide) (by decide) (by dsimp only; rw [sx_s_e]; exact h12.symm) (lw_oiC (g := 4) (j := 0) (by show 4 < 66; decide) (by decide) (by dsimp only; rw [sx_s_e]; exact h13.symm) (lw_oiC (g := 4) (j := 4) (by show 4 < 66; decide) (by decide) (by dsimp only; rw [sx_s_e]; exact h14.symm) (lw_oiC (g := 14) (j := 0) (by show 14 < 66; decide) (by decide) (by dsimp only; rw [sx_s_e]; exact h15.symm) (lw_oiC (g := 14) (j := 212) (by show 14 < 66; decide) (by decide) (by dsimp only; rw [sx_s_e]; exact h16.symm) (lw_oiC (g := 14) (j := 424) (by show 14 < 66; decide) (by decide) (by dsimp only; rw [sx_s_e]; exact h17.symm) (lw_oiC (g := 14) (j := 636) (by show 14 < 66; decide) (by decide) (by dsimp only; rw [sx_s_e]; exact h18.symm) (lw_oiC (g := 14) (j := 4) (by show 14 < 66; decide) (by decide) (by dsimp only; rw [sx_s_e]; exact h19.symm) (lw_oiC (g := 14) (j := 216) (by show 14 < 66; decide) (by decide) (by dsimp only; rw [sx_s_e]; exact h20.symm) (lw_oiC (g := 14) (j := 428) (by show 14 < 66; decide) (by decide) (by dsimp only; rw [sx_s_e]; exact h21.symm) (lw_oiC (g := 14) (j := 640) (by show 14 < 66; decide) (by decide) (by dsimp only; rw [sx_s_e]; exact h22.symm) (lw_oiN))))))))))))) (fun q hq => by cases hq) (ly_oba (ly_obr hr (ly_ob hB)) (ly_oba (ly_ob1 (by rw [h11]; exact hb11)) (ly_oba (ly_obI (x := nt_I M (pl 31) 2) h12) (ly_oba (ly_ob1 (by rw [h13]; exact hb13)) (ly_oba (ly_obI (x := nt_I M (pl 4) 4) h14) (ly_oba (ly_obI (x := nt_I M (pl 14) 0) h15) (ly_oba (ly_obI (x := nt_I M (pl 14) 212) h16) (ly_oba (ly_obI (x := nt_I M (pl 14) 424) h17) (ly_oba (ly_obI (x := nt_I M (pl 14) 636) h18) (ly_oba (ly_obI (x := nt_I M (pl 14) 4) h19) (ly_oba (ly_obI (x := nt_I M (pl 14) 216) h20) (ly_oba (ly_obI (x := nt_I M (pl 14) 428) h21) (ly_oba (ly_obI (x := nt_I M (pl 14) 640) h22) (ly_oba (ly_obI h23) (ly_obI h24))))))))))))))) ly_oc0
  obtain ⟨p, hp, r', h2, h3⟩ := lw_app (ko_wd_plank X) rfl hd hon (vs := [.ref (pl 0), .int b0, .int b1]) ⟨rfl, ⟨b0, rfl, (ly_e1 h23).symm⟩, ⟨b1, rfl, (ly_e1 h24).symm⟩, trivial⟩ k
  have hr' : ∀ s, s < 25 → r' s = r s := fun s hs => h3.2.2.2.2.2.1 s hs
  obtain ⟨ov, M'⟩ := o
  rw [List.mem_singleton.mp hp] at h2 h3
  cases ov with
  | none => exact h2.elim
  | some w =>
    obtain ⟨y, rfl, hy⟩ := h2
    have hy : y.toInt = 0 + (1 * r' 25 + (0)) := hy
    have e0 : (nt_I M' (pl 31) 1).toInt = 0 + (1 * r' 11 + (0)) := lw_rd (g := 31) (j := 1) h3.2.2.1 (List.mem_of_getElem? (i := 0) rfl) (by decide)
    have e1 : (nt_I M' (pl 31) 2).toInt = 0 + (1 * r' 12 + (0)) := lw_rd (g := 31) (j := 2) h3.2.2.1 (List.mem_of_getElem? (i := 1) rfl) (by decide)
    have e2 : (nt_I M' (pl 4) 0).toInt = 0 + (1 * r' 13 + (0)) := lw_rd (g := 4) (j := 0) h3.2.2.1 (List.mem_of_getElem? (i := 2) rfl) (by decide)
    have e3 : (nt_I M' (pl 4) 4).toInt = 0 + (1 * r' 14 + (0)) := lw_rd (g := 4) (j := 4) h3.2.2.1 (List.mem_of_getElem? (i := 3) rfl) (by decide)
    have e4 : (nt_I M' (pl 14) 0).toInt = 0 + (1 * r' 15 + (0)) := lw_rd (g := 14) (j := 0) h3.2.2.1 (List.mem_of_getElem? (i := 4) rfl) (by decide)
    have e5 : (nt_I M' (pl 14) 212).toInt = 0 + (1 * r' 16 + (0)) := lw_rd (g := 14) (j := 212) h3.2.2.1 (List.mem_of_getElem? (i := 5) rfl) (by decide)
    have e6 : (nt_I M' (pl 14) 424).toInt = 0 + (1 * r' 17 + (0)) := lw_rd (g := 14) (j := 424) h3.2.2.1 (List.mem_of_getElem? (i := 6) rfl) (by decide)
    have e7 : (nt_I M' (pl 14) 636).toInt = 0 + (1 * r' 18 + (0)) := lw_rd (g := 14) (j := 636) h3.2.2.1 (List.mem_of_getElem? (i := 7) rfl) (by decide)
    have e8 : (nt_I M' (pl 14) 4).toInt = 0 + (1 * r' 19 + (0)) := lw_rd (g := 14) (j := 4) h3.2.2.1 (List.mem_of_getElem? (i := 8) rfl) (by decide)
    have e9 : (nt_I M' (pl 14) 216).toInt = 0 + (1 * r' 20 + (0)) := lw_rd (g := 14) (j := 216) h3.2.2.1 (List.mem_of_getElem? (i := 9) rfl) (by decide)
    have e10 : (nt_I M' (pl 14) 428).toInt = 0 + (1 * r' 21 + (0)) := lw_rd (g := 14) (j := 428) h3.2.2.1 (List.mem_of_getElem? (i := 10) rfl) (by decide)
    have e11 : (nt_I M' (pl 14) 640).toInt = 0 + (1 * r' 22 + (0)) := lw_rd (g := 14) (j := 640) h3.2.2.1 (List.mem_of_getElem? (i := 11) rfl) (by decide)
    have g11 := hr' 11 (by omega)
    rw [h11] at g11
    have g12 := hr' 12 (by omega)
    rw [h12] at g12
    have g13 := hr' 13 (by omega)
    rw [h13] at g13
    have g14 := hr' 14 (by omega)
    rw [h14] at g14
    have g15 := hr' 15 (by omega)
    rw [h15] at g15
    have g16 := hr' 16 (by omega)
    rw [h16] at g16
    have g17 := hr' 17 (by omega)
    rw [h17] at g17
    have g18 := hr' 18 (by omega)
    rw [h18] at g18
    have g19 := hr' 19 (by omega)
    rw [h19] at g19
    have g20 := hr' 20 (by omega)
    rw [h20] at g20
    have g21 := hr' 21 (by omega)
    rw [h21] at g21
    have g22 := hr' 22 (by omega)
    rw [h22] at g22
    exact ⟨y, M', rfl, ⟨e0.trans (lw_s g11), e1.trans (lw_s g12), e2.trans (lw_s g13), e3.trans (lw_s g14), e4.trans (lw_s g15), e5.trans (lw_s g16), e6.trans (lw_s g17), e7.trans (lw_s g18), e8.trans (lw_s g19), e9.trans (lw_s g20), e10.trans (lw_s g21), e11.trans (lw_s g22)⟩⟩
theorem lwd_n_voyage {X : nt_X} {pl : Nat → Nat} {v : Nat → Int} {M : nt_M} {d : Nat} {o : Option Value × nt_M} {b0 b1 : Int32} (hd : 1 ≤ d) (hB : ly_B pl v M) (hb11 : (0 : Int) ≤ (nt_I M (pl 31) 1).toInt ∧ (nt_I M (pl 31) 1).toInt ≤ 1) (hb13 : (0 : Int) ≤ (nt_I M (pl 4) 0).toInt ∧ (nt_I M (pl 4) 0).toInt ≤ 4) (k : nt_ev X d 108 [.ref (pl 16), .int b0, .int b1] M o) : ∃ (y : Int32) (M' : nt_M), o = (some (.int y), M') ∧ (((nt_I M' (pl 31) 1).toInt = (nt_I M (pl 31) 1).toInt ∧ (nt_I M' (pl 31) 2).toInt = (nt_I M (pl 31) 2).toInt ∧ (nt_I M' (pl 4) 0).toInt = (nt_I M (pl 4) 0).toInt ∧ (nt_I M' (pl 4) 4).toInt = (nt_I M (pl 4) 4).toInt ∧ (nt_I M' (pl 14) 0).toInt = (nt_I M (pl 14) 0).toInt ∧ (nt_I M' (pl 14) 212).toInt = (nt_I M (pl 14) 212).toInt ∧ (nt_I M' (pl 14) 424).toInt = (nt_I M (pl 14) 424).toInt ∧ (nt_I M' (pl 14) 636).toInt = (nt_I M (pl 14) 636).toInt ∧ (nt_I M' (pl 14) 4).toInt = (nt_I M (pl 14) 4).toInt ∧ (nt_I M' (pl 14) 216).toInt = (nt_I M (pl 14) 216).toInt ∧ (nt_I M' (pl 14) 428).toInt = (nt_I M (pl 14) 428).toInt ∧ (nt_I M' (pl 14) 640).toInt = (nt_I M (pl 14) 640).toInt)) := by
  obtain ⟨r, hr, h11, h12, h13, h14, h15, h16, h17, h18, h19, h20, h21, h22, h23, h24⟩ : ∃ r : Nat → Int, (∀ s, s < 11 → r s = v s) ∧ r 11 = (nt_I M (pl 31) 1).toInt ∧ r 12 = (nt_I M (pl 31) 2).toInt ∧ r 13 = (nt_I M (pl 4) 0).toInt ∧ r 14 = (nt_I M (pl 4) 4).toInt ∧ r 15 = (nt_I M (pl 14) 0).toInt ∧ r 16 = (nt_I M (pl 14) 212).toInt ∧ r 17 = (nt_I M (pl 14) 424).toInt ∧ r 18 = (nt_I M (pl 14) 636).toInt ∧ r 19 = (nt_I M (pl 14) 4).toInt ∧ r 20 = (nt_I M (pl 14) 216).toInt ∧ r 21 = (nt_I M (pl 14) 428).toInt ∧ r 22 = (nt_I M (pl 14) 640).toInt ∧ r 23 = b0.toInt ∧ r 24 = b1.toInt := ⟨fun s => if s = 11 then (nt_I M (pl 31) 1).toInt else if s = 12 then (nt_I M (pl 31) 2).toInt else if s = 13 then (nt_I M (pl 4) 0).toInt else if s = 14 then (nt_I M (pl 4) 4).toInt else if s = 15 then (nt_I M (pl 14) 0).toInt else if s = 16 then (nt_I M (pl 14) 212).toInt else if s = 17 then (nt_I M (pl 14) 424).toInt else if s = 18 then (nt_I M (pl 14) 636).toInt else if s = 19 then (nt_I M (pl 14) 4).toInt else if s = 20 then (nt_I M (pl 14) 216).toInt else if s = 21 then (nt_I M (pl 14) 428).toInt else if s = 22 then (nt_I M (pl 14) 640).toInt else if s = 23 then b0.toInt else if s = 24 then b1.toInt else v s, fun s hs => by dsimp only; rw [if_neg (by omega), if_neg (by omega), if_neg (by omega), if_neg (by omega), if_neg (by omega), if_neg (by omega), if_neg (by omega), if_neg (by omega), if_neg (by omega), if_neg (by omega), if_neg (by omega), if_neg (by omega), if_neg (by omega), if_neg (by omega)], rfl, rfl, rfl, rfl, rfl, rfl, rfl, rfl, rfl, rfl, rfl, rfl, rfl, rfl⟩
  have hij := ly_ij (K := kk_wd_n_voyage) rfl hB
  have hon := ly_app (K := kk_wd_n_voyage) (ed := []) (ec := [((31, (1, [])), (0, [(11, 1)])), ((31, (2, [])), (0, [(12, 1)])), ((4, (0, [])), (0, [(13, 1)])), ((4, (4, [])), (0, [(14, 1)])), ((14, (0, [])), (0, [(15, 1)])), ((14, (212, [])), (0, [(16, 1)])), ((14, (424, [])), (0, [(17, 1)])), ((14, (636, [])), (0, [(18, 1)])), ((14, (4, [])), (0, [(19, 1)])), ((14, (216, [])), (0, [(20, 1)])), ((14, (428, [])), (0, [(21, 1)])), ((14, (640, [])), (0, [(22, 1)]))]) (er := []) rfl hB (fun _ _ => rfl) hr hij ly_nil (lw_oiC (g := 31) (j := 1) (by show 31 < 66; decide) (by decide) (by dsimp only; rw [sx_s_e]; exact h11.symm) (lw_oiC (g := 31) (j := 2) (by show 31 < 66; decide) (by decide) (by dsimp only; rw [sx_s_e]; exact h12.symm) (lw_oiC (g := 4) (j := 0) (by show 4 < 66; decide) (by decide) (by dsimp only; rw [sx_s_e]; exact h13.symm) (lw_oiC (g := 4) (j := 4) (by show 4 < 66; decide) (by decide) (by dsimp only; rw [sx_s_e]; exact h14.symm) (lw_oiC (g := 14) (j := 0) (by show 14 < 66; decide) (by decide) (by dsimp only; rw [sx_s_e]; exact h15.symm) (lw_oiC (g := 14) (j := 212) (by show 14 < 66; decide) (by decide) (by dsimp only; rw [sx_s_e]; exact h16.symm) (lw_oiC (g := 14) (j := 424) (by show 14 < 66; decide) (by decide) (by dsimp only; rw [sx_s_e]; exact h17.symm) (lw_oiC (g := 14) (j := 636) (by show 14 < 66; decide) (by decide) (by dsimp only; rw [sx_s_e]; exact h18.symm) (lw_oiC (g := 14) (j := 4) (by show 14 < 66; decide) (by decide) (by dsimp only; rw [sx_s_e]; exact h19.symm) (lw_oiC (g := 14) (j := 216) (by show 14 < 66; decide) (by decide) (by dsimp only; rw [sx_s_e]; exact h20.symm) (lw_oiC (g := 14) (j := 428) (by show 14 < 66; decide) (by decide) (by dsimp only; rw [sx_s_e]; exact h21.symm) (lw_oiC (g := 14) (j := 640) (by show 14 < 66; decide) (by decide) (by dsimp only; rw [sx_s_e]; exact h22.symm) (lw_oiN))))))))))))) (fun q hq => by cases hq) (ly_oba (ly_obr hr (ly_ob hB)) (ly_oba (ly_ob1 (by rw [h11]; exact hb11)) (ly_oba (ly_obI (x := nt_I M (pl 31) 2) h12) (ly_oba (ly_ob1 (by rw [h13]; exact hb13)) (ly_oba (ly_obI (x := nt_I M (pl 4) 4) h14) (ly_oba (ly_obI (x := nt_I M (pl 14) 0) h15) (ly_oba (ly_obI (x := nt_I M (pl 14) 212) h16) (ly_oba (ly_obI (x := nt_I M (pl 14) 424) h17) (ly_oba (ly_obI (x := nt_I M (pl 14) 636) h18) (ly_oba (ly_obI (x := nt_I M (pl 14) 4) h19) (ly_oba (ly_obI (x := nt_I M (pl 14) 216) h20) (ly_oba (ly_obI (x := nt_I M (pl 14) 428) h21) (ly_oba (ly_obI (x := nt_I M (pl 14) 640) h22) (ly_oba (ly_obI h23) (ly_obI h24))))))))))))))) ly_oc0
  obtain ⟨p, hp, r', h2, h3⟩ := lw_app (ko_wd_n_voyage X) rfl hd hon (vs := [.ref (pl 16), .int b0, .int b1]) ⟨rfl, ⟨b0, rfl, (ly_e1 h23).symm⟩, ⟨b1, rfl, (ly_e1 h24).symm⟩, trivial⟩ k
  have hr' : ∀ s, s < 25 → r' s = r s := fun s hs => h3.2.2.2.2.2.1 s hs
  obtain ⟨ov, M'⟩ := o
  rw [List.mem_singleton.mp hp] at h2 h3
  cases ov with
  | none => exact h2.elim
  | some w =>
    obtain ⟨y, rfl, hy⟩ := h2
    have hy : y.toInt = 0 + (1 * r' 25 + (0)) := hy
    have e0 : (nt_I M' (pl 31) 1).toInt = 0 + (1 * r' 11 + (0)) := lw_rd (g := 31) (j := 1) h3.2.2.1 (List.mem_of_getElem? (i := 0) rfl) (by decide)
    have e1 : (nt_I M' (pl 31) 2).toInt = 0 + (1 * r' 12 + (0)) := lw_rd (g := 31) (j := 2) h3.2.2.1 (List.mem_of_getElem? (i := 1) rfl) (by decide)
    have e2 : (nt_I M' (pl 4) 0).toInt = 0 + (1 * r' 13 + (0)) := lw_rd (g := 4) (j := 0) h3.2.2.1 (List.mem_of_getElem? (i := 2) rfl) (by decide)
    have e3 : (nt_I M' (pl 4) 4).toInt = 0 + (1 * r' 14 + (0)) := lw_rd (g := 4) (j := 4) h3.2.2.1 (List.mem_of_getElem? (i := 3) rfl) (by decide)
    have e4 : (nt_I M' (pl 14) 0).toInt = 0 + (1 * r' 15 + (0)) := lw_rd (g := 14) (j := 0) h3.2.2.1 (List.mem_of_getElem? (i := 4) rfl) (by decide)
    have e5 : (nt_I M' (pl 14) 212).toInt = 0 + (1 * r' 16 + (0)) := lw_rd (g := 14) (j := 212) h3.2.2.1 (List.mem_of_getElem? (i := 5) rfl) (by decide)
    have e6 : (nt_I M' (pl 14) 424).toInt = 0 + (1 * r' 17 + (0)) := lw_rd (g := 14) (j := 424) h3.2.2.1 (List.mem_of_getElem? (i := 6) rfl) (by decide)
    have e7 : (nt_I M' (pl 14) 636).toInt = 0 + (1 * r' 18 + (0)) := lw_rd (g := 14) (j := 636) h3.2.2.1 (List.mem_of_getElem? (i := 7) rfl) (by decide)
    have e8 : (nt_I M' (pl 14) 4).toInt = 0 + (1 * r' 19 + (0)) := lw_rd (g := 14) (j := 4) h3.2.2.1 (List.mem_of_getElem? (i := 8) rfl) (by decide)
    have e9 : (nt_I M' (pl 14) 216).toInt = 0 + (1 * r' 20 + (0)) := lw_rd (g := 14) (j := 216) h3.2.2.1 (List.mem_of_getElem? (i := 9) rfl) (by decide)
    have e10 : (nt_I M' (pl 14) 428).toInt = 0 + (1 * r' 21 + (0)) := lw_rd (g := 14) (j := 428) h3.2.2.1 (List.mem_of_getElem? (i := 10) rfl) (by decide)
    have e11 : (nt_I M' (pl 14) 640).toInt = 0 + (1 * r' 22 + (0)) := lw_rd (g := 14) (j := 640) h3.2.2.1 (List.mem_of_getElem? (i := 11) rfl) (by decide)
    have g11 := hr' 11 (by omega)
    rw [h11] at g11
    have g12 := hr' 12 (by omega)
    rw [h12] at g12
    have g13 := hr' 13 (by omega)
    rw [h13] at g13
    have g14 := hr' 14 (by omega)
    rw [h14] at g14
    have g15 := hr' 15 (by omega)
    rw [h15] at g15
    have g16 := hr' 16 (by omega)
    rw [h16] at g16
    have g17 := hr' 17 (by omega)
    rw [h17] at g17
    have g18 := hr' 18 (by omega)
    rw [h18] at g18
    have g19 := hr' 19 (by omega)
    rw [h19] at g19
    have g20 := hr' 20 (by omega)
    rw [h20] at g20
    have g21 := hr' 21 (by omega)
    rw [h21] at g21
    have g22 := hr' 22 (by omega)
    rw [h22] at g22
    exact ⟨y, M', rfl, ⟨e0.trans (lw_s g11), e1.trans (lw_s g12), e2.trans (lw_s g13), e3.trans (lw_s g14), e4.trans (lw_s g15), e5.trans (lw_s g16), e6.trans (lw_s g17), e7.trans (lw_s g18), e8.trans (lw_s g19), e9.trans (lw_s g20), e10.trans (lw_s g21), e11.trans (lw_s g22)⟩⟩
theorem lwd_voyage {X : nt_X} {pl : Nat → Nat} {v : Nat → Int} {M : nt_M} {d : Nat} {o : Option Value × nt_M} {b0 b1 : Int32} (hd : 1 ≤ d) (hB : ly_B pl v M) (hb11 : (0 : Int) ≤ (nt_I M (pl 31) 1).toInt ∧ (nt_I M (pl 31) 1).toInt ≤ 1) (hb13 : (0 : Int) ≤ (nt_I M (pl 4) 0).toInt ∧ (nt_I M (pl 4) 0).toInt ≤ 4) (k : nt_ev X d 178 [.ref (pl 0), .int b0, .int b1] M o) : ∃ (y : Int32) (M' : nt_M), o = (some (.int y), M') ∧ (((nt_I M' (pl 31) 1).toInt = (nt_I M (pl 31) 1).toInt ∧ (nt_I M' (pl 31) 2).toInt = (nt_I M (pl 31) 2).toInt ∧ (nt_I M' (pl 4) 0).toInt = (nt_I M (pl 4) 0).toInt ∧ (nt_I M' (pl 4) 4).toInt = (nt_I M (pl 4) 4).toInt ∧ (nt_I M' (pl 14) 0).toInt = (nt_I M (pl 14) 0).toInt ∧ (nt_I M' (pl 14) 212).toInt = (nt_I M (pl 14) 212).toInt ∧ (nt_I M' (pl 14) 424).toInt = (nt_I M (pl 14) 424).toInt ∧ (nt_I M' (pl 14) 636).toInt = (nt_I M (pl 14) 636).toInt ∧ (nt_I M' (pl 14) 4).toInt = (nt_I M (pl 14) 4).toInt ∧ (nt_I M' (pl 14) 216).toInt = (nt_I M (pl 14) 216).toInt ∧ (nt_I M' (pl 14) 428).toInt = (nt_I M (pl 14) 428).toInt ∧ (nt_I M' (pl 14) 640).toInt = (nt_I M (pl 14) 640).toInt)) := by
  obtain ⟨r, hr, h11, h12, h13, h14, h15, h16, h17, h18, h19, h20, h21, h22, h23, h24⟩ : ∃ r : Nat → Int, (∀ s, s < 11 → r s = v s) ∧ r 11 = (nt_I M (pl 31) 1).toInt ∧ r 12 = (nt_I M (pl 31) 2).toInt ∧ r 13 = (nt_I M (pl 4) 0).toInt ∧ r 14 = (nt_I M (pl 4) 4).toInt ∧ r 15 = (nt_I M (pl 14) 0).toInt ∧ r 16 = (nt_I M (pl 14) 212).toInt ∧ r 17 = (nt_I M (pl 14) 424).toInt ∧ r 18 = (nt_I M (pl 14) 636).toInt ∧ r 19 = (nt_I M (pl 14) 4).toInt ∧ r 20 = (nt_I M (pl 14) 216).toInt ∧ r 21 = (nt_I M (pl 14) 428).toInt ∧ r 22 = (nt_I M (pl 14) 640).toInt ∧ r 23 = b0.toInt ∧ r 24 = b1.toInt := ⟨fun s => if s = 11 then (nt_I M (pl 31) 1).toInt else if s = 12 then (nt_I M (pl 31) 2).toInt else if s = 13 then (nt_I M (pl 4) 0).toInt else if s = 14 then (nt_I M (pl 4) 4).toInt else if s = 15 then (nt_I M (pl 14) 0).toInt else if s = 16 then (nt_I M (pl 14) 212).toInt else if s = 17 then (nt_I M (pl 14) 424).toInt else if s = 18 then (nt_I M (pl 14) 636).toInt else if s = 19 then (nt_I M (pl 14) 4).toInt else if s = 20 then (nt_I M (pl 14) 216).toInt else if s = 21 then (nt_I M (pl 14) 428).toInt else if s = 22 then (nt_I M (pl 14) 640).toInt else if s = 23 then b0.toInt else if s = 24 then b1.toInt else v s, fun s hs => by dsimp only; rw [if_neg (by omega), if_neg (by omega), if_neg (by omega), if_neg (by omega), if_neg (by omega), if_neg (by omega), if_neg (by omega), if_neg (by omega), if_neg (by omega), if_neg (by omega), if_neg (by omega), if_neg (by omega), if_neg (by omega), if_neg (by omega)], rfl, rfl, rfl, rfl, rfl, rfl, rfl, rfl, rfl, rfl, rfl, rfl, rfl, rfl⟩
  have hij := ly_ij (K := kk_wd_voyage) rfl hB
  have hon := ly_app (K := kk_wd_voyage) (ed := []) (ec := [((31, (1, [])), (0, [(11, 1)])), ((31, (2, [])), (0, [(12, 1)])), ((4, (0, [])), (0, [(13, 1)])), ((4, (4, [])), (0, [(14, 1)])), ((14, (0, [])), (0, [(15, 1)])), ((14, (212, [])), (0, [(16, 1)])), ((14, (424, [])), (0, [(17, 1)])), ((14, (636, [])), (0, [(18, 1)])), ((14, (4, [])), (0, [(19, 1)])), ((14, (216, [])), (0, [(20, 1)])), ((14, (428, [])), (0, [(21, 1)])), ((14, (640, [])), (0, [(22, 1)]))]) (er := []) rfl hB (fun _ _ => rfl) hr hij ly_nil (lw_oiC (g := 31) (j := 1) (by show 31 < 66; decide) (by decide) (by dsimp only; rw [sx_s_e]; exact h11.symm) (lw_oiC (g := 31) (j := 2) (by show 31 < 66; decide) (by decide) (by dsimp only; rw [sx_s_e]; exact h12.symm) (lw_oiC (g := 4) (j := 0) (by show 4 < 66; decide) (by decide) (by dsimp only; rw [sx_s_e]; exact h13.symm) (lw_oiC (g := 4) (j := 4) (by show 4 < 66; decide) (by decide) (by dsimp only; rw [sx_s_e]; exact h14.symm) (lw_oiC (g := 14) (j := 0) (by show 14 < 66; decide) (by decide) (by dsimp only; rw [sx_s_e]; exact h15.symm) (lw_oiC (g := 14) (j := 212) (by show 14 < 66; decide) (by decide) (by dsimp only; rw [sx_s_e]; exact h16.symm) (lw_oiC (g := 14) (j := 424) (by show 14 < 66; decide) (by decide) (by dsimp only; rw [sx_s_e]; exact h17.symm) (lw_oiC (g := 14) (j := 636) (by show 14 < 66; decide) (by decide) (by dsimp only; rw [sx_s_e]; exact h18.symm) (lw_oiC (g := 14) (j := 4) (by show 14 < 66; decide) (by decide) (by dsimp only; rw [sx_s_e]; exact h19.symm) (lw_oiC (g := 14) (j := 216) (by show 14 < 66; decide) (by decide) (by dsimp only; rw [sx_s_e]; exact h20.symm) (lw_oiC (g := 14) (j := 428) (by show 14 < 66; decide) (by decide) (by dsimp only; rw [sx_s_e]; exact h21.symm) (lw_oiC (g := 14) (j := 640) (by show 14 < 66; decide) (by decide) (by dsimp only; rw [sx_s_e]; exact h22.symm) (lw_oiN))))))))))))) (fun q hq => by cases hq) (ly_oba (ly_obr hr (ly_ob hB)) (ly_oba (ly_ob1 (by rw [h11]; exact hb11)) (ly_oba (ly_obI (x := nt_I M (pl 31) 2) h12) (ly_oba (ly_ob1 (by rw [h13]; exact hb13)) (ly_oba (ly_obI (x := nt_I M (pl 4) 4) h14) (ly_oba (ly_obI (x := nt_I M (pl 14) 0) h15) (ly_oba (ly_obI (x := nt_I M (pl 14) 212) h16) (ly_oba (ly_obI (x := nt_I M (pl 14) 424) h17) (ly_oba (ly_obI (x := nt_I M (pl 14) 636) h18) (ly_oba (ly_obI (x := nt_I M (pl 14) 4) h19) (ly_oba (ly_obI (x := nt_I M (pl 14) 216) h20) (ly_oba (ly_obI (x := nt_I M (pl 14) 428) h21) (ly_oba (ly_obI (x := nt_I M (pl 14) 640) h22) (ly_oba (ly_obI h23) (ly_obI h24))))))))))))))) ly_oc0
  obtain ⟨p, hp, r', h2, h3⟩ := lw_app (ko_wd_voyage X) rfl hd hon (vs := [.ref (pl 0), .int b0, .int b1]) ⟨rfl, ⟨b0, rfl, (ly_e1 h23).symm⟩, ⟨b1, rfl, (ly_e1 h24).symm⟩, trivial⟩ k
  have hr' : ∀ s, s < 25 → r' s = r s := fun s hs => h3.2.2.2.2.2.1 s hs
  obtain ⟨ov, M'⟩ := o
  rw [List.mem_singleton.mp hp] at h2 h3
  cases ov with
  | none => exact h2.elim
  | some w =>
    obtain ⟨y, rfl, hy⟩ := h2
    have hy : y.toInt = 0 + (1 * r' 25 + (0)) := hy
    have e0 : (nt_I M' (pl 31) 1).toInt = 0 + (1 * r' 11 + (0)) := lw_rd (g := 31) (j := 1) h3.2.2.1 (List.mem_of_getElem? (i := 0) rfl) (by decide)
    have e1 : (nt_I M' (pl 31) 2).toInt = 0 + (1 * r' 12 + (0)) := lw_rd (g := 31) (j := 2) h3.2.2.1 (List.mem_of_getElem? (i := 1) rfl) (by decide)
    have e2 : (nt_I M' (pl 4) 0).toInt = 0 + (1 * r' 13 + (0)) := lw_rd (g := 4) (j := 0) h3.2.2.1 (List.mem_of_getElem? (i := 2) rfl) (by decide)
    have e3 : (nt_I M' (pl 4) 4).toInt = 0 + (1 * r' 14 + (0)) := lw_rd (g := 4) (j := 4) h3.2.2.1 (List.mem_of_getElem? (i := 3) rfl) (by decide)
    have e4 : (nt_I M' (pl 14) 0).toInt = 0 + (1 * r' 15 + (0)) := lw_rd (g := 14) (j := 0) h3.2.2.1 (List.mem_of_getElem? (i := 4) rfl) (by decide)
    have e5 : (nt_I M' (pl 14) 212).toInt = 0 + (1 * r' 16 + (0)) := lw_rd (g := 14) (j := 212) h3.2.2.1 (List.mem_of_getElem? (i := 5) rfl) (by decide)
    have e6 : (nt_I M' (pl 14) 424).toInt = 0 + (1 * r' 17 + (0)) := lw_rd (g := 14) (j := 424) h3.2.2.1 (List.mem_of_getElem? (i := 6) rfl) (by decide)
    have e7 : (nt_I M' (pl 14) 636).toInt = 0 + (1 * r' 18 + (0)) := lw_rd (g := 14) (j := 636) h3.2.2.1 (List.mem_of_getElem? (i := 7) rfl) (by decide)
    have e8 : (nt_I M' (pl 14) 4).toInt = 0 + (1 * r' 19 + (0)) := lw_rd (g := 14) (j := 4) h3.2.2.1 (List.mem_of_getElem? (i := 8) rfl) (by decide)
    have e9 : (nt_I M' (pl 14) 216).toInt = 0 + (1 * r' 20 + (0)) := lw_rd (g := 14) (j := 216) h3.2.2.1 (List.mem_of_getElem? (i := 9) rfl) (by decide)
    have e10 : (nt_I M' (pl 14) 428).toInt = 0 + (1 * r' 21 + (0)) := lw_rd (g := 14) (j := 428) h3.2.2.1 (List.mem_of_getElem? (i := 10) rfl) (by decide)
    have e11 : (nt_I M' (pl 14) 640).toInt = 0 + (1 * r' 22 + (0)) := lw_rd (g := 14) (j := 640) h3.2.2.1 (List.mem_of_getElem? (i := 11) rfl) (by decide)
    have g11 := hr' 11 (by omega)
    rw [h11] at g11
    have g12 := hr' 12 (by omega)
    rw [h12] at g12
    have g13 := hr' 13 (by omega)
    rw [h13] at g13
    have g14 := hr' 14 (by omega)
    rw [h14] at g14
    have g15 := hr' 15 (by omega)
    rw [h15] at g15
    have g16 := hr' 16 (by omega)
    rw [h16] at g16
    have g17 := hr' 17 (by omega)
    rw [h17] at g17
    have g18 := hr' 18 (by omega)
    rw [h18] at g18
    have g19 := hr' 19 (by omega)
    rw [h19] at g19
    have g20 := hr' 20 (by omega)
    rw [h20] at g20
    have g21 := hr' 21 (by omega)
    rw [h21] at g21
    have g22 := hr' 22 (by omega)
    rw [h22] at g22
    exact ⟨y, M', rfl, ⟨e0.trans (lw_s g11), e1.trans (lw_s g12), e2.trans (lw_s g13), e3.trans (lw_s g14), e4.trans (lw_s g15), e5.trans (lw_s g16), e6.trans (lw_s g17), e7.trans (lw_s g18), e8.trans (lw_s g19), e9.trans (lw_s g20), e10.trans (lw_s g21), e11.trans (lw_s g22)⟩⟩
theorem lwd_n_move {X : nt_X} {pl : Nat → Nat} {v : Nat → Int} {M : nt_M} {d : Nat} {o : Option Value × nt_M} {b0 b1 : Int32} (hd : 2 ≤ d) (hB : ly_B pl v M) (hb11 : (0 : Int) ≤ (nt_I M (pl 31) 1).toInt ∧ (nt_I M (pl 31) 1).toInt ≤ 1) (hb13 : (0 : Int) ≤ (nt_I M (pl 4) 0).toInt ∧ (nt_I M (pl 4) 0).toInt ≤ 4) (k : nt_ev X d 109 [.ref (pl 16), .int b0, .int b1] M o) : ∃ (y : Int32) (M' : nt_M), o = (some (.int y), M') ∧ (((nt_I M' (pl 31) 1).toInt = (nt_I M (pl 31) 1).toInt ∧ (nt_I M' (pl 31) 2).toInt = (nt_I M (pl 31) 2).toInt ∧ (nt_I M' (pl 4) 0).toInt = (nt_I M (pl 4) 0).toInt ∧ (nt_I M' (pl 4) 4).toInt = (nt_I M (pl 4) 4).toInt ∧ (nt_I M' (pl 14) 0).toInt = (nt_I M (pl 14) 0).toInt ∧ (nt_I M' (pl 14) 212).toInt = (nt_I M (pl 14) 212).toInt ∧ (nt_I M' (pl 14) 424).toInt = (nt_I M (pl 14) 424).toInt ∧ (nt_I M' (pl 14) 636).toInt = (nt_I M (pl 14) 636).toInt ∧ (nt_I M' (pl 14) 4).toInt = (nt_I M (pl 14) 4).toInt ∧ (nt_I M' (pl 14) 216).toInt = (nt_I M (pl 14) 216).toInt ∧ (nt_I M' (pl 14) 428).toInt = (nt_I M (pl 14) 428).toInt ∧ (nt_I M' (pl 14) 640).toInt = (nt_I M (pl 14) 640).toInt)) := by
  obtain ⟨r, hr, h11, h12, h13, h14, h15, h16, h17, h18, h19, h20, h21, h22, h23, h24⟩ : ∃ r : Nat → Int, (∀ s, s < 11 → r s = v s) ∧ r 11 = (nt_I M (pl 31) 1).toInt ∧ r 12 = (nt_I M (pl 31) 2).toInt ∧ r 13 = (nt_I M (pl 4) 0).toInt ∧ r 14 = (nt_I M (pl 4) 4).toInt ∧ r 15 = (nt_I M (pl 14) 0).toInt ∧ r 16 = (nt_I M (pl 14) 212).toInt ∧ r 17 = (nt_I M (pl 14) 424).toInt ∧ r 18 = (nt_I M (pl 14) 636).toInt ∧ r 19 = (nt_I M (pl 14) 4).toInt ∧ r 20 = (nt_I M (pl 14) 216).toInt ∧ r 21 = (nt_I M (pl 14) 428).toInt ∧ r 22 = (nt_I M (pl 14) 640).toInt ∧ r 23 = b0.toInt ∧ r 24 = b1.toInt := ⟨fun s => if s = 11 then (nt_I M (pl 31) 1).toInt else if s = 12 then (nt_I M (pl 31) 2).toInt else if s = 13 then (nt_I M (pl 4) 0).toInt else if s = 14 then (nt_I M (pl 4) 4).toInt else if s = 15 then (nt_I M (pl 14) 0).toInt else if s = 16 then (nt_I M (pl 14) 212).toInt else if s = 17 then (nt_I M (pl 14) 424).toInt else if s = 18 then (nt_I M (pl 14) 636).toInt else if s = 19 then (nt_I M (pl 14) 4).toInt else if s = 20 then (nt_I M (pl 14) 216).toInt else if s = 21 then (nt_I M (pl 14) 428).toInt else if s = 22 then (nt_I M (pl 14) 640).toInt else if s = 23 then b0.toInt else if s = 24 then b1.toInt else v s, fun s hs => by dsimp only; rw [if_neg (by omega), if_neg (by omega), if_neg (by omega), if_neg (by omega), if_neg (by omega), if_neg (by omega), if_neg (by omega), if_neg (by omega), if_neg (by omega), if_neg (by omega), if_neg (by omega), if_neg (by omega), if_neg (by omega), if_neg (by omega)], rfl, rfl, rfl, rfl, rfl, rfl, rfl, rfl, rfl, rfl, rfl, rfl, rfl, rfl⟩
  have hij := ly_ij (K := kk_wd_n_move) rfl hB
  have hon := ly_app (K := kk_wd_n_move) (ed := []) (ec := [((31, (1, [])), (0, [(11, 1)])), ((31, (2, [])), (0, [(12, 1)])), ((4, (0, [])), (0, [(13, 1)])), ((4, (4, [])), (0, [(14, 1)])), ((14, (0, [])), (0, [(15, 1)])), ((14, (212, [])), (0, [(16, 1)])), ((14, (424, [])), (0, [(17, 1)])), ((14, (636, [])), (0, [(18, 1)])), ((14, (4, [])), (0, [(19, 1)])), ((14, (216, [])), (0, [(20, 1)])), ((14, (428, [])), (0, [(21, 1)])), ((14, (640, [])), (0, [(22, 1)]))]) (er := []) rfl hB (fun _ _ => rfl) hr hij ly_nil (lw_oiC (g := 31) (j := 1) (by show 31 < 66; decide) (by decide) (by dsimp only; rw [sx_s_e]; exact h11.symm) (lw_oiC (g := 31) (j := 2) (by show 31 < 66; decide) (by decide) (by dsimp only; rw [sx_s_e]; exact h12.symm) (lw_oiC (g := 4) (j := 0) (by show 4 < 66; decide) (by decide) (by dsimp only; rw [sx_s_e]; exact h13.symm) (lw_oiC (g := 4) (j := 4) (by show 4 < 66; decide) (by decide) (by dsimp only; rw [sx_s_e]; exact h14.symm) (lw_oiC (g := 14) (j := 0) (by show 14 < 66; decide) (by decide) (by dsimp only; rw [sx_s_e]; exact h15.symm) (lw_oiC (g := 14) (j := 212) (by show 14 < 66; decide) (by decide) (by dsimp only; rw [sx_s_e]; exact h16.symm) (lw_oiC (g := 14) (j := 424) (by show 14 < 66; decide) (by decide) (by dsimp only; rw [sx_s_e]; exact h17.symm) (lw_oiC (g := 14) (j := 636) (by show 14 < 66; decide) (by decide) (by dsimp only; rw [sx_s_e]; exact h18.symm) (lw_oiC (g := 14) (j := 4) (by show 14 < 66; decide) (by decide) (by dsimp only; rw [sx_s_e]; exact h19.symm) (lw_oiC (g := 14) (j := 216) (by show 14 < 66; decide) (by decide) (by dsimp only; rw [sx_s_e]; exact h20.symm) (lw_oiC (g := 14) (j := 428) (by show 14 < 66; decide) (by decide) (by dsimp only; rw [sx_s_e]; exact h21.symm) (lw_oiC (g := 14) (j := 640) (by show 14 < 66; decide) (by decide) (by dsimp only; rw [sx_s_e]; exact h22.symm) (lw_oiN))))))))))))) (fun q hq => by cases hq) (ly_oba (ly_obr hr (ly_ob hB)) (ly_oba (ly_ob1 (by rw [h11]; exact hb11)) (ly_oba (ly_obI (x := nt_I M (pl 31) 2) h12) (ly_oba (ly_ob1 (by rw [h13]; exact hb13)) (ly_oba (ly_obI (x := nt_I M (pl 4) 4) h14) (ly_oba (ly_obI (x := nt_I M (pl 14) 0) h15) (ly_oba (ly_obI (x := nt_I M (pl 14) 212) h16) (ly_oba (ly_obI (x := nt_I M (pl 14) 424) h17) (ly_oba (ly_obI (x := nt_I M (pl 14) 636) h18) (ly_oba (ly_obI (x := nt_I M (pl 14) 4) h19) (ly_oba (ly_obI (x := nt_I M (pl 14) 216) h20) (ly_oba (ly_obI (x := nt_I M (pl 14) 428) h21) (ly_oba (ly_obI (x := nt_I M (pl 14) 640) h22) (ly_oba (ly_obI h23) (ly_obI h24))))))))))))))) ly_oc0
  obtain ⟨p, hp, r', h2, h3⟩ := lw_app (ko_wd_n_move X) rfl hd hon (vs := [.ref (pl 16), .int b0, .int b1]) ⟨rfl, ⟨b0, rfl, (ly_e1 h23).symm⟩, ⟨b1, rfl, (ly_e1 h24).symm⟩, trivial⟩ k
  have hr' : ∀ s, s < 25 → r' s = r s := fun s hs => h3.2.2.2.2.2.1 s hs
  obtain ⟨ov, M'⟩ := o
  rw [List.mem_singleton.mp hp] at h2 h3
  cases ov with
  | none => exact h2.elim
  | some w =>
    obtain ⟨y, rfl, hy⟩ := h2
    have hy : y.toInt = 0 + (1 * r' 25 + (0)) := hy
    have e0 : (nt_I M' (pl 31) 1).toInt = 0 + (1 * r' 11 + (0)) := lw_rd (g := 31) (j := 1) h3.2.2.1 (List.mem_of_getElem? (i := 0) rfl) (by decide)
    have e1 : (nt_I M' (pl 31) 2).toInt = 0 + (1 * r' 12 + (0)) := lw_rd (g := 31) (j := 2) h3.2.2.1 (List.mem_of_getElem? (i := 1) rfl) (by decide)
    have e2 : (nt_I M' (pl 4) 0).toInt = 0 + (1 * r' 13 + (0)) := lw_rd (g := 4) (j := 0) h3.2.2.1 (List.mem_of_getElem? (i := 2) rfl) (by decide)
    have e3 : (nt_I M' (pl 4) 4).toInt = 0 + (1 * r' 14 + (0)) := lw_rd (g := 4) (j := 4) h3.2.2.1 (List.mem_of_getElem? (i := 3) rfl) (by decide)
    have e4 : (nt_I M' (pl 14) 0).toInt = 0 + (1 * r' 15 + (0)) := lw_rd (g := 14) (j := 0) h3.2.2.1 (List.mem_of_getElem? (i := 4) rfl) (by decide)
    have e5 : (nt_I M' (pl 14) 212).toInt = 0 + (1 * r' 16 + (0)) := lw_rd (g := 14) (j := 212) h3.2.2.1 (List.mem_of_getElem? (i := 5) rfl) (by decide)
    have e6 : (nt_I M' (pl 14) 424).toInt = 0 + (1 * r' 17 + (0)) := lw_rd (g := 14) (j := 424) h3.2.2.1 (List.mem_of_getElem? (i := 6) rfl) (by decide)
    have e7 : (nt_I M' (pl 14) 636).toInt = 0 + (1 * r' 18 + (0)) := lw_rd (g := 14) (j := 636) h3.2.2.1 (List.mem_of_getElem? (i := 7) rfl) (by decide)
    have e8 : (nt_I M' (pl 14) 4).toInt = 0 + (1 * r' 19 + (0)) := lw_rd (g := 14) (j := 4) h3.2.2.1 (List.mem_of_getElem? (i := 8) rfl) (by decide)
    have e9 : (nt_I M' (pl 14) 216).toInt = 0 + (1 * r' 20 + (0)) := lw_rd (g := 14) (j := 216) h3.2.2.1 (List.mem_of_getElem? (i := 9) rfl) (by decide)
    have e10 : (nt_I M' (pl 14) 428).toInt = 0 + (1 * r' 21 + (0)) := lw_rd (g := 14) (j := 428) h3.2.2.1 (List.mem_of_getElem? (i := 10) rfl) (by decide)
    have e11 : (nt_I M' (pl 14) 640).toInt = 0 + (1 * r' 22 + (0)) := lw_rd (g := 14) (j := 640) h3.2.2.1 (List.mem_of_getElem? (i := 11) rfl) (by decide)
    have g11 := hr' 11 (by omega)
    rw [h11] at g11
    have g12 := hr' 12 (by omega)
    rw [h12] at g12
    have g13 := hr' 13 (by omega)
    rw [h13] at g13
    have g14 := hr' 14 (by omega)
    rw [h14] at g14
    have g15 := hr' 15 (by omega)
    rw [h15] at g15
    have g16 := hr' 16 (by omega)
    rw [h16] at g16
    have g17 := hr' 17 (by omega)
    rw [h17] at g17
    have g18 := hr' 18 (by omega)
    rw [h18] at g18
    have g19 := hr' 19 (by omega)
    rw [h19] at g19
    have g20 := hr' 20 (by omega)
    rw [h20] at g20
    have g21 := hr' 21 (by omega)
    rw [h21] at g21
    have g22 := hr' 22 (by omega)
    rw [h22] at g22
    exact ⟨y, M', rfl, ⟨e0.trans (lw_s g11), e1.trans (lw_s g12), e2.trans (lw_s g13), e3.trans (lw_s g14), e4.trans (lw_s g15), e5.trans (lw_s g16), e6.trans (lw_s g17), e7.trans (lw_s g18), e8.trans (lw_s g19), e9.trans (lw_s g20), e10.trans (lw_s g21), e11.trans (lw_s g22)⟩⟩
theorem lwd_move {X : nt_X} {pl : Nat → Nat} {v : Nat → Int} {M : nt_M} {d : Nat} {o : Option Value × nt_M} {b0 b1 : Int32} (hd : 3 ≤ d) (hB : ly_B pl v M) (hb11 : (0 : Int) ≤ (nt_I M (pl 31) 1).toInt ∧ (nt_I M (pl 31) 1).toInt ≤ 1) (hb13 : (0 : Int) ≤ (nt_I M (pl 4) 0).toInt ∧ (nt_I M (pl 4) 0).toInt ≤ 4) (k : nt_ev X d 181 [.ref (pl 0), .int b0, .int b1] M o) : ∃ (y : Int32) (M' : nt_M), o = (some (.int y), M') ∧ (((nt_I M' (pl 31) 1).toInt = (nt_I M (pl 31) 1).toInt ∧ (nt_I M' (pl 31) 2).toInt = (nt_I M (pl 31) 2).toInt ∧ (nt_I M' (pl 4) 0).toInt = (nt_I M (pl 4) 0).toInt ∧ (nt_I M' (pl 4) 4).toInt = (nt_I M (pl 4) 4).toInt ∧ (nt_I M' (pl 14) 0).toInt = (nt_I M (pl 14) 0).toInt ∧ (nt_I M' (pl 14) 212).toInt = (nt_I M (pl 14) 212).toInt ∧ (nt_I M' (pl 14) 424).toInt = (nt_I M (pl 14) 424).toInt ∧ (nt_I M' (pl 14) 636).toInt = (nt_I M (pl 14) 636).toInt ∧ (nt_I M' (pl 14) 4).toInt = (nt_I M (pl 14) 4).toInt ∧ (nt_I M' (pl 14) 216).toInt = (nt_I M (pl 14) 216).toInt ∧ (nt_I M' (pl 14) 428).toInt = (nt_I M (pl 14) 428).toInt ∧ (nt_I M' (pl 14) 640).toInt = (nt_I M (pl 14) 640).toInt)) := by
  obtain ⟨r, hr, h11, h12, h13, h14, h15, h16, h17, h18, h19, h20, h21, h22, h23, h24⟩ : ∃ r : Nat → Int, (∀ s, s < 11 → r s = v s) ∧ r 11 = (nt_I M (pl 31) 1).toInt ∧ r 12 = (nt_I M (pl 31) 2).toInt ∧ r 13 = (nt_I M (pl 4) 0).toInt ∧ r 14 = (nt_I M (pl 4) 4).toInt ∧ r 15 = (nt_I M (pl 14) 0).toInt ∧ r 16 = (nt_I M (pl 14) 212).toInt ∧ r 17 = (nt_I M (pl 14) 424).toInt ∧ r 18 = (nt_I M (pl 14) 636).toInt ∧ r 19 = (nt_I M (pl 14) 4).toInt ∧ r 20 = (nt_I M (pl 14) 216).toInt ∧ r 21 = (nt_I M (pl 14) 428).toInt ∧ r 22 = (nt_I M (pl 14) 640).toInt ∧ r 23 = b0.toInt ∧ r 24 = b1.toInt := ⟨fun s => if s = 11 then (nt_I M (pl 31) 1).toInt else if s = 12 then (nt_I M (pl 31) 2).toInt else if s = 13 then (nt_I M (pl 4) 0).toInt else if s = 14 then (nt_I M (pl 4) 4).toInt else if s = 15 then (nt_I M (pl 14) 0).toInt else if s = 16 then (nt_I M (pl 14) 212).toInt else if s = 17 then (nt_I M (pl 14) 424).toInt else if s = 18 then (nt_I M (pl 14) 636).toInt else if s = 19 then (nt_I M (pl 14) 4).toInt else if s = 20 then (nt_I M (pl 14) 216).toInt else if s = 21 then (nt_I M (pl 14) 428).toInt else if s = 22 then (nt_I M (pl 14) 640).toInt else if s = 23 then b0.toInt else if s = 24 then b1.toInt else v s, fun s hs => by dsimp only; rw [if_neg (by omega), if_neg (by omega), if_neg (by omega), if_neg (by omega), if_neg (by omega), if_neg (by omega), if_neg (by omega), if_neg (by omega), if_neg (by omega), if_neg (by omega), if_neg (by omega), if_neg (by omega), if_neg (by omega), if_neg (by omega)], rfl, rfl, rfl, rfl, rfl, rfl, rfl, rfl, rfl, rfl, rfl, rfl, rfl, rfl⟩
  have hij := ly_ij (K := kk_wd_move) rfl hB
  have hon := ly_app (K := kk_wd_move) (ed := []) (ec := [((31, (1, [])), (0, [(11, 1)])), ((31, (2, [])), (0, [(12, 1)])), ((4, (0, [])), (0, [(13, 1)])), ((4, (4, [])), (0, [(14, 1)])), ((14, (0, [])), (0, [(15, 1)])), ((14, (212, [])), (0, [(16, 1)])), ((14, (424, [])), (0, [(17, 1)])), ((14, (636, [])), (0, [(18, 1)])), ((14, (4, [])), (0, [(19, 1)])), ((14, (216, [])), (0, [(20, 1)])), ((14, (428, [])), (0, [(21, 1)])), ((14, (640, [])), (0, [(22, 1)]))]) (er := []) rfl hB (fun _ _ => rfl) hr hij ly_nil (lw_oiC (g := 31) (j := 1) (by show 31 < 66; decide) (by decide) (by dsimp only; rw [sx_s_e]; exact h11.symm) (lw_oiC (g := 31) (j := 2) (by show 31 < 66; decide) (by decide) (by dsimp only; rw [sx_s_e]; exact h12.symm) (lw_oiC (g := 4) (j := 0) (by show 4 < 66; decide) (by decide) (by dsimp only; rw [sx_s_e]; exact h13.symm) (lw_oiC (g := 4) (j := 4) (by show 4 < 66; decide) (by decide) (by dsimp only; rw [sx_s_e]; exact h14.symm) (lw_oiC (g := 14) (j := 0) (by show 14 < 66; decide) (by decide) (by dsimp only; rw [sx_s_e]; exact h15.symm) (lw_oiC (g := 14) (j := 212) (by show 14 < 66; decide) (by decide) (by dsimp only; rw [sx_s_e]; exact h16.symm) (lw_oiC (g := 14) (j := 424) (by show 14 < 66; decide) (by decide) (by dsimp only; rw [sx_s_e]; exact h17.symm) (lw_oiC (g := 14) (j := 636) (by show 14 < 66; decide) (by decide) (by dsimp only; rw [sx_s_e]; exact h18.symm) (lw_oiC (g := 14) (j := 4) (by show 14 < 66; decide) (by decide) (by dsimp only; rw [sx_s_e]; exact h19.symm) (lw_oiC (g := 14) (j := 216) (by show 14 < 66; decide) (by decide) (by dsimp only; rw [sx_s_e]; exact h20.symm) (lw_oiC (g := 14) (j := 428) (by show 14 < 66; decide) (by decide) (by dsimp only; rw [sx_s_e]; exact h21.symm) (lw_oiC (g := 14) (j := 640) (by show 14 < 66; decide) (by decide) (by dsimp only; rw [sx_s_e]; exact h22.symm) (lw_oiN))))))))))))) (fun q hq => by cases hq) (ly_oba (ly_obr hr (ly_ob hB)) (ly_oba (ly_ob1 (by rw [h11]; exact hb11)) (ly_oba (ly_obI (x := nt_I M (pl 31) 2) h12) (ly_oba (ly_ob1 (by rw [h13]; exact hb13)) (ly_oba (ly_obI (x := nt_I M (pl 4) 4) h14) (ly_oba (ly_obI (x := nt_I M (pl 14) 0) h15) (ly_oba (ly_obI (x := nt_I M (pl 14) 212) h16) (ly_oba (ly_obI (x := nt_I M (pl 14) 424) h17) (ly_oba (ly_obI (x := nt_I M (pl 14) 636) h18) (ly_oba (ly_obI (x := nt_I M (pl 14) 4) h19) (ly_oba (ly_obI (x := nt_I M (pl 14) 216) h20) (ly_oba (ly_obI (x := nt_I M (pl 14) 428) h21) (ly_oba (ly_obI (x := nt_I M (pl 14) 640) h22) (ly_oba (ly_obI h23) (ly_obI h24))))))))))))))) ly_oc0
  obtain ⟨p, hp, r', h2, h3⟩ := lw_app (ko_wd_move X) rfl hd hon (vs := [.ref (pl 0), .int b0, .int b1]) ⟨rfl, ⟨b0, rfl, (ly_e1 h23).symm⟩, ⟨b1, rfl, (ly_e1 h24).symm⟩, trivial⟩ k
  have hr' : ∀ s, s < 25 → r' s = r s := fun s hs => h3.2.2.2.2.2.1 s hs
  obtain ⟨ov, M'⟩ := o
  rw [List.mem_singleton.mp hp] at h2 h3
  cases ov with
  | none => exact h2.elim
  | some w =>
    obtain ⟨y, rfl, hy⟩ := h2
    have hy : y.toInt = 0 + (1 * r' 25 + (0)) := hy
    have e0 : (nt_I M' (pl 31) 1).toInt = 0 + (1 * r' 11 + (0)) := lw_rd (g := 31) (j := 1) h3.2.2.1 (List.mem_of_getElem? (i := 0) rfl) (by decide)
    have e1 : (nt_I M' (pl 31) 2).toInt = 0 + (1 * r' 12 + (0)) := lw_rd (g := 31) (j := 2) h3.2.2.1 (List.mem_of_getElem? (i := 1) rfl) (by decide)
    have e2 : (nt_I M' (pl 4) 0).toInt = 0 + (1 * r' 13 + (0)) := lw_rd (g := 4) (j := 0) h3.2.2.1 (List.mem_of_getElem? (i := 2) rfl) (by decide)
    have e3 : (nt_I M' (pl 4) 4).toInt = 0 + (1 * r' 14 + (0)) := lw_rd (g := 4) (j := 4) h3.2.2.1 (List.mem_of_getElem? (i := 3) rfl) (by decide)
    have e4 : (nt_I M' (pl 14) 0).toInt = 0 + (1 * r' 15 + (0)) := lw_rd (g := 14) (j := 0) h3.2.2.1 (List.mem_of_getElem? (i := 4) rfl) (by decide)
    have e5 : (nt_I M' (pl 14) 212).toInt = 0 + (1 * r' 16 + (0)) := lw_rd (g := 14) (j := 212) h3.2.2.1 (List.mem_of_getElem? (i := 5) rfl) (by decide)
    have e6 : (nt_I M' (pl 14) 424).toInt = 0 + (1 * r' 17 + (0)) := lw_rd (g := 14) (j := 424) h3.2.2.1 (List.mem_of_getElem? (i := 6) rfl) (by decide)
    have e7 : (nt_I M' (pl 14) 636).toInt = 0 + (1 * r' 18 + (0)) := lw_rd (g := 14) (j := 636) h3.2.2.1 (List.mem_of_getElem? (i := 7) rfl) (by decide)
    have e8 : (nt_I M' (pl 14) 4).toInt = 0 + (1 * r' 19 + (0)) := lw_rd (g := 14) (j := 4) h3.2.2.1 (List.mem_of_getElem? (i := 8) rfl) (by decide)
    have e9 : (nt_I M' (pl 14) 216).toInt = 0 + (1 * r' 20 + (0)) := lw_rd (g := 14) (j := 216) h3.2.2.1 (List.mem_of_getElem? (i := 9) rfl) (by decide)
    have e10 : (nt_I M' (pl 14) 428).toInt = 0 + (1 * r' 21 + (0)) := lw_rd (g := 14) (j := 428) h3.2.2.1 (List.mem_of_getElem? (i := 10) rfl) (by decide)
    have e11 : (nt_I M' (pl 14) 640).toInt = 0 + (1 * r' 22 + (0)) := lw_rd (g := 14) (j := 640) h3.2.2.1 (List.mem_of_getElem? (i := 11) rfl) (by decide)
    have g11 := hr' 11 (by omega)
    rw [h11] at g11
    have g12 := hr' 12 (by omega)
    rw [h12] at g12
    have g13 := hr' 13 (by omega)
    rw [h13] at g13
    have g14 := hr' 14 (by omega)
    rw [h14] at g14
    have g15 := hr' 15 (by omega)
    rw [h15] at g15
    have g16 := hr' 16 (by omega)
    rw [h16] at g16
    have g17 := hr' 17 (by omega)
    rw [h17] at g17
    have g18 := hr' 18 (by omega)
    rw [h18] at g18
    have g19 := hr' 19 (by omega)
    rw [h19] at g19
    have g20 := hr' 20 (by omega)
    rw [h20] at g20
    have g21 := hr' 21 (by omega)
    rw [h21] at g21
    have g22 := hr' 22 (by omega)
    rw [h22] at g22
    exact ⟨y, M', rfl, ⟨e0.trans (lw_s g11), e1.trans (lw_s g12), e2.trans (lw_s g13), e3.trans (lw_s g14), e4.trans (lw_s g15), e5.trans (lw_s g16), e6.trans (lw_s g17), e7.trans (lw_s g18), e8.trans (lw_s g19), e9.trans (lw_s g20), e10.trans (lw_s g21), e11.trans (lw_s g22)⟩⟩
theorem lwd_n_lacks {X : nt_X} {pl : Nat → Nat} {v : Nat → Int} {M : nt_M} {d : Nat} {o : Option Value × nt_M} {b0 b1 : Int32} (hd : 2 ≤ d) (hB : ly_B pl v M) (hb11 : (0 : Int) ≤ (nt_I M (pl 31) 1).toInt ∧ (nt_I M (pl 31) 1).toInt ≤ 1) (hb13 : (0 : Int) ≤ (nt_I M (pl 4) 0).toInt ∧ (nt_I M (pl 4) 0).toInt ≤ 4) (k : nt_ev X d 113 [.ref (pl 16), .int b0, .int b1] M o) : ∃ (y : Int32) (M' : nt_M), o = (some (.int y), M') ∧ (((nt_I M' (pl 31) 1).toInt = (nt_I M (pl 31) 1).toInt ∧ (nt_I M' (pl 31) 2).toInt = (nt_I M (pl 31) 2).toInt ∧ (nt_I M' (pl 4) 0).toInt = (nt_I M (pl 4) 0).toInt ∧ (nt_I M' (pl 4) 4).toInt = (nt_I M (pl 4) 4).toInt ∧ (nt_I M' (pl 14) 0).toInt = (nt_I M (pl 14) 0).toInt ∧ (nt_I M' (pl 14) 212).toInt = (nt_I M (pl 14) 212).toInt ∧ (nt_I M' (pl 14) 424).toInt = (nt_I M (pl 14) 424).toInt ∧ (nt_I M' (pl 14) 636).toInt = (nt_I M (pl 14) 636).toInt ∧ (nt_I M' (pl 14) 4).toInt = (nt_I M (pl 14) 4).toInt ∧ (nt_I M' (pl 14) 216).toInt = (nt_I M (pl 14) 216).toInt ∧ (nt_I M' (pl 14) 428).toInt = (nt_I M (pl 14) 428).toInt ∧ (nt_I M' (pl 14) 640).toInt = (nt_I M (pl 14) 640).toInt)) := by
  obtain ⟨r, hr, h11, h12, h13, h14, h15, h16, h17, h18, h19, h20, h21, h22, h23, h24⟩ : ∃ r : Nat → Int, (∀ s, s < 11 → r s = v s) ∧ r 11 = (nt_I M (pl 31) 1).toInt ∧ r 12 = (nt_I M (pl 31) 2).toInt ∧ r 13 = (nt_I M (pl 4) 0).toInt ∧ r 14 = (nt_I M (pl 4) 4).toInt ∧ r 15 = (nt_I M (pl 14) 0).toInt ∧ r 16 = (nt_I M (pl 14) 212).toInt ∧ r 17 = (nt_I M (pl 14) 424).toInt ∧ r 18 = (nt_I M (pl 14) 636).toInt ∧ r 19 = (nt_I M (pl 14) 4).toInt ∧ r 20 = (nt_I M (pl 14) 216).toInt ∧ r 21 = (nt_I M (pl 14) 428).toInt ∧ r 22 = (nt_I M (pl 14) 640).toInt ∧ r 23 = b0.toInt ∧ r 24 = b1.toInt := ⟨fun s => if s = 11 then (nt_I M (pl 31) 1).toInt else if s = 12 then (nt_I M (pl 31) 2).toInt else if s = 13 then (nt_I M (pl 4) 0).toInt else if s = 14 then (nt_I M (pl 4) 4).toInt else if s = 15 then (nt_I M (pl 14) 0).toInt else if s = 16 then (nt_I M (pl 14) 212).toInt else if s = 17 then (nt_I M (pl 14) 424).toInt else if s = 18 then (nt_I M (pl 14) 636).toInt else if s = 19 then (nt_I M (pl 14) 4).toInt else if s = 20 then (nt_I M (pl 14) 216).toInt else if s = 21 then (nt_I M (pl 14) 428).toInt else if s = 22 then (nt_I M (pl 14) 640).toInt else if s = 23 then b0.toInt else if s = 24 then b1.toInt else v s, fun s hs => by dsimp only; rw [if_neg (by omega), if_neg (by omega), if_neg (by omega), if_neg (by omega), if_neg (by omega), if_neg (by omega), if_neg (by omega), if_neg (by omega), if_neg (by omega), if_neg (by omega), if_neg (by omega), if_neg (by omega), if_neg (by omega), if_neg (by omega)], rfl, rfl, rfl, rfl, rfl, rfl, rfl, rfl, rfl, rfl, rfl, rfl, rfl, rfl⟩
  have hij := ly_ij (K := kk_wd_n_lacks) rfl hB
  have hon := ly_app (K := kk_wd_n_lacks) (ed := []) (ec := [((31, (1, [])), (0, [(11, 1)])), ((31, (2, [])), (0, [(12, 1)])), ((4, (0, [])), (0, [(13, 1)])), ((4, (4, [])), (0, [(14, 1)])), ((14, (0, [])), (0, [(15, 1)])), ((14, (212, [])), (0, [(16, 1)])), ((14, (424, [])), (0, [(17, 1)])), ((14, (636, [])), (0, [(18, 1)])), ((14, (4, [])), (0, [(19, 1)])), ((14, (216, [])), (0, [(20, 1)])), ((14, (428, [])), (0, [(21, 1)])), ((14, (640, [])), (0, [(22, 1)]))]) (er := []) rfl hB (fun _ _ => rfl) hr hij ly_nil (lw_oiC (g := 31) (j := 1) (by show 31 < 66; decide) (by decide) (by dsimp only; rw [sx_s_e]; exact h11.symm) (lw_oiC (g := 31) (j := 2) (by show 31 < 66; decide) (by decide) (by dsimp only; rw [sx_s_e]; exact h12.symm) (lw_oiC (g := 4) (j := 0) (by show 4 < 66; decide) (by decide) (by dsimp only; rw [sx_s_e]; exact h13.symm) (lw_oiC (g := 4) (j := 4) (by show 4 < 66; decide) (by decide) (by dsimp only; rw [sx_s_e]; exact h14.symm) (lw_oiC (g := 14) (j := 0) (by show 14 < 66; decide) (by decide) (by dsimp only; rw [sx_s_e]; exact h15.symm) (lw_oiC (g := 14) (j := 212) (by show 14 < 66; decide) (by decide) (by dsimp only; rw [sx_s_e]; exact h16.symm) (lw_oiC (g := 14) (j := 424) (by show 14 < 66; decide) (by decide) (by dsimp only; rw [sx_s_e]; exact h17.symm) (lw_oiC (g := 14) (j := 636) (by show 14 < 66; decide) (by decide) (by dsimp only; rw [sx_s_e]; exact h18.symm) (lw_oiC (g := 14) (j := 4) (by show 14 < 66; decide) (by decide) (by dsimp only; rw [sx_s_e]; exact h19.symm) (lw_oiC (g := 14) (j := 216) (by show 14 < 66; decide) (by decide) (by dsimp only; rw [sx_s_e]; exact h20.symm) (lw_oiC (g := 14) (j := 428) (by show 14 < 66; decide) (by decide) (by dsimp only; rw [sx_s_e]; exact h21.symm) (lw_oiC (g := 14) (j := 640) (by show 14 < 66; decide) (by decide) (by dsimp only; rw [sx_s_e]; exact h22.symm) (lw_oiN))))))))))))) (fun q hq => by cases hq) (ly_oba (ly_obr hr (ly_ob hB)) (ly_oba (ly_ob1 (by rw [h11]; exact hb11)) (ly_oba (ly_obI (x := nt_I M (pl 31) 2) h12) (ly_oba (ly_ob1 (by rw [h13]; exact hb13)) (ly_oba (ly_obI (x := nt_I M (pl 4) 4) h14) (ly_oba (ly_obI (x := nt_I M (pl 14) 0) h15) (ly_oba (ly_obI (x := nt_I M (pl 14) 212) h16) (ly_oba (ly_obI (x := nt_I M (pl 14) 424) h17) (ly_oba (ly_obI (x := nt_I M (pl 14) 636) h18) (ly_oba (ly_obI (x := nt_I M (pl 14) 4) h19) (ly_oba (ly_obI (x := nt_I M (pl 14) 216) h20) (ly_oba (ly_obI (x := nt_I M (pl 14) 428) h21) (ly_oba (ly_obI (x := nt_I M (pl 14) 640) h22) (ly_oba (ly_obI h23) (ly_obI h24))))))))))))))) ly_oc0
  obtain ⟨p, hp, r', h2, h3⟩ := lw_app (ko_wd_n_lacks X) rfl hd hon (vs := [.ref (pl 16), .int b0, .int b1]) ⟨rfl, ⟨b0, rfl, (ly_e1 h23).symm⟩, ⟨b1, rfl, (ly_e1 h24).symm⟩, trivial⟩ k
  have hr' : ∀ s, s < 25 → r' s = r s := fun s hs => h3.2.2.2.2.2.1 s hs
  obtain ⟨ov, M'⟩ := o
  rw [List.mem_singleton.mp hp] at h2 h3
  cases ov with
  | none => exact h2.elim
  | some w =>
    obtain ⟨y, rfl, hy⟩ := h2
    have hy : y.toInt = 0 + (1 * r' 25 + (0)) := hy
    have e0 : (nt_I M' (pl 31) 1).toInt = 0 + (1 * r' 11 + (0)) := lw_rd (g := 31) (j := 1) h3.2.2.1 (List.mem_of_getElem? (i := 0) rfl) (by decide)
    have e1 : (nt_I M' (pl 31) 2).toInt = 0 + (1 * r' 12 + (0)) := lw_rd (g := 31) (j := 2) h3.2.2.1 (List.mem_of_getElem? (i := 1) rfl) (by decide)
    have e2 : (nt_I M' (pl 4) 0).toInt = 0 + (1 * r' 13 + (0)) := lw_rd (g := 4) (j := 0) h3.2.2.1 (List.mem_of_getElem? (i := 2) rfl) (by decide)
    have e3 : (nt_I M' (pl 4) 4).toInt = 0 + (1 * r' 14 + (0)) := lw_rd (g := 4) (j := 4) h3.2.2.1 (List.mem_of_getElem? (i := 3) rfl) (by decide)
    have e4 : (nt_I M' (pl 14) 0).toInt = 0 + (1 * r' 15 + (0)) := lw_rd (g := 14) (j := 0) h3.2.2.1 (List.mem_of_getElem? (i := 4) rfl) (by decide)
    have e5 : (nt_I M' (pl 14) 212).toInt = 0 + (1 * r' 16 + (0)) := lw_rd (g := 14) (j := 212) h3.2.2.1 (List.mem_of_getElem? (i := 5) rfl) (by decide)
    have e6 : (nt_I M' (pl 14) 424).toInt = 0 + (1 * r' 17 + (0)) := lw_rd (g := 14) (j := 424) h3.2.2.1 (List.mem_of_getElem? (i := 6) rfl) (by decide)
    have e7 : (nt_I M' (pl 14) 636).toInt = 0 + (1 * r' 18 + (0)) := lw_rd (g := 14) (j := 636) h3.2.2.1 (List.mem_of_getElem? (i := 7) rfl) (by decide)
    have e8 : (nt_I M' (pl 14) 4).toInt = 0 + (1 * r' 19 + (0)) := lw_rd (g := 14) (j := 4) h3.2.2.1 (List.mem_of_getElem? (i := 8) rfl) (by decide)
    have e9 : (nt_I M' (pl 14) 216).toInt = 0 + (1 * r' 20 + (0)) := lw_rd (g := 14) (j := 216) h3.2.2.1 (List.mem_of_getElem? (i := 9) rfl) (by decide)
    have e10 : (nt_I M' (pl 14) 428).toInt = 0 + (1 * r' 21 + (0)) := lw_rd (g := 14) (j := 428) h3.2.2.1 (List.mem_of_getElem? (i := 10) rfl) (by decide)
    have e11 : (nt_I M' (pl 14) 640).toInt = 0 + (1 * r' 22 + (0)) := lw_rd (g := 14) (j := 640) h3.2.2.1 (List.mem_of_getElem? (i := 11) rfl) (by decide)
    have g11 := hr' 11 (by omega)
    rw [h11] at g11
    have g12 := hr' 12 (by omega)
    rw [h12] at g12
    have g13 := hr' 13 (by omega)
    rw [h13] at g13
    have g14 := hr' 14 (by omega)
    rw [h14] at g14
    have g15 := hr' 15 (by omega)
    rw [h15] at g15
    have g16 := hr' 16 (by omega)
    rw [h16] at g16
    have g17 := hr' 17 (by omega)
    rw [h17] at g17
    have g18 := hr' 18 (by omega)
    rw [h18] at g18
    have g19 := hr' 19 (by omega)
    rw [h19] at g19
    have g20 := hr' 20 (by omega)
    rw [h20] at g20
    have g21 := hr' 21 (by omega)
    rw [h21] at g21
    have g22 := hr' 22 (by omega)
    rw [h22] at g22
    exact ⟨y, M', rfl, ⟨e0.trans (lw_s g11), e1.trans (lw_s g12), e2.trans (lw_s g13), e3.trans (lw_s g14), e4.trans (lw_s g15), e5.trans (lw_s g16), e6.trans (lw_s g17), e7.trans (lw_s g18), e8.trans (lw_s g19), e9.trans (lw_s g20), e10.trans (lw_s g21), e11.trans (lw_s g22)⟩⟩
theorem lwd_lacks {X : nt_X} {pl : Nat → Nat} {v : Nat → Int} {M : nt_M} {d : Nat} {o : Option Value × nt_M} {b0 b1 : Int32} (hd : 4 ≤ d) (hB : ly_B pl v M) (hb11 : (0 : Int) ≤ (nt_I M (pl 31) 1).toInt ∧ (nt_I M (pl 31) 1).toInt ≤ 1) (hb13 : (0 : Int) ≤ (nt_I M (pl 4) 0).toInt ∧ (nt_I M (pl 4) 0).toInt ≤ 4) (k : nt_ev X d 203 [.ref (pl 0), .int b0, .int b1] M o) : ∃ (y : Int32) (M' : nt_M), o = (some (.int y), M') ∧ (((nt_I M' (pl 31) 1).toInt = (nt_I M (pl 31) 1).toInt ∧ (nt_I M' (pl 31) 2).toInt = (nt_I M (pl 31) 2).toInt ∧ (nt_I M' (pl 4) 0).toInt = (nt_I M (pl 4) 0).toInt ∧ (nt_I M' (pl 4) 4).toInt = (nt_I M (pl 4) 4).toInt ∧ (nt_I M' (pl 14) 0).toInt = (nt_I M (pl 14) 0).toInt ∧ (nt_I M' (pl 14) 212).toInt = (nt_I M (pl 14) 212).toInt ∧ (nt_I M' (pl 14) 424).toInt = (nt_I M (pl 14) 424).toInt ∧ (nt_I M' (pl 14) 636).toInt = (nt_I M (pl 14) 636).toInt ∧ (nt_I M' (pl 14) 4).toInt = (nt_I M (pl 14) 4).toInt ∧ (nt_I M' (pl 14) 216).toInt = (nt_I M (pl 14) 216).toInt ∧ (nt_I M' (pl 14) 428).toInt = (nt_I M (pl 14) 428).toInt ∧ (nt_I M' (pl 14) 640).toInt = (nt_I M (pl 14) 640).toInt)) := by
  obtain ⟨r, hr, h11, h12, h13, h14, h15, h16, h17, h18, h19, h20, h21, h22, h23, h24⟩ : ∃ r : Nat → Int, (∀ s, s < 11 → r s = v s) ∧ r 11 = (nt_I M (pl 31) 1).toInt ∧ r 12 = (nt_I M (pl 31) 2).toInt ∧ r 13 = (nt_I M (pl 4) 0).toInt ∧ r 14 = (nt_I M (pl 4) 4).toInt ∧ r 15 = (nt_I M (pl 14) 0).toInt ∧ r 16 = (nt_I M (pl 14) 212).toInt ∧ r 17 = (nt_I M (pl 14) 424).toInt ∧ r 18 = (nt_I M (pl 14) 636).toInt ∧ r 19 = (nt_I M (pl 14) 4).toInt ∧ r 20 = (nt_I M (pl 14) 216).toInt ∧ r 21 = (nt_I M (pl 14) 428).toInt ∧ r 22 = (nt_I M (pl 14) 640).toInt ∧ r 23 = b0.toInt ∧ r 24 = b1.toInt := ⟨fun s => if s = 11 then (nt_I M (pl 31) 1).toInt else if s = 12 then (nt_I M (pl 31) 2).toInt else if s = 13 then (nt_I M (pl 4) 0).toInt else if s = 14 then (nt_I M (pl 4) 4).toInt else if s = 15 then (nt_I M (pl 14) 0).toInt else if s = 16 then (nt_I M (pl 14) 212).toInt else if s = 17 then (nt_I M (pl 14) 424).toInt else if s = 18 then (nt_I M (pl 14) 636).toInt else if s = 19 then (nt_I M (pl 14) 4).toInt else if s = 20 then (nt_I M (pl 14) 216).toInt else if s = 21 then (nt_I M (pl 14) 428).toInt else if s = 22 then (nt_I M (pl 14) 640).toInt else if s = 23 then b0.toInt else if s = 24 then b1.toInt else v s, fun s hs => by dsimp only; rw [if_neg (by omega), if_neg (by omega), if_neg (by omega), if_neg (by omega), if_neg (by omega), if_neg (by omega), if_neg (by omega), if_neg (by omega), if_neg (by omega), if_neg (by omega), if_neg (by omega), if_neg (by omega), if_neg (by omega), if_neg (by omega)], rfl, rfl, rfl, rfl, rfl, rfl, rfl, rfl, rfl, rfl, rfl, rfl, rfl, rfl⟩
  have hij := ly_ij (K := kk_wd_lacks) rfl hB
  have hon := ly_app (K := kk_wd_lacks) (ed := []) (ec := [((31, (1, [])), (0, [(11, 1)])), ((31, (2, [])), (0, [(12, 1)])), ((4, (0, [])), (0, [(13, 1)])), ((4, (4, [])), (0, [(14, 1)])), ((14, (0, [])), (0, [(15, 1)])), ((14, (212, [])), (0, [(16, 1)])), ((14, (424, [])), (0, [(17, 1)])), ((14, (636, [])), (0, [(18, 1)])), ((14, (4, [])), (0, [(19, 1)])), ((14, (216, [])), (0, [(20, 1)])), ((14, (428, [])), (0, [(21, 1)])), ((14, (640, [])), (0, [(22, 1)]))]) (er := []) rfl hB (fun _ _ => rfl) hr hij ly_nil (lw_oiC (g := 31) (j := 1) (by show 31 < 66; decide) (by decide) (by dsimp only; rw [sx_s_e]; exact h11.symm) (lw_oiC (g := 31) (j := 2) (by show 31 < 66; decide) (by decide) (by dsimp only; rw [sx_s_e]; exact h12.symm) (lw_oiC (g := 4) (j := 0) (by show 4 < 66; decide) (by decide) (by dsimp only; rw [sx_s_e]; exact h13.symm) (lw_oiC (g := 4) (j := 4) (by show 4 < 66; decide) (by decide) (by dsimp only; rw [sx_s_e]; exact h14.symm) (lw_oiC (g := 14) (j := 0) (by show 14 < 66; decide) (by decide) (by dsimp only; rw [sx_s_e]; exact h15.symm) (lw_oiC (g := 14) (j := 212) (by show 14 < 66; decide) (by decide) (by dsimp only; rw [sx_s_e]; exact h16.symm) (lw_oiC (g := 14) (j := 424) (by show 14 < 66; decide) (by decide) (by dsimp only; rw [sx_s_e]; exact h17.symm) (lw_oiC (g := 14) (j := 636) (by show 14 < 66; decide) (by decide) (by dsimp only; rw [sx_s_e]; exact h18.symm) (lw_oiC (g := 14) (j := 4) (by show 14 < 66; decide) (by decide) (by dsimp only; rw [sx_s_e]; exact h19.symm) (lw_oiC (g := 14) (j := 216) (by show 14 < 66; decide) (by decide) (by dsimp only; rw [sx_s_e]; exact h20.symm) (lw_oiC (g := 14) (j := 428) (by show 14 < 66; decide) (by decide) (by dsimp only; rw [sx_s_e]; exact h21.symm) (lw_oiC (g := 14) (j := 640) (by show 14 < 66; decide) (by decide) (by dsimp only; rw [sx_s_e]; exact h22.symm) (lw_oiN))))))))))))) (fun q hq => by cases hq) (ly_oba (ly_obr hr (ly_ob hB)) (ly_oba (ly_ob1 (by rw [h11]; exact hb11)) (ly_oba (ly_obI (x := nt_I M (pl 31) 2) h12) (ly_oba (ly_ob1 (by rw [h13]; exact hb13)) (ly_oba (ly_obI (x := nt_I M (pl 4) 4) h14) (ly_oba (ly_obI (x := nt_I M (pl 14) 0) h15) (ly_oba (ly_obI (x := nt_I M (pl 14) 212) h16) (ly_oba (ly_obI (x := nt_I M (pl 14) 424) h17) (ly_oba (ly_obI (x := nt_I M (pl 14) 636) h18) (ly_oba (ly_obI (x := nt_I M (pl 14) 4) h19) (ly_oba (ly_obI (x := nt_I M (pl 14) 216) h20) (ly_oba (ly_obI (x := nt_I M (pl 14) 428) h21) (ly_oba (ly_obI (x := nt_I M (pl 14) 640) h22) (ly_oba (ly_obI h23) (ly_obI h24))))))))))))))) ly_oc0
  obtain ⟨p, hp, r', h2, h3⟩ := lw_app (ko_wd_lacks X) rfl hd hon (vs := [.ref (pl 0), .int b0, .int b1]) ⟨rfl, ⟨b0, rfl, (ly_e1 h23).symm⟩, ⟨b1, rfl, (ly_e1 h24).symm⟩, trivial⟩ k
  have hr' : ∀ s, s < 25 → r' s = r s := fun s hs => h3.2.2.2.2.2.1 s hs
  obtain ⟨ov, M'⟩ := o
  rw [List.mem_singleton.mp hp] at h2 h3
  cases ov with
  | none => exact h2.elim
  | some w =>
    obtain ⟨y, rfl, hy⟩ := h2
    have hy : y.toInt = 0 + (1 * r' 25 + (0)) := hy
    have e0 : (nt_I M' (pl 31) 1).toInt = 0 + (1 * r' 11 + (0)) := lw_rd (g := 31) (j := 1) h3.2.2.1 (List.mem_of_getElem? (i := 0) rfl) (by decide)
    have e1 : (nt_I M' (pl 31) 2).toInt = 0 + (1 * r' 12 + (0)) := lw_rd (g := 31) (j := 2) h3.2.2.1 (List.mem_of_getElem? (i := 1) rfl) (by decide)
    have e2 : (nt_I M' (pl 4) 0).toInt = 0 + (1 * r' 13 + (0)) := lw_rd (g := 4) (j := 0) h3.2.2.1 (List.mem_of_getElem? (i := 2) rfl) (by decide)
    have e3 : (nt_I M' (pl 4) 4).toInt = 0 + (1 * r' 14 + (0)) := lw_rd (g := 4) (j := 4) h3.2.2.1 (List.mem_of_getElem? (i := 3) rfl) (by decide)
    have e4 : (nt_I M' (pl 14) 0).toInt = 0 + (1 * r' 15 + (0)) := lw_rd (g := 14) (j := 0) h3.2.2.1 (List.mem_of_getElem? (i := 4) rfl) (by decide)
    have e5 : (nt_I M' (pl 14) 212).toInt = 0 + (1 * r' 16 + (0)) := lw_rd (g := 14) (j := 212) h3.2.2.1 (List.mem_of_getElem? (i := 5) rfl) (by decide)
    have e6 : (nt_I M' (pl 14) 424).toInt = 0 + (1 * r' 17 + (0)) := lw_rd (g := 14) (j := 424) h3.2.2.1 (List.mem_of_getElem? (i := 6) rfl) (by decide)
    have e7 : (nt_I M' (pl 14) 636).toInt = 0 + (1 * r' 18 + (0)) := lw_rd (g := 14) (j := 636) h3.2.2.1 (List.mem_of_getElem? (i := 7) rfl) (by decide)
    have e8 : (nt_I M' (pl 14) 4).toInt = 0 + (1 * r' 19 + (0)) := lw_rd (g := 14) (j := 4) h3.2.2.1 (List.mem_of_getElem? (i := 8) rfl) (by decide)
    have e9 : (nt_I M' (pl 14) 216).toInt = 0 + (1 * r' 20 + (0)) := lw_rd (g := 14) (j := 216) h3.2.2.1 (List.mem_of_getElem? (i := 9) rfl) (by decide)
    have e10 : (nt_I M' (pl 14) 428).toInt = 0 + (1 * r' 21 + (0)) := lw_rd (g := 14) (j := 428) h3.2.2.1 (List.mem_of_getElem? (i := 10) rfl) (by decide)
    have e11 : (nt_I M' (pl 14) 640).toInt = 0 + (1 * r' 22 + (0)) := lw_rd (g := 14) (j := 640) h3.2.2.1 (List.mem_of_getElem? (i := 11) rfl) (by decide)
    have g11 := hr' 11 (by omega)
    rw [h11] at g11
    have g12 := hr' 12 (by omega)
    rw [h12] at g12
    have g13 := hr' 13 (by omega)
    rw [h13] at g13
    have g14 := hr' 14 (by omega)
    rw [h14] at g14
    have g15 := hr' 15 (by omega)
    rw [h15] at g15
    have g16 := hr' 16 (by omega)
    rw [h16] at g16
    have g17 := hr' 17 (by omega)
    rw [h17] at g17
    have g18 := hr' 18 (by omega)
    rw [h18] at g18
    have g19 := hr' 19 (by omega)
    rw [h19] at g19
    have g20 := hr' 20 (by omega)
    rw [h20] at g20
    have g21 := hr' 21 (by omega)
    rw [h21] at g21
    have g22 := hr' 22 (by omega)
    rw [h22] at g22
    exact ⟨y, M', rfl, ⟨e0.trans (lw_s g11), e1.trans (lw_s g12), e2.trans (lw_s g13), e3.trans (lw_s g14), e4.trans (lw_s g15), e5.trans (lw_s g16), e6.trans (lw_s g17), e7.trans (lw_s g18), e8.trans (lw_s g19), e9.trans (lw_s g20), e10.trans (lw_s g21), e11.trans (lw_s g22)⟩⟩
theorem lwd_n_together {X : nt_X} {pl : Nat → Nat} {v : Nat → Int} {M : nt_M} {d : Nat} {o : Option Value × nt_M} {b0 : Int32} (hd : 4 ≤ d) (hB : ly_B pl v M) (hb11 : (0 : Int) ≤ (nt_I M (pl 31) 1).toInt ∧ (nt_I M (pl 31) 1).toInt ≤ 1) (hb13 : (0 : Int) ≤ (nt_I M (pl 4) 0).toInt ∧ (nt_I M (pl 4) 0).toInt ≤ 4) (k : nt_ev X d 114 [.ref (pl 16), .int b0] M o) : ∃ (y : Int32) (M' : nt_M), o = (some (.int y), M') ∧ (((nt_I M' (pl 31) 1).toInt = (nt_I M (pl 31) 1).toInt ∧ (nt_I M' (pl 31) 2).toInt = (nt_I M (pl 31) 2).toInt ∧ (nt_I M' (pl 4) 0).toInt = (nt_I M (pl 4) 0).toInt ∧ (nt_I M' (pl 4) 4).toInt = (nt_I M (pl 4) 4).toInt ∧ (nt_I M' (pl 14) 0).toInt = (nt_I M (pl 14) 0).toInt ∧ (nt_I M' (pl 14) 212).toInt = (nt_I M (pl 14) 212).toInt ∧ (nt_I M' (pl 14) 424).toInt = (nt_I M (pl 14) 424).toInt ∧ (nt_I M' (pl 14) 636).toInt = (nt_I M (pl 14) 636).toInt ∧ (nt_I M' (pl 14) 4).toInt = (nt_I M (pl 14) 4).toInt ∧ (nt_I M' (pl 14) 216).toInt = (nt_I M (pl 14) 216).toInt ∧ (nt_I M' (pl 14) 428).toInt = (nt_I M (pl 14) 428).toInt ∧ (nt_I M' (pl 14) 640).toInt = (nt_I M (pl 14) 640).toInt)) := by
  obtain ⟨r, hr, h11, h12, h13, h14, h15, h16, h17, h18, h19, h20, h21, h22, h23⟩ : ∃ r : Nat → Int, (∀ s, s < 11 → r s = v s) ∧ r 11 = (nt_I M (pl 31) 1).toInt ∧ r 12 = (nt_I M (pl 31) 2).toInt ∧ r 13 = (nt_I M (pl 4) 0).toInt ∧ r 14 = (nt_I M (pl 4) 4).toInt ∧ r 15 = (nt_I M (pl 14) 0).toInt ∧ r 16 = (nt_I M (pl 14) 212).toInt ∧ r 17 = (nt_I M (pl 14) 424).toInt ∧ r 18 = (nt_I M (pl 14) 636).toInt ∧ r 19 = (nt_I M (pl 14) 4).toInt ∧ r 20 = (nt_I M (pl 14) 216).toInt ∧ r 21 = (nt_I M (pl 14) 428).toInt ∧ r 22 = (nt_I M (pl 14) 640).toInt ∧ r 23 = b0.toInt := ⟨fun s => if s = 11 then (nt_I M (pl 31) 1).toInt else if s = 12 then (nt_I M (pl 31) 2).toInt else if s = 13 then (nt_I M (pl 4) 0).toInt else if s = 14 then (nt_I M (pl 4) 4).toInt else if s = 15 then (nt_I M (pl 14) 0).toInt else if s = 16 then (nt_I M (pl 14) 212).toInt else if s = 17 then (nt_I M (pl 14) 424).toInt else if s = 18 then (nt_I M (pl 14) 636).toInt else if s = 19 then (nt_I M (pl 14) 4).toInt else if s = 20 then (nt_I M (pl 14) 216).toInt else if s = 21 then (nt_I M (pl 14) 428).toInt else if s = 22 then (nt_I M (pl 14) 640).toInt else if s = 23 then b0.toInt else v s, fun s hs => by dsimp only; rw [if_neg (by omega), if_neg (by omega), if_neg (by omega), if_neg (by omega), if_neg (by omega), if_neg (by omega), if_neg (by omega), if_neg (by omega), if_neg (by omega), if_neg (by omega), if_neg (by omega), if_neg (by omega), if_neg (by omega)], rfl, rfl, rfl, rfl, rfl, rfl, rfl, rfl, rfl, rfl, rfl, rfl, rfl⟩
  have hij := ly_ij (K := kk_wd_n_together) rfl hB
  have hon := ly_app (K := kk_wd_n_together) (ed := []) (ec := [((31, (1, [])), (0, [(11, 1)])), ((31, (2, [])), (0, [(12, 1)])), ((4, (0, [])), (0, [(13, 1)])), ((4, (4, [])), (0, [(14, 1)])), ((14, (0, [])), (0, [(15, 1)])), ((14, (212, [])), (0, [(16, 1)])), ((14, (424, [])), (0, [(17, 1)])), ((14, (636, [])), (0, [(18, 1)])), ((14, (4, [])), (0, [(19, 1)])), ((14, (216, [])), (0, [(20, 1)])), ((14, (428, [])), (0, [(21, 1)])), ((14, (640, [])), (0, [(22, 1)]))]) (er := []) rfl hB (fun _ _ => rfl) hr hij ly_nil (lw_oiC (g := 31) (j := 1) (by show 31 < 66; decide) (by decide) (by dsimp only; rw [sx_s_e]; exact h11.symm) (lw_oiC (g := 31) (j := 2) (by show 31 < 66; decide) (by decide) (by dsimp only; rw [sx_s_e]; exact h12.symm) (lw_oiC (g := 4) (j := 0) (by show 4 < 66; decide) (by decide) (by dsimp only; rw [sx_s_e]; exact h13.symm) (lw_oiC (g := 4) (j := 4) (by show 4 < 66; decide) (by decide) (by dsimp only; rw [sx_s_e]; exact h14.symm) (lw_oiC (g := 14) (j := 0) (by show 14 < 66; decide) (by decide) (by dsimp only; rw [sx_s_e]; exact h15.symm) (lw_oiC (g := 14) (j := 212) (by show 14 < 66; decide) (by decide) (by dsimp only; rw [sx_s_e]; exact h16.symm) (lw_oiC (g := 14) (j := 424) (by show 14 < 66; decide) (by decide) (by dsimp only; rw [sx_s_e]; exact h17.symm) (lw_oiC (g := 14) (j := 636) (by show 14 < 66; decide) (by decide) (by dsimp only; rw [sx_s_e]; exact h18.symm) (lw_oiC (g := 14) (j := 4) (by show 14 < 66; decide) (by decide) (by dsimp only; rw [sx_s_e]; exact h19.symm) (lw_oiC (g := 14) (j := 216) (by show 14 < 66; decide) (by decide) (by dsimp only; rw [sx_s_e]; exact h20.symm) (lw_oiC (g := 14) (j := 428) (by show 14 < 66; decide) (by decide) (by dsimp only; rw [sx_s_e]; exact h21.symm) (lw_oiC (g := 14) (j := 640) (by show 14 < 66; decide) (by decide) (by dsimp only; rw [sx_s_e]; exact h22.symm) (lw_oiN))))))))))))) (fun q hq => by cases hq) (ly_oba (ly_obr hr (ly_ob hB)) (ly_oba (ly_ob1 (by rw [h11]; exact hb11)) (ly_oba (ly_obI (x := nt_I M (pl 31) 2) h12) (ly_oba (ly_ob1 (by rw [h13]; exact hb13)) (ly_oba (ly_obI (x := nt_I M (pl 4) 4) h14) (ly_oba (ly_obI (x := nt_I M (pl 14) 0) h15) (ly_oba (ly_obI (x := nt_I M (pl 14) 212) h16) (ly_oba (ly_obI (x := nt_I M (pl 14) 424) h17) (ly_oba (ly_obI (x := nt_I M (pl 14) 636) h18) (ly_oba (ly_obI (x := nt_I M (pl 14) 4) h19) (ly_oba (ly_obI (x := nt_I M (pl 14) 216) h20) (ly_oba (ly_obI (x := nt_I M (pl 14) 428) h21) (ly_oba (ly_obI (x := nt_I M (pl 14) 640) h22) (ly_obI h23)))))))))))))) ly_oc0
  obtain ⟨p, hp, r', h2, h3⟩ := lw_app (ko_wd_n_together X) rfl hd hon (vs := [.ref (pl 16), .int b0]) ⟨rfl, ⟨b0, rfl, (ly_e1 h23).symm⟩, trivial⟩ k
  have hr' : ∀ s, s < 24 → r' s = r s := fun s hs => h3.2.2.2.2.2.1 s hs
  obtain ⟨ov, M'⟩ := o
  rw [List.mem_singleton.mp hp] at h2 h3
  cases ov with
  | none => exact h2.elim
  | some w =>
    obtain ⟨y, rfl, hy⟩ := h2
    have hy : y.toInt = 0 + (1 * r' 24 + (0)) := hy
    have e0 : (nt_I M' (pl 31) 1).toInt = 0 + (1 * r' 11 + (0)) := lw_rd (g := 31) (j := 1) h3.2.2.1 (List.mem_of_getElem? (i := 0) rfl) (by decide)
    have e1 : (nt_I M' (pl 31) 2).toInt = 0 + (1 * r' 12 + (0)) := lw_rd (g := 31) (j := 2) h3.2.2.1 (List.mem_of_getElem? (i := 1) rfl) (by decide)
    have e2 : (nt_I M' (pl 4) 0).toInt = 0 + (1 * r' 13 + (0)) := lw_rd (g := 4) (j := 0) h3.2.2.1 (List.mem_of_getElem? (i := 2) rfl) (by decide)
    have e3 : (nt_I M' (pl 4) 4).toInt = 0 + (1 * r' 14 + (0)) := lw_rd (g := 4) (j := 4) h3.2.2.1 (List.mem_of_getElem? (i := 3) rfl) (by decide)
    have e4 : (nt_I M' (pl 14) 0).toInt = 0 + (1 * r' 15 + (0)) := lw_rd (g := 14) (j := 0) h3.2.2.1 (List.mem_of_getElem? (i := 4) rfl) (by decide)
    have e5 : (nt_I M' (pl 14) 212).toInt = 0 + (1 * r' 16 + (0)) := lw_rd (g := 14) (j := 212) h3.2.2.1 (List.mem_of_getElem? (i := 5) rfl) (by decide)
    have e6 : (nt_I M' (pl 14) 424).toInt = 0 + (1 * r' 17 + (0)) := lw_rd (g := 14) (j := 424) h3.2.2.1 (List.mem_of_getElem? (i := 6) rfl) (by decide)
    have e7 : (nt_I M' (pl 14) 636).toInt = 0 + (1 * r' 18 + (0)) := lw_rd (g := 14) (j := 636) h3.2.2.1 (List.mem_of_getElem? (i := 7) rfl) (by decide)
    have e8 : (nt_I M' (pl 14) 4).toInt = 0 + (1 * r' 19 + (0)) := lw_rd (g := 14) (j := 4) h3.2.2.1 (List.mem_of_getElem? (i := 8) rfl) (by decide)
    have e9 : (nt_I M' (pl 14) 216).toInt = 0 + (1 * r' 20 + (0)) := lw_rd (g := 14) (j := 216) h3.2.2.1 (List.mem_of_getElem? (i := 9) rfl) (by decide)
    have e10 : (nt_I M' (pl 14) 428).toInt = 0 + (1 * r' 21 + (0)) := lw_rd (g := 14) (j := 428) h3.2.2.1 (List.mem_of_getElem? (i := 10) rfl) (by decide)
    have e11 : (nt_I M' (pl 14) 640).toInt = 0 + (1 * r' 22 + (0)) := lw_rd (g := 14) (j := 640) h3.2.2.1 (List.mem_of_getElem? (i := 11) rfl) (by decide)
    have g11 := hr' 11 (by omega)
    rw [h11] at g11
    have g12 := hr' 12 (by omega)
    rw [h12] at g12
    have g13 := hr' 13 (by omega)
    rw [h13] at g13
    have g14 := hr' 14 (by omega)
    rw [h14] at g14
    have g15 := hr' 15 (by omega)
    rw [h15] at g15
    have g16 := hr' 16 (by omega)
    rw [h16] at g16
    have g17 := hr' 17 (by omega)
    rw [h17] at g17
    have g18 := hr' 18 (by omega)
    rw [h18] at g18
    have g19 := hr' 19 (by omega)
    rw [h19] at g19
    have g20 := hr' 20 (by omega)
    rw [h20] at g20
    have g21 := hr' 21 (by omega)
    rw [h21] at g21
    have g22 := hr' 22 (by omega)
    rw [h22] at g22
    exact ⟨y, M', rfl, ⟨e0.trans (lw_s g11), e1.trans (lw_s g12), e2.trans (lw_s g13), e3.trans (lw_s g14), e4.trans (lw_s g15), e5.trans (lw_s g16), e6.trans (lw_s g17), e7.trans (lw_s g18), e8.trans (lw_s g19), e9.trans (lw_s g20), e10.trans (lw_s g21), e11.trans (lw_s g22)⟩⟩
theorem lwd_together {X : nt_X} {pl : Nat → Nat} {v : Nat → Int} {M : nt_M} {d : Nat} {o : Option Value × nt_M} {b0 : Int32} (hd : 4 ≤ d) (hB : ly_B pl v M) (hb11 : (0 : Int) ≤ (nt_I M (pl 31) 1).toInt ∧ (nt_I M (pl 31) 1).toInt ≤ 1) (hb13 : (0 : Int) ≤ (nt_I M (pl 4) 0).toInt ∧ (nt_I M (pl 4) 0).toInt ≤ 4) (k : nt_ev X d 204 [.ref (pl 0), .int b0] M o) : ∃ (y : Int32) (M' : nt_M), o = (some (.int y), M') ∧ (((nt_I M' (pl 31) 1).toInt = (nt_I M (pl 31) 1).toInt ∧ (nt_I M' (pl 31) 2).toInt = (nt_I M (pl 31) 2).toInt ∧ (nt_I M' (pl 4) 0).toInt = (nt_I M (pl 4) 0).toInt ∧ (nt_I M' (pl 4) 4).toInt = (nt_I M (pl 4) 4).toInt ∧ (nt_I M' (pl 14) 0).toInt = (nt_I M (pl 14) 0).toInt ∧ (nt_I M' (pl 14) 212).toInt = (nt_I M (pl 14) 212).toInt ∧ (nt_I M' (pl 14) 424).toInt = (nt_I M (pl 14) 424).toInt ∧ (nt_I M' (pl 14) 636).toInt = (nt_I M (pl 14) 636).toInt ∧ (nt_I M' (pl 14) 4).toInt = (nt_I M (pl 14) 4).toInt ∧ (nt_I M' (pl 14) 216).toInt = (nt_I M (pl 14) 216).toInt ∧ (nt_I M' (pl 14) 428).toInt = (nt_I M (pl 14) 428).toInt ∧ (nt_I M' (pl 14) 640).toInt = (nt_I M (pl 14) 640).toInt)) := by
  obtain ⟨r, hr, h11, h12, h13, h14, h15, h16, h17, h18, h19, h20, h21, h22, h23⟩ : ∃ r : Nat → Int, (∀ s, s < 11 → r s = v s) ∧ r 11 = (nt_I M (pl 31) 1).toInt ∧ r 12 = (nt_I M (pl 31) 2).toInt ∧ r 13 = (nt_I M (pl 4) 0).toInt ∧ r 14 = (nt_I M (pl 4) 4).toInt ∧ r 15 = (nt_I M (pl 14) 0).toInt ∧ r 16 = (nt_I M (pl 14) 212).toInt ∧ r 17 = (nt_I M (pl 14) 424).toInt ∧ r 18 = (nt_I M (pl 14) 636).toInt ∧ r 19 = (nt_I M (pl 14) 4).toInt ∧ r 20 = (nt_I M (pl 14) 216).toInt ∧ r 21 = (nt_I M (pl 14) 428).toInt ∧ r 22 = (nt_I M (pl 14) 640).toInt ∧ r 23 = b0.toInt := ⟨fun s => if s = 11 then (nt_I M (pl 31) 1).toInt else if s = 12 then (nt_I M (pl 31) 2).toInt else if s = 13 then (nt_I M (pl 4) 0).toInt else if s = 14 then (nt_I M (pl 4) 4).toInt else if s = 15 then (nt_I M (pl 14) 0).toInt else if s = 16 then (nt_I M (pl 14) 212).toInt else if s = 17 then (nt_I M (pl 14) 424).toInt else if s = 18 then (nt_I M (pl 14) 636).toInt else if s = 19 then (nt_I M (pl 14) 4).toInt else if s = 20 then (nt_I M (pl 14) 216).toInt else if s = 21 then (nt_I M (pl 14) 428).toInt else if s = 22 then (nt_I M (pl 14) 640).toInt else if s = 23 then b0.toInt else v s, fun s hs => by dsimp only; rw [if_neg (by omega), if_neg (by omega), if_neg (by omega), if_neg (by omega), if_neg (by omega), if_neg (by omega), if_neg (by omega), if_neg (by omega), if_neg (by omega), if_neg (by omega), if_neg (by omega), if_neg (by omega), if_neg (by omega)], rfl, rfl, rfl, rfl, rfl, rfl, rfl, rfl, rfl, rfl, rfl, rfl, rfl⟩
  have hij := ly_ij (K := kk_wd_together) rfl hB
  have hon := ly_app (K := kk_wd_together) (ed := []) (ec := [((31, (1, [])), (0, [(11, 1)])), ((31, (2, [])), (0, [(12, 1)])), ((4, (0, [])), (0, [(13, 1)])), ((4, (4, [])), (0, [(14, 1)])), ((14, (0, [])), (0, [(15, 1)])), ((14, (212, [])), (0, [(16, 1)])), ((14, (424, [])), (0, [(17, 1)])), ((14, (636, [])), (0, [(18, 1)])), ((14, (4, [])), (0, [(19, 1)])), ((14, (216, [])), (0, [(20, 1)])), ((14, (428, [])), (0, [(21, 1)])), ((14, (640, [])), (0, [(22, 1)]))]) (er := []) rfl hB (fun _ _ => rfl) hr hij ly_nil (lw_oiC (g := 31) (j := 1) (by show 31 < 66; decide) (by decide) (by dsimp only; rw [sx_s_e]; exact h11.symm) (lw_oiC (g := 31) (j := 2) (by show 31 < 66; decide) (by decide) (by dsimp only; rw [sx_s_e]; exact h12.symm) (lw_oiC (g := 4) (j := 0) (by show 4 < 66; decide) (by decide) (by dsimp only; rw [sx_s_e]; exact h13.symm) (lw_oiC (g := 4) (j := 4) (by show 4 < 66; decide) (by decide) (by dsimp only; rw [sx_s_e]; exact h14.symm) (lw_oiC (g := 14) (j := 0) (by show 14 < 66; decide) (by decide) (by dsimp only; rw [sx_s_e]; exact h15.symm) (lw_oiC (g := 14) (j := 212) (by show 14 < 66; decide) (by decide) (by dsimp only; rw [sx_s_e]; exact h16.symm) (lw_oiC (g := 14) (j := 424) (by show 14 < 66; decide) (by decide) (by dsimp only; rw [sx_s_e]; exact h17.symm) (lw_oiC (g := 14) (j := 636) (by show 14 < 66; decide) (by decide) (by dsimp only; rw [sx_s_e]; exact h18.symm) (lw_oiC (g := 14) (j := 4) (by show 14 < 66; decide) (by decide) (by dsimp only; rw [sx_s_e]; exact h19.symm) (lw_oiC (g := 14) (j := 216) (by show 14 < 66; decide) (by decide) (by dsimp only; rw [sx_s_e]; exact h20.symm) (lw_oiC (g := 14) (j := 428) (by show 14 < 66; decide) (by decide) (by dsimp only; rw [sx_s_e]; exact h21.symm) (lw_oiC (g := 14) (j := 640) (by show 14 < 66; decide) (by decide) (by dsimp only; rw [sx_s_e]; exact h22.symm) (lw_oiN))))))))))))) (fun q hq => by cases hq) (ly_oba (ly_obr hr (ly_ob hB)) (ly_oba (ly_ob1 (by rw [h11]; exact hb11)) (ly_oba (ly_obI (x := nt_I M (pl 31) 2) h12) (ly_oba (ly_ob1 (by rw [h13]; exact hb13)) (ly_oba (ly_obI (x := nt_I M (pl 4) 4) h14) (ly_oba (ly_obI (x := nt_I M (pl 14) 0) h15) (ly_oba (ly_obI (x := nt_I M (pl 14) 212) h16) (ly_oba (ly_obI (x := nt_I M (pl 14) 424) h17) (ly_oba (ly_obI (x := nt_I M (pl 14) 636) h18) (ly_oba (ly_obI (x := nt_I M (pl 14) 4) h19) (ly_oba (ly_obI (x := nt_I M (pl 14) 216) h20) (ly_oba (ly_obI (x := nt_I M (pl 14) 428) h21) (ly_oba (ly_obI (x := nt_I M (pl 14) 640) h22) (ly_obI h23)))))))))))))) ly_oc0
  obtain ⟨p, hp, r', h2, h3⟩ := lw_app (ko_wd_together X) rfl hd hon (vs := [.ref (pl 0), .int b0]) ⟨rfl, ⟨b0, rfl, (ly_e1 h23).symm⟩, trivial⟩ k
  have hr' : ∀ s, s < 24 → r' s = r s := fun s hs => h3.2.2.2.2.2.1 s hs
  obtain ⟨ov, M'⟩ := o
  rw [List.mem_singleton.mp hp] at h2 h3
  cases ov with
  | none => exact h2.elim
  | some w =>
    obtain ⟨y, rfl, hy⟩ := h2
    have hy : y.toInt = 0 + (1 * r' 24 + (0)) := hy
    have e0 : (nt_I M' (pl 31) 1).toInt = 0 + (1 * r' 11 + (0)) := lw_rd (g := 31) (j := 1) h3.2.2.1 (List.mem_of_getElem? (i := 0) rfl) (by decide)
    have e1 : (nt_I M' (pl 31) 2).toInt = 0 + (1 * r' 12 + (0)) := lw_rd (g := 31) (j := 2) h3.2.2.1 (List.mem_of_getElem? (i := 1) rfl) (by decide)
    have e2 : (nt_I M' (pl 4) 0).toInt = 0 + (1 * r' 13 + (0)) := lw_rd (g := 4) (j := 0) h3.2.2.1 (List.mem_of_getElem? (i := 2) rfl) (by decide)
    have e3 : (nt_I M' (pl 4) 4).toInt = 0 + (1 * r' 14 + (0)) := lw_rd (g := 4) (j := 4) h3.2.2.1 (List.mem_of_getElem? (i := 3) rfl) (by decide)
    have e4 : (nt_I M' (pl 14) 0).toInt = 0 + (1 * r' 15 + (0)) := lw_rd (g := 14) (j := 0) h3.2.2.1 (List.mem_of_getElem? (i := 4) rfl) (by decide)
    have e5 : (nt_I M' (pl 14) 212).toInt = 0 + (1 * r' 16 + (0)) := lw_rd (g := 14) (j := 212) h3.2.2.1 (List.mem_of_getElem? (i := 5) rfl) (by decide)
    have e6 : (nt_I M' (pl 14) 424).toInt = 0 + (1 * r' 17 + (0)) := lw_rd (g := 14) (j := 424) h3.2.2.1 (List.mem_of_getElem? (i := 6) rfl) (by decide)
    have e7 : (nt_I M' (pl 14) 636).toInt = 0 + (1 * r' 18 + (0)) := lw_rd (g := 14) (j := 636) h3.2.2.1 (List.mem_of_getElem? (i := 7) rfl) (by decide)
    have e8 : (nt_I M' (pl 14) 4).toInt = 0 + (1 * r' 19 + (0)) := lw_rd (g := 14) (j := 4) h3.2.2.1 (List.mem_of_getElem? (i := 8) rfl) (by decide)
    have e9 : (nt_I M' (pl 14) 216).toInt = 0 + (1 * r' 20 + (0)) := lw_rd (g := 14) (j := 216) h3.2.2.1 (List.mem_of_getElem? (i := 9) rfl) (by decide)
    have e10 : (nt_I M' (pl 14) 428).toInt = 0 + (1 * r' 21 + (0)) := lw_rd (g := 14) (j := 428) h3.2.2.1 (List.mem_of_getElem? (i := 10) rfl) (by decide)
    have e11 : (nt_I M' (pl 14) 640).toInt = 0 + (1 * r' 22 + (0)) := lw_rd (g := 14) (j := 640) h3.2.2.1 (List.mem_of_getElem? (i := 11) rfl) (by decide)
    have g11 := hr' 11 (by omega)
    rw [h11] at g11
    have g12 := hr' 12 (by omega)
    rw [h12] at g12
    have g13 := hr' 13 (by omega)
    rw [h13] at g13
    have g14 := hr' 14 (by omega)
    rw [h14] at g14
    have g15 := hr' 15 (by omega)
    rw [h15] at g15
    have g16 := hr' 16 (by omega)
    rw [h16] at g16
    have g17 := hr' 17 (by omega)
    rw [h17] at g17
    have g18 := hr' 18 (by omega)
    rw [h18] at g18
    have g19 := hr' 19 (by omega)
    rw [h19] at g19
    have g20 := hr' 20 (by omega)
    rw [h20] at g20
    have g21 := hr' 21 (by omega)
    rw [h21] at g21
    have g22 := hr' 22 (by omega)
    rw [h22] at g22
    exact ⟨y, M', rfl, ⟨e0.trans (lw_s g11), e1.trans (lw_s g12), e2.trans (lw_s g13), e3.trans (lw_s g14), e4.trans (lw_s g15), e5.trans (lw_s g16), e6.trans (lw_s g17), e7.trans (lw_s g18), e8.trans (lw_s g19), e9.trans (lw_s g20), e10.trans (lw_s g21), e11.trans (lw_s g22)⟩⟩
theorem lwd_n_cut {X : nt_X} {pl : Nat → Nat} {v : Nat → Int} {M : nt_M} {d : Nat} {o : Option Value × nt_M} {b0 b1 : Int32} (hd : 4 ≤ d) (hB : ly_B pl v M) (hb11 : (0 : Int) ≤ (nt_I M (pl 31) 1).toInt ∧ (nt_I M (pl 31) 1).toInt ≤ 1) (hb13 : (0 : Int) ≤ (nt_I M (pl 4) 0).toInt ∧ (nt_I M (pl 4) 0).toInt ≤ 4) (k : nt_ev X d 116 [.ref (pl 16), .int b0, .int b1] M o) : ∃ (y : Int32) (M' : nt_M), o = (some (.int y), M') ∧ (((nt_I M' (pl 31) 1).toInt = (nt_I M (pl 31) 1).toInt ∧ (nt_I M' (pl 31) 2).toInt = (nt_I M (pl 31) 2).toInt ∧ (nt_I M' (pl 4) 0).toInt = (nt_I M (pl 4) 0).toInt ∧ (nt_I M' (pl 4) 4).toInt = (nt_I M (pl 4) 4).toInt ∧ (nt_I M' (pl 14) 0).toInt = (nt_I M (pl 14) 0).toInt ∧ (nt_I M' (pl 14) 212).toInt = (nt_I M (pl 14) 212).toInt ∧ (nt_I M' (pl 14) 424).toInt = (nt_I M (pl 14) 424).toInt ∧ (nt_I M' (pl 14) 636).toInt = (nt_I M (pl 14) 636).toInt ∧ (nt_I M' (pl 14) 4).toInt = (nt_I M (pl 14) 4).toInt ∧ (nt_I M' (pl 14) 216).toInt = (nt_I M (pl 14) 216).toInt ∧ (nt_I M' (pl 14) 428).toInt = (nt_I M (pl 14) 428).toInt ∧ (nt_I M' (pl 14) 640).toInt = (nt_I M (pl 14) 640).toInt)) := by
  obtain ⟨r, hr, h11, h12, h13, h14, h15, h16, h17, h18, h19, h20, h21, h22, h23, h24⟩ : ∃ r : Nat → Int, (∀ s, s < 11 → r s = v s) ∧ r 11 = (nt_I M (pl 31) 1).toInt ∧ r 12 = (nt_I M (pl 31) 2).toInt ∧ r 13 = (nt_I M (pl 4) 0).toInt ∧ r 14 = (nt_I M (pl 4) 4).toInt ∧ r 15 = (nt_I M (pl 14) 0).toInt ∧ r 16 = (nt_I M (pl 14) 212).toInt ∧ r 17 = (nt_I M (pl 14) 424).toInt ∧ r 18 = (nt_I M (pl 14) 636).toInt ∧ r 19 = (nt_I M (pl 14) 4).toInt ∧ r 20 = (nt_I M (pl 14) 216).toInt ∧ r 21 = (nt_I M (pl 14) 428).toInt ∧ r 22 = (nt_I M (pl 14) 640).toInt ∧ r 23 = b0.toInt ∧ r 24 = b1.toInt := ⟨fun s => if s = 11 then (nt_I M (pl 31) 1).toInt else if s = 12 then (nt_I M (pl 31) 2).toInt else if s = 13 then (nt_I M (pl 4) 0).toInt else if s = 14 then (nt_I M (pl 4) 4).toInt else if s = 15 then (nt_I M (pl 14) 0).toInt else if s = 16 then (nt_I M (pl 14) 212).toInt else if s = 17 then (nt_I M (pl 14) 424).toInt else if s = 18 then (nt_I M (pl 14) 636).toInt else if s = 19 then (nt_I M (pl 14) 4).toInt else if s = 20 then (nt_I M (pl 14) 216).toInt else if s = 21 then (nt_I M (pl 14) 428).toInt else if s = 22 then (nt_I M (pl 14) 640).toInt else if s = 23 then b0.toInt else if s = 24 then b1.toInt else v s, fun s hs => by dsimp only; rw [if_neg (by omega), if_neg (by omega), if_neg (by omega), if_neg (by omega), if_neg (by omega), if_neg (by omega), if_neg (by omega), if_neg (by omega), if_neg (by omega), if_neg (by omega), if_neg (by omega), if_neg (by omega), if_neg (by omega), if_neg (by omega)], rfl, rfl, rfl, rfl, rfl, rfl, rfl, rfl, rfl, rfl, rfl, rfl, rfl, rfl⟩
  have hij := ly_ij (K := kk_wd_n_cut) rfl hB
  have hon := ly_app (K := kk_wd_n_cut) (ed := []) (ec := [((31, (1, [])), (0, [(11, 1)])), ((31, (2, [])), (0, [(12, 1)])), ((4, (0, [])), (0, [(13, 1)])), ((4, (4, [])), (0, [(14, 1)])), ((14, (0, [])), (0, [(15, 1)])), ((14, (212, [])), (0, [(16, 1)])), ((14, (424, [])), (0, [(17, 1)])), ((14, (636, [])), (0, [(18, 1)])), ((14, (4, [])), (0, [(19, 1)])), ((14, (216, [])), (0, [(20, 1)])), ((14, (428, [])), (0, [(21, 1)])), ((14, (640, [])), (0, [(22, 1)]))]) (er := []) rfl hB (fun _ _ => rfl) hr hij ly_nil (lw_oiC (g := 31) (j := 1) (by show 31 < 66; decide) (by decide) (by dsimp only; rw [sx_s_e]; exact h11.symm) (lw_oiC (g := 31) (j := 2) (by show 31 < 66; decide) (by decide) (by dsimp only; rw [sx_s_e]; exact h12.symm) (lw_oiC (g := 4) (j := 0) (by show 4 < 66; decide) (by decide) (by dsimp only; rw [sx_s_e]; exact h13.symm) (lw_oiC (g := 4) (j := 4) (by show 4 < 66; decide) (by decide) (by dsimp only; rw [sx_s_e]; exact h14.symm) (lw_oiC (g := 14) (j := 0) (by show 14 < 66; decide) (by decide) (by dsimp only; rw [sx_s_e]; exact h15.symm) (lw_oiC (g := 14) (j := 212) (by show 14 < 66; decide) (by decide) (by dsimp only; rw [sx_s_e]; exact h16.symm) (lw_oiC (g := 14) (j := 424) (by show 14 < 66; decide) (by decide) (by dsimp only; rw [sx_s_e]; exact h17.symm) (lw_oiC (g := 14) (j := 636) (by show 14 < 66; decide) (by decide) (by dsimp only; rw [sx_s_e]; exact h18.symm) (lw_oiC (g := 14) (j := 4) (by show 14 < 66; decide) (by decide) (by dsimp only; rw [sx_s_e]; exact h19.symm) (lw_oiC (g := 14) (j := 216) (by show 14 < 66; decide) (by decide) (by dsimp only; rw [sx_s_e]; exact h20.symm) (lw_oiC (g := 14) (j := 428) (by show 14 < 66; decide) (by decide) (by dsimp only; rw [sx_s_e]; exact h21.symm) (lw_oiC (g := 14) (j := 640) (by show 14 < 66; decide) (by decide) (by dsimp only; rw [sx_s_e]; exact h22.symm) (lw_oiN))))))))))))) (fun q hq => by cases hq) (ly_oba (ly_obr hr (ly_ob hB)) (ly_oba (ly_ob1 (by rw [h11]; exact hb11)) (ly_oba (ly_obI (x := nt_I M (pl 31) 2) h12) (ly_oba (ly_ob1 (by rw [h13]; exact hb13)) (ly_oba (ly_obI (x := nt_I M (pl 4) 4) h14) (ly_oba (ly_obI (x := nt_I M (pl 14) 0) h15) (ly_oba (ly_obI (x := nt_I M (pl 14) 212) h16) (ly_oba (ly_obI (x := nt_I M (pl 14) 424) h17) (ly_oba (ly_obI (x := nt_I M (pl 14) 636) h18) (ly_oba (ly_obI (x := nt_I M (pl 14) 4) h19) (ly_oba (ly_obI (x := nt_I M (pl 14) 216) h20) (ly_oba (ly_obI (x := nt_I M (pl 14) 428) h21) (ly_oba (ly_obI (x := nt_I M (pl 14) 640) h22) (ly_oba (ly_obI h23) (ly_obI h24))))))))))))))) ly_oc0
  obtain ⟨p, hp, r', h2, h3⟩ := lw_app (ko_wd_n_cut X) rfl hd hon (vs := [.ref (pl 16), .int b0, .int b1]) ⟨rfl, ⟨b0, rfl, (ly_e1 h23).symm⟩, ⟨b1, rfl, (ly_e1 h24).symm⟩, trivial⟩ k
  have hr' : ∀ s, s < 25 → r' s = r s := fun s hs => h3.2.2.2.2.2.1 s hs
  obtain ⟨ov, M'⟩ := o
  rw [List.mem_singleton.mp hp] at h2 h3
  cases ov with
  | none => exact h2.elim
  | some w =>
    obtain ⟨y, rfl, hy⟩ := h2
    have hy : y.toInt = 0 + (1 * r' 25 + (0)) := hy
    have e0 : (nt_I M' (pl 31) 1).toInt = 0 + (1 * r' 11 + (0)) := lw_rd (g := 31) (j := 1) h3.2.2.1 (List.mem_of_getElem? (i := 0) rfl) (by decide)
    have e1 : (nt_I M' (pl 31) 2).toInt = 0 + (1 * r' 12 + (0)) := lw_rd (g := 31) (j := 2) h3.2.2.1 (List.mem_of_getElem? (i := 1) rfl) (by decide)
    have e2 : (nt_I M' (pl 4) 0).toInt = 0 + (1 * r' 13 + (0)) := lw_rd (g := 4) (j := 0) h3.2.2.1 (List.mem_of_getElem? (i := 2) rfl) (by decide)
    have e3 : (nt_I M' (pl 4) 4).toInt = 0 + (1 * r' 14 + (0)) := lw_rd (g := 4) (j := 4) h3.2.2.1 (List.mem_of_getElem? (i := 3) rfl) (by decide)
    have e4 : (nt_I M' (pl 14) 0).toInt = 0 + (1 * r' 15 + (0)) := lw_rd (g := 14) (j := 0) h3.2.2.1 (List.mem_of_getElem? (i := 4) rfl) (by decide)
    have e5 : (nt_I M' (pl 14) 212).toInt = 0 + (1 * r' 16 + (0)) := lw_rd (g := 14) (j := 212) h3.2.2.1 (List.mem_of_getElem? (i := 5) rfl) (by decide)
    have e6 : (nt_I M' (pl 14) 424).toInt = 0 + (1 * r' 17 + (0)) := lw_rd (g := 14) (j := 424) h3.2.2.1 (List.mem_of_getElem? (i := 6) rfl) (by decide)
    have e7 : (nt_I M' (pl 14) 636).toInt = 0 + (1 * r' 18 + (0)) := lw_rd (g := 14) (j := 636) h3.2.2.1 (List.mem_of_getElem? (i := 7) rfl) (by decide)
    have e8 : (nt_I M' (pl 14) 4).toInt = 0 + (1 * r' 19 + (0)) := lw_rd (g := 14) (j := 4) h3.2.2.1 (List.mem_of_getElem? (i := 8) rfl) (by decide)
    have e9 : (nt_I M' (pl 14) 216).toInt = 0 + (1 * r' 20 + (0)) := lw_rd (g := 14) (j := 216) h3.2.2.1 (List.mem_of_getElem? (i := 9) rfl) (by decide)
    have e10 : (nt_I M' (pl 14) 428).toInt = 0 + (1 * r' 21 + (0)) := lw_rd (g := 14) (j := 428) h3.2.2.1 (List.mem_of_getElem? (i := 10) rfl) (by decide)
    have e11 : (nt_I M' (pl 14) 640).toInt = 0 + (1 * r' 22 + (0)) := lw_rd (g := 14) (j := 640) h3.2.2.1 (List.mem_of_getElem? (i := 11) rfl) (by decide)
    have g11 := hr' 11 (by omega)
    rw [h11] at g11
    have g12 := hr' 12 (by omega)
    rw [h12] at g12
    have g13 := hr' 13 (by omega)
    rw [h13] at g13
    have g14 := hr' 14 (by omega)
    rw [h14] at g14
    have g15 := hr' 15 (by omega)
    rw [h15] at g15
    have g16 := hr' 16 (by omega)
    rw [h16] at g16
    have g17 := hr' 17 (by omega)
    rw [h17] at g17
    have g18 := hr' 18 (by omega)
    rw [h18] at g18
    have g19 := hr' 19 (by omega)
    rw [h19] at g19
    have g20 := hr' 20 (by omega)
    rw [h20] at g20
    have g21 := hr' 21 (by omega)
    rw [h21] at g21
    have g22 := hr' 22 (by omega)
    rw [h22] at g22
    exact ⟨y, M', rfl, ⟨e0.trans (lw_s g11), e1.trans (lw_s g12), e2.trans (lw_s g13), e3.trans (lw_s g14), e4.trans (lw_s g15), e5.trans (lw_s g16), e6.trans (lw_s g17), e7.trans (lw_s g18), e8.trans (lw_s g19), e9.trans (lw_s g20), e10.trans (lw_s g21), e11.trans (lw_s g22)⟩⟩
theorem lwd_cut {X : nt_X} {pl : Nat → Nat} {v : Nat → Int} {M : nt_M} {d : Nat} {o : Option Value × nt_M} {b0 b1 : Int32} (hd : 4 ≤ d) (hB : ly_B pl v M) (hb11 : (0 : Int) ≤ (nt_I M (pl 31) 1).toInt ∧ (nt_I M (pl 31) 1).toInt ≤ 1) (hb13 : (0 : Int) ≤ (nt_I M (pl 4) 0).toInt ∧ (nt_I M (pl 4) 0).toInt ≤ 4) (k : nt_ev X d 211 [.ref (pl 0), .int b0, .int b1] M o) : ∃ (y : Int32) (M' : nt_M), o = (some (.int y), M') ∧ (((nt_I M' (pl 31) 1).toInt = (nt_I M (pl 31) 1).toInt ∧ (nt_I M' (pl 31) 2).toInt = (nt_I M (pl 31) 2).toInt ∧ (nt_I M' (pl 4) 0).toInt = (nt_I M (pl 4) 0).toInt ∧ (nt_I M' (pl 4) 4).toInt = (nt_I M (pl 4) 4).toInt ∧ (nt_I M' (pl 14) 0).toInt = (nt_I M (pl 14) 0).toInt ∧ (nt_I M' (pl 14) 212).toInt = (nt_I M (pl 14) 212).toInt ∧ (nt_I M' (pl 14) 424).toInt = (nt_I M (pl 14) 424).toInt ∧ (nt_I M' (pl 14) 636).toInt = (nt_I M (pl 14) 636).toInt ∧ (nt_I M' (pl 14) 4).toInt = (nt_I M (pl 14) 4).toInt ∧ (nt_I M' (pl 14) 216).toInt = (nt_I M (pl 14) 216).toInt ∧ (nt_I M' (pl 14) 428).toInt = (nt_I M (pl 14) 428).toInt ∧ (nt_I M' (pl 14) 640).toInt = (nt_I M (pl 14) 640).toInt)) := by
  obtain ⟨r, hr, h11, h12, h13, h14, h15, h16, h17, h18, h19, h20, h21, h22, h23, h24⟩ : ∃ r : Nat → Int, (∀ s, s < 11 → r s = v s) ∧ r 11 = (nt_I M (pl 31) 1).toInt ∧ r 12 = (nt_I M (pl 31) 2).toInt ∧ r 13 = (nt_I M (pl 4) 0).toInt ∧ r 14 = (nt_I M (pl 4) 4).toInt ∧ r 15 = (nt_I M (pl 14) 0).toInt ∧ r 16 = (nt_I M (pl 14) 212).toInt ∧ r 17 = (nt_I M (pl 14) 424).toInt ∧ r 18 = (nt_I M (pl 14) 636).toInt ∧ r 19 = (nt_I M (pl 14) 4).toInt ∧ r 20 = (nt_I M (pl 14) 216).toInt ∧ r 21 = (nt_I M (pl 14) 428).toInt ∧ r 22 = (nt_I M (pl 14) 640).toInt ∧ r 23 = b0.toInt ∧ r 24 = b1.toInt := ⟨fun s => if s = 11 then (nt_I M (pl 31) 1).toInt else if s = 12 then (nt_I M (pl 31) 2).toInt else if s = 13 then (nt_I M (pl 4) 0).toInt else if s = 14 then (nt_I M (pl 4) 4).toInt else if s = 15 then (nt_I M (pl 14) 0).toInt else if s = 16 then (nt_I M (pl 14) 212).toInt else if s = 17 then (nt_I M (pl 14) 424).toInt else if s = 18 then (nt_I M (pl 14) 636).toInt else if s = 19 then (nt_I M (pl 14) 4).toInt else if s = 20 then (nt_I M (pl 14) 216).toInt else if s = 21 then (nt_I M (pl 14) 428).toInt else if s = 22 then (nt_I M (pl 14) 640).toInt else if s = 23 then b0.toInt else if s = 24 then b1.toInt else v s, fun s hs => by dsimp only; rw [if_neg (by omega), if_neg (by omega), if_neg (by omega), if_neg (by omega), if_neg (by omega), if_neg (by omega), if_neg (by omega), if_neg (by omega), if_neg (by omega), if_neg (by omega), if_neg (by omega), if_neg (by omega), if_neg (by omega), if_neg (by omega)], rfl, rfl, rfl, rfl, rfl, rfl, rfl, rfl, rfl, rfl, rfl, rfl, rfl, rfl⟩
  have hij := ly_ij (K := kk_wd_cut) rfl hB
  have hon := ly_app (K := kk_wd_cut) (ed := []) (ec := [((31, (1, [])), (0, [(11, 1)])), ((31, (2, [])), (0, [(12, 1)])), ((4, (0, [])), (0, [(13, 1)])), ((4, (4, [])), (0, [(14, 1)])), ((14, (0, [])), (0, [(15, 1)])), ((14, (212, [])), (0, [(16, 1)])), ((14, (424, [])), (0, [(17, 1)])), ((14, (636, [])), (0, [(18, 1)])), ((14, (4, [])), (0, [(19, 1)])), ((14, (216, [])), (0, [(20, 1)])), ((14, (428, [])), (0, [(21, 1)])), ((14, (640, [])), (0, [(22, 1)]))]) (er := []) rfl hB (fun _ _ => rfl) hr hij ly_nil (lw_oiC (g := 31) (j := 1) (by show 31 < 66; decide) (by decide) (by dsimp only; rw [sx_s_e]; exact h11.symm) (lw_oiC (g := 31) (j := 2) (by show 31 < 66; decide) (by decide) (by dsimp only; rw [sx_s_e]; exact h12.symm) (lw_oiC (g := 4) (j := 0) (by show 4 < 66; decide) (by decide) (by dsimp only; rw [sx_s_e]; exact h13.symm) (lw_oiC (g := 4) (j := 4) (by show 4 < 66; decide) (by decide) (by dsimp only; rw [sx_s_e]; exact h14.symm) (lw_oiC (g := 14) (j := 0) (by show 14 < 66; decide) (by decide) (by dsimp only; rw [sx_s_e]; exact h15.symm) (lw_oiC (g := 14) (j := 212) (by show 14 < 66; decide) (by decide) (by dsimp only; rw [sx_s_e]; exact h16.symm) (lw_oiC (g := 14) (j := 424) (by show 14 < 66; decide) (by decide) (by dsimp only; rw [sx_s_e]; exact h17.symm) (lw_oiC (g := 14) (j := 636) (by show 14 < 66; decide) (by decide) (by dsimp only; rw [sx_s_e]; exact h18.symm) (lw_oiC (g := 14) (j := 4) (by show 14 < 66; decide) (by decide) (by dsimp only; rw [sx_s_e]; exact h19.symm) (lw_oiC (g := 14) (j := 216) (by show 14 < 66; decide) (by decide) (by dsimp only; rw [sx_s_e]; exact h20.symm) (lw_oiC (g := 14) (j := 428) (by show 14 < 66; decide) (by decide) (by dsimp only; rw [sx_s_e]; exact h21.symm) (lw_oiC (g := 14) (j := 640) (by show 14 < 66; decide) (by decide) (by dsimp only; rw [sx_s_e]; exact h22.symm) (lw_oiN))))))))))))) (fun q hq => by cases hq) (ly_oba (ly_obr hr (ly_ob hB)) (ly_oba (ly_ob1 (by rw [h11]; exact hb11)) (ly_oba (ly_obI (x := nt_I M (pl 31) 2) h12) (ly_oba (ly_ob1 (by rw [h13]; exact hb13)) (ly_oba (ly_obI (x := nt_I M (pl 4) 4) h14) (ly_oba (ly_obI (x := nt_I M (pl 14) 0) h15) (ly_oba (ly_obI (x := nt_I M (pl 14) 212) h16) (ly_oba (ly_obI (x := nt_I M (pl 14) 424) h17) (ly_oba (ly_obI (x := nt_I M (pl 14) 636) h18) (ly_oba (ly_obI (x := nt_I M (pl 14) 4) h19) (ly_oba (ly_obI (x := nt_I M (pl 14) 216) h20) (ly_oba (ly_obI (x := nt_I M (pl 14) 428) h21) (ly_oba (ly_obI (x := nt_I M (pl 14) 640) h22) (ly_oba (ly_obI h23) (ly_obI h24))))))))))))))) ly_oc0
  obtain ⟨p, hp, r', h2, h3⟩ := lw_app (ko_wd_cut X) rfl hd hon (vs := [.ref (pl 0), .int b0, .int b1]) ⟨rfl, ⟨b0, rfl, (ly_e1 h23).symm⟩, ⟨b1, rfl, (ly_e1 h24).symm⟩, trivial⟩ k
  have hr' : ∀ s, s < 25 → r' s = r s := fun s hs => h3.2.2.2.2.2.1 s hs
  obtain ⟨ov, M'⟩ := o
  rw [List.mem_singleton.mp hp] at h2 h3
  cases ov with
  | none => exact h2.elim
  | some w =>
    obtain ⟨y, rfl, hy⟩ := h2
    have hy : y.toInt = 0 + (1 * r' 25 + (0)) := hy
    have e0 : (nt_I M' (pl 31) 1).toInt = 0 + (1 * r' 11 + (0)) := lw_rd (g := 31) (j := 1) h3.2.2.1 (List.mem_of_getElem? (i := 0) rfl) (by decide)
    have e1 : (nt_I M' (pl 31) 2).toInt = 0 + (1 * r' 12 + (0)) := lw_rd (g := 31) (j := 2) h3.2.2.1 (List.mem_of_getElem? (i := 1) rfl) (by decide)
    have e2 : (nt_I M' (pl 4) 0).toInt = 0 + (1 * r' 13 + (0)) := lw_rd (g := 4) (j := 0) h3.2.2.1 (List.mem_of_getElem? (i := 2) rfl) (by decide)
    have e3 : (nt_I M' (pl 4) 4).toInt = 0 + (1 * r' 14 + (0)) := lw_rd (g := 4) (j := 4) h3.2.2.1 (List.mem_of_getElem? (i := 3) rfl) (by decide)
    have e4 : (nt_I M' (pl 14) 0).toInt = 0 + (1 * r' 15 + (0)) := lw_rd (g := 14) (j := 0) h3.2.2.1 (List.mem_of_getElem? (i := 4) rfl) (by decide)
    have e5 : (nt_I M' (pl 14) 212).toInt = 0 + (1 * r' 16 + (0)) := lw_rd (g := 14) (j := 212) h3.2.2.1 (List.mem_of_getElem? (i := 5) rfl) (by decide)
    have e6 : (nt_I M' (pl 14) 424).toInt = 0 + (1 * r' 17 + (0)) := lw_rd (g := 14) (j := 424) h3.2.2.1 (List.mem_of_getElem? (i := 6) rfl) (by decide)
    have e7 : (nt_I M' (pl 14) 636).toInt = 0 + (1 * r' 18 + (0)) := lw_rd (g := 14) (j := 636) h3.2.2.1 (List.mem_of_getElem? (i := 7) rfl) (by decide)
    have e8 : (nt_I M' (pl 14) 4).toInt = 0 + (1 * r' 19 + (0)) := lw_rd (g := 14) (j := 4) h3.2.2.1 (List.mem_of_getElem? (i := 8) rfl) (by decide)
    have e9 : (nt_I M' (pl 14) 216).toInt = 0 + (1 * r' 20 + (0)) := lw_rd (g := 14) (j := 216) h3.2.2.1 (List.mem_of_getElem? (i := 9) rfl) (by decide)
    have e10 : (nt_I M' (pl 14) 428).toInt = 0 + (1 * r' 21 + (0)) := lw_rd (g := 14) (j := 428) h3.2.2.1 (List.mem_of_getElem? (i := 10) rfl) (by decide)
    have e11 : (nt_I M' (pl 14) 640).toInt = 0 + (1 * r' 22 + (0)) := lw_rd (g := 14) (j := 640) h3.2.2.1 (List.mem_of_getElem? (i := 11) rfl) (by decide)
    have g11 := hr' 11 (by omega)
    rw [h11] at g11
    have g12 := hr' 12 (by omega)
    rw [h12] at g12
    have g13 := hr' 13 (by omega)
    rw [h13] at g13
    have g14 := hr' 14 (by omega)
    rw [h14] at g14
    have g15 := hr' 15 (by omega)
    rw [h15] at g15
    have g16 := hr' 16 (by omega)
    rw [h16] at g16
    have g17 := hr' 17 (by omega)
    rw [h17] at g17
    have g18 := hr' 18 (by omega)
    rw [h18] at g18
    have g19 := hr' 19 (by omega)
    rw [h19] at g19
    have g20 := hr' 20 (by omega)
    rw [h20] at g20
    have g21 := hr' 21 (by omega)
    rw [h21] at g21
    have g22 := hr' 22 (by omega)
    rw [h22] at g22
    exact ⟨y, M', rfl, ⟨e0.trans (lw_s g11), e1.trans (lw_s g12), e2.trans (lw_s g13), e3.trans (lw_s g14), e4.trans (lw_s g15), e5.trans (lw_s g16), e6.trans (lw_s g17), e7.trans (lw_s g18), e8.trans (lw_s g19), e9.trans (lw_s g20), e10.trans (lw_s g21), e11.trans (lw_s g22)⟩⟩
theorem lwd_n_most {X : nt_X} {pl : Nat → Nat} {v : Nat → Int} {M : nt_M} {d : Nat} {o : Option Value × nt_M} {b0 : Int32} (hd : 5 ≤ d) (hB : ly_B pl v M) (hb11 : (0 : Int) ≤ (nt_I M (pl 31) 1).toInt ∧ (nt_I M (pl 31) 1).toInt ≤ 1) (hb13 : (0 : Int) ≤ (nt_I M (pl 4) 0).toInt ∧ (nt_I M (pl 4) 0).toInt ≤ 4) (k : nt_ev X d 117 [.ref (pl 16), .int b0] M o) : ∃ (y : Int32) (M' : nt_M), o = (some (.int y), M') ∧ (((nt_I M' (pl 31) 1).toInt = (nt_I M (pl 31) 1).toInt ∧ (nt_I M' (pl 31) 2).toInt = (nt_I M (pl 31) 2).toInt ∧ (nt_I M' (pl 4) 0).toInt = (nt_I M (pl 4) 0).toInt ∧ (nt_I M' (pl 4) 4).toInt = (nt_I M (pl 4) 4).toInt ∧ (nt_I M' (pl 14) 0).toInt = (nt_I M (pl 14) 0).toInt ∧ (nt_I M' (pl 14) 212).toInt = (nt_I M (pl 14) 212).toInt ∧ (nt_I M' (pl 14) 424).toInt = (nt_I M (pl 14) 424).toInt ∧ (nt_I M' (pl 14) 636).toInt = (nt_I M (pl 14) 636).toInt ∧ (nt_I M' (pl 14) 4).toInt = (nt_I M (pl 14) 4).toInt ∧ (nt_I M' (pl 14) 216).toInt = (nt_I M (pl 14) 216).toInt ∧ (nt_I M' (pl 14) 428).toInt = (nt_I M (pl 14) 428).toInt ∧ (nt_I M' (pl 14) 640).toInt = (nt_I M (pl 14) 640).toInt)) := by
  obtain ⟨r, hr, h11, h12, h13, h14, h15, h16, h17, h18, h19, h20, h21, h22, h23⟩ : ∃ r : Nat → Int, (∀ s, s < 11 → r s = v s) ∧ r 11 = (nt_I M (pl 31) 1).toInt ∧ r 12 = (nt_I M (pl 31) 2).toInt ∧ r 13 = (nt_I M (pl 4) 0).toInt ∧ r 14 = (nt_I M (pl 4) 4).toInt ∧ r 15 = (nt_I M (pl 14) 0).toInt ∧ r 16 = (nt_I M (pl 14) 212).toInt ∧ r 17 = (nt_I M (pl 14) 424).toInt ∧ r 18 = (nt_I M (pl 14) 636).toInt ∧ r 19 = (nt_I M (pl 14) 4).toInt ∧ r 20 = (nt_I M (pl 14) 216).toInt ∧ r 21 = (nt_I M (pl 14) 428).toInt ∧ r 22 = (nt_I M (pl 14) 640).toInt ∧ r 23 = b0.toInt := ⟨fun s => if s = 11 then (nt_I M (pl 31) 1).toInt else if s = 12 then (nt_I M (pl 31) 2).toInt else if s = 13 then (nt_I M (pl 4) 0).toInt else if s = 14 then (nt_I M (pl 4) 4).toInt else if s = 15 then (nt_I M (pl 14) 0).toInt else if s = 16 then (nt_I M (pl 14) 212).toInt else if s = 17 then (nt_I M (pl 14) 424).toInt else if s = 18 then (nt_I M (pl 14) 636).toInt else if s = 19 then (nt_I M (pl 14) 4).toInt else if s = 20 then (nt_I M (pl 14) 216).toInt else if s = 21 then (nt_I M (pl 14) 428).toInt else if s = 22 then (nt_I M (pl 14) 640).toInt else if s = 23 then b0.toInt else v s, fun s hs => by dsimp only; rw [if_neg (by omega), if_neg (by omega), if_neg (by omega), if_neg (by omega), if_neg (by omega), if_neg (by omega), if_neg (by omega), if_neg (by omega), if_neg (by omega), if_neg (by omega), if_neg (by omega), if_neg (by omega), if_neg (by omega)], rfl, rfl, rfl, rfl, rfl, rfl, rfl, rfl, rfl, rfl, rfl, rfl, rfl⟩
  have hij := ly_ij (K := kk_wd_n_most) rfl hB
  have hon := ly_app (K := kk_wd_n_most) (ed := []) (ec := [((31, (1, [])), (0, [(11, 1)])), ((31, (2, [])), (0, [(12, 1)])), ((4, (0, [])), (0, [(13, 1)])), ((4, (4, [])), (0, [(14, 1)])), ((14, (0, [])), (0, [(15, 1)])), ((14, (212, [])), (0, [(16, 1)])), ((14, (424, [])), (0, [(17, 1)])), ((14, (636, [])), (0, [(18, 1)])), ((14, (4, [])), (0, [(19, 1)])), ((14, (216, [])), (0, [(20, 1)])), ((14, (428, [])), (0, [(21, 1)])), ((14, (640, [])), (0, [(22, 1)]))]) (er := []) rfl hB (fun _ _ => rfl) hr hij ly_nil (lw_oiC (g := 31) (j := 1) (by show 31 < 66; decide) (by decide) (by dsimp only; rw [sx_s_e]; exact h11.symm) (lw_oiC (g := 31) (j := 2) (by show 31 < 66; decide) (by decide) (by dsimp only; rw [sx_s_e]; exact h12.symm) (lw_oiC (g := 4) (j := 0) (by show 4 < 66; decide) (by decide) (by dsimp only; rw [sx_s_e]; exact h13.symm) (lw_oiC (g := 4) (j := 4) (by show 4 < 66; decide) (by decide) (by dsimp only; rw [sx_s_e]; exact h14.symm) (lw_oiC (g := 14) (j := 0) (by show 14 < 66; decide) (by decide) (by dsimp only; rw [sx_s_e]; exact h15.symm) (lw_oiC (g := 14) (j := 212) (by show 14 < 66; decide) (by decide) (by dsimp only; rw [sx_s_e]; exact h16.symm) (lw_oiC (g := 14) (j := 424) (by show 14 < 66; decide) (by decide) (by dsimp only; rw [sx_s_e]; exact h17.symm) (lw_oiC (g := 14) (j := 636) (by show 14 < 66; decide) (by decide) (by dsimp only; rw [sx_s_e]; exact h18.symm) (lw_oiC (g := 14) (j := 4) (by show 14 < 66; decide) (by decide) (by dsimp only; rw [sx_s_e]; exact h19.symm) (lw_oiC (g := 14) (j := 216) (by show 14 < 66; decide) (by decide) (by dsimp only; rw [sx_s_e]; exact h20.symm) (lw_oiC (g := 14) (j := 428) (by show 14 < 66; decide) (by decide) (by dsimp only; rw [sx_s_e]; exact h21.symm) (lw_oiC (g := 14) (j := 640) (by show 14 < 66; decide) (by decide) (by dsimp only; rw [sx_s_e]; exact h22.symm) (lw_oiN))))))))))))) (fun q hq => by cases hq) (ly_oba (ly_obr hr (ly_ob hB)) (ly_oba (ly_ob1 (by rw [h11]; exact hb11)) (ly_oba (ly_obI (x := nt_I M (pl 31) 2) h12) (ly_oba (ly_ob1 (by rw [h13]; exact hb13)) (ly_oba (ly_obI (x := nt_I M (pl 4) 4) h14) (ly_oba (ly_obI (x := nt_I M (pl 14) 0) h15) (ly_oba (ly_obI (x := nt_I M (pl 14) 212) h16) (ly_oba (ly_obI (x := nt_I M (pl 14) 424) h17) (ly_oba (ly_obI (x := nt_I M (pl 14) 636) h18) (ly_oba (ly_obI (x := nt_I M (pl 14) 4) h19) (ly_oba (ly_obI (x := nt_I M (pl 14) 216) h20) (ly_oba (ly_obI (x := nt_I M (pl 14) 428) h21) (ly_oba (ly_obI (x := nt_I M (pl 14) 640) h22) (ly_obI h23)))))))))))))) ly_oc0
  obtain ⟨p, hp, r', h2, h3⟩ := lw_app (ko_wd_n_most X) rfl hd hon (vs := [.ref (pl 16), .int b0]) ⟨rfl, ⟨b0, rfl, (ly_e1 h23).symm⟩, trivial⟩ k
  have hr' : ∀ s, s < 24 → r' s = r s := fun s hs => h3.2.2.2.2.2.1 s hs
  obtain ⟨ov, M'⟩ := o
  rw [List.mem_singleton.mp hp] at h2 h3
  cases ov with
  | none => exact h2.elim
  | some w =>
    obtain ⟨y, rfl, hy⟩ := h2
    have hy : y.toInt = 0 + (1 * r' 24 + (0)) := hy
    have e0 : (nt_I M' (pl 31) 1).toInt = 0 + (1 * r' 11 + (0)) := lw_rd (g := 31) (j := 1) h3.2.2.1 (List.mem_of_getElem? (i := 0) rfl) (by decide)
    have e1 : (nt_I M' (pl 31) 2).toInt = 0 + (1 * r' 12 + (0)) := lw_rd (g := 31) (j := 2) h3.2.2.1 (List.mem_of_getElem? (i := 1) rfl) (by decide)
    have e2 : (nt_I M' (pl 4) 0).toInt = 0 + (1 * r' 13 + (0)) := lw_rd (g := 4) (j := 0) h3.2.2.1 (List.mem_of_getElem? (i := 2) rfl) (by decide)
    have e3 : (nt_I M' (pl 4) 4).toInt = 0 + (1 * r' 14 + (0)) := lw_rd (g := 4) (j := 4) h3.2.2.1 (List.mem_of_getElem? (i := 3) rfl) (by decide)
    have e4 : (nt_I M' (pl 14) 0).toInt = 0 + (1 * r' 15 + (0)) := lw_rd (g := 14) (j := 0) h3.2.2.1 (List.mem_of_getElem? (i := 4) rfl) (by decide)
    have e5 : (nt_I M' (pl 14) 212).toInt = 0 + (1 * r' 16 + (0)) := lw_rd (g := 14) (j := 212) h3.2.2.1 (List.mem_of_getElem? (i := 5) rfl) (by decide)
    have e6 : (nt_I M' (pl 14) 424).toInt = 0 + (1 * r' 17 + (0)) := lw_rd (g := 14) (j := 424) h3.2.2.1 (List.mem_of_getElem? (i := 6) rfl) (by decide)
    have e7 : (nt_I M' (pl 14) 636).toInt = 0 + (1 * r' 18 + (0)) := lw_rd (g := 14) (j := 636) h3.2.2.1 (List.mem_of_getElem? (i := 7) rfl) (by decide)
    have e8 : (nt_I M' (pl 14) 4).toInt = 0 + (1 * r' 19 + (0)) := lw_rd (g := 14) (j := 4) h3.2.2.1 (List.mem_of_getElem? (i := 8) rfl) (by decide)
    have e9 : (nt_I M' (pl 14) 216).toInt = 0 + (1 * r' 20 + (0)) := lw_rd (g := 14) (j := 216) h3.2.2.1 (List.mem_of_getElem? (i := 9) rfl) (by decide)
    have e10 : (nt_I M' (pl 14) 428).toInt = 0 + (1 * r' 21 + (0)) := lw_rd (g := 14) (j := 428) h3.2.2.1 (List.mem_of_getElem? (i := 10) rfl) (by decide)
    have e11 : (nt_I M' (pl 14) 640).toInt = 0 + (1 * r' 22 + (0)) := lw_rd (g := 14) (j := 640) h3.2.2.1 (List.mem_of_getElem? (i := 11) rfl) (by decide)
    have g11 := hr' 11 (by omega)
    rw [h11] at g11
    have g12 := hr' 12 (by omega)
    rw [h12] at g12
    have g13 := hr' 13 (by omega)
    rw [h13] at g13
    have g14 := hr' 14 (by omega)
    rw [h14] at g14
    have g15 := hr' 15 (by omega)
    rw [h15] at g15
    have g16 := hr' 16 (by omega)
    rw [h16] at g16
    have g17 := hr' 17 (by omega)
    rw [h17] at g17
    have g18 := hr' 18 (by omega)
    rw [h18] at g18
    have g19 := hr' 19 (by omega)
    rw [h19] at g19
    have g20 := hr' 20 (by omega)
    rw [h20] at g20
    have g21 := hr' 21 (by omega)
    rw [h21] at g21
    have g22 := hr' 22 (by omega)
    rw [h22] at g22
    exact ⟨y, M', rfl, ⟨e0.trans (lw_s g11), e1.trans (lw_s g12), e2.trans (lw_s g13), e3.trans (lw_s g14), e4.trans (lw_s g15), e5.trans (lw_s g16), e6.trans (lw_s g17), e7.trans (lw_s g18), e8.trans (lw_s g19), e9.trans (lw_s g20), e10.trans (lw_s g21), e11.trans (lw_s g22)⟩⟩
theorem lwd_most {X : nt_X} {pl : Nat → Nat} {v : Nat → Int} {M : nt_M} {d : Nat} {o : Option Value × nt_M} {b0 : Int32} (hd : 4 ≤ d) (hB : ly_B pl v M) (hb11 : (0 : Int) ≤ (nt_I M (pl 31) 1).toInt ∧ (nt_I M (pl 31) 1).toInt ≤ 1) (hb13 : (0 : Int) ≤ (nt_I M (pl 4) 0).toInt ∧ (nt_I M (pl 4) 0).toInt ≤ 4) (k : nt_ev X d 212 [.ref (pl 0), .int b0] M o) : ∃ (y : Int32) (M' : nt_M), o = (some (.int y), M') ∧ (((nt_I M' (pl 31) 1).toInt = (nt_I M (pl 31) 1).toInt ∧ (nt_I M' (pl 31) 2).toInt = (nt_I M (pl 31) 2).toInt ∧ (nt_I M' (pl 4) 0).toInt = (nt_I M (pl 4) 0).toInt ∧ (nt_I M' (pl 4) 4).toInt = (nt_I M (pl 4) 4).toInt ∧ (nt_I M' (pl 14) 0).toInt = (nt_I M (pl 14) 0).toInt ∧ (nt_I M' (pl 14) 212).toInt = (nt_I M (pl 14) 212).toInt ∧ (nt_I M' (pl 14) 424).toInt = (nt_I M (pl 14) 424).toInt ∧ (nt_I M' (pl 14) 636).toInt = (nt_I M (pl 14) 636).toInt ∧ (nt_I M' (pl 14) 4).toInt = (nt_I M (pl 14) 4).toInt ∧ (nt_I M' (pl 14) 216).toInt = (nt_I M (pl 14) 216).toInt ∧ (nt_I M' (pl 14) 428).toInt = (nt_I M (pl 14) 428).toInt ∧ (nt_I M' (pl 14) 640).toInt = (nt_I M (pl 14) 640).toInt)) := by
  obtain ⟨r, hr, h11, h12, h13, h14, h15, h16, h17, h18, h19, h20, h21, h22, h23⟩ : ∃ r : Nat → Int, (∀ s, s < 11 → r s = v s) ∧ r 11 = (nt_I M (pl 31) 1).toInt ∧ r 12 = (nt_I M (pl 31) 2).toInt ∧ r 13 = (nt_I M (pl 4) 0).toInt ∧ r 14 = (nt_I M (pl 4) 4).toInt ∧ r 15 = (nt_I M (pl 14) 0).toInt ∧ r 16 = (nt_I M (pl 14) 212).toInt ∧ r 17 = (nt_I M (pl 14) 424).toInt ∧ r 18 = (nt_I M (pl 14) 636).toInt ∧ r 19 = (nt_I M (pl 14) 4).toInt ∧ r 20 = (nt_I M (pl 14) 216).toInt ∧ r 21 = (nt_I M (pl 14) 428).toInt ∧ r 22 = (nt_I M (pl 14) 640).toInt ∧ r 23 = b0.toInt := ⟨fun s => if s = 11 then (nt_I M (pl 31) 1).toInt else if s = 12 then (nt_I M (pl 31) 2).toInt else if s = 13 then (nt_I M (pl 4) 0).toInt else if s = 14 then (nt_I M (pl 4) 4).toInt else if s = 15 then (nt_I M (pl 14) 0).toInt else if s = 16 then (nt_I M (pl 14) 212).toInt else if s = 17 then (nt_I M (pl 14) 424).toInt else if s = 18 then (nt_I M (pl 14) 636).toInt else if s = 19 then (nt_I M (pl 14) 4).toInt else if s = 20 then (nt_I M (pl 14) 216).toInt else if s = 21 then (nt_I M (pl 14) 428).toInt else if s = 22 then (nt_I M (pl 14) 640).toInt else if s = 23 then b0.toInt else v s, fun s hs => by dsimp only; rw [if_neg (by omega), if_neg (by omega), if_neg (by omega), if_neg (by omega), if_neg (by omega), if_neg (by omega), if_neg (by omega), if_neg (by omega), if_neg (by omega), if_neg (by omega), if_neg (by omega), if_neg (by omega), if_neg (by omega)], rfl, rfl, rfl, rfl, rfl, rfl, rfl, rfl, rfl, rfl, rfl, rfl, rfl⟩
  have hij := ly_ij (K := kk_wd_most) rfl hB
  have hon := ly_app (K := kk_wd_most) (ed := []) (ec := [((31, (1, [])), (0, [(11, 1)])), ((31, (2, [])), (0, [(12, 1)])), ((4, (0, [])), (0, [(13, 1)])), ((4, (4, [])), (0, [(14, 1)])), ((14, (0, [])), (0, [(15, 1)])), ((14, (212, [])), (0, [(16, 1)])), ((14, (424, [])), (0, [(17, 1)])), ((14, (636, [])), (0, [(18, 1)])), ((14, (4, [])), (0, [(19, 1)])), ((14, (216, [])), (0, [(20, 1)])), ((14, (428, [])), (0, [(21, 1)])), ((14, (640, [])), (0, [(22, 1)]))]) (er := []) rfl hB (fun _ _ => rfl) hr hij ly_nil (lw_oiC (g := 31) (j := 1) (by show 31 < 66; decide) (by decide) (by dsimp only; rw [sx_s_e]; exact h11.symm) (lw_oiC (g := 31) (j := 2) (by show 31 < 66; decide) (by decide) (by dsimp only; rw [sx_s_e]; exact h12.symm) (lw_oiC (g := 4) (j := 0) (by show 4 < 66; decide) (by decide) (by dsimp only; rw [sx_s_e]; exact h13.symm) (lw_oiC (g := 4) (j := 4) (by show 4 < 66; decide) (by decide) (by dsimp only; rw [sx_s_e]; exact h14.symm) (lw_oiC (g := 14) (j := 0) (by show 14 < 66; decide) (by decide) (by dsimp only; rw [sx_s_e]; exact h15.symm) (lw_oiC (g := 14) (j := 212) (by show 14 < 66; decide) (by decide) (by dsimp only; rw [sx_s_e]; exact h16.symm) (lw_oiC (g := 14) (j := 424) (by show 14 < 66; decide) (by decide) (by dsimp only; rw [sx_s_e]; exact h17.symm) (lw_oiC (g := 14) (j := 636) (by show 14 < 66; decide) (by decide) (by dsimp only; rw [sx_s_e]; exact h18.symm) (lw_oiC (g := 14) (j := 4) (by show 14 < 66; decide) (by decide) (by dsimp only; rw [sx_s_e]; exact h19.symm) (lw_oiC (g := 14) (j := 216) (by show 14 < 66; decide) (by decide) (by dsimp only; rw [sx_s_e]; exact h20.symm) (lw_oiC (g := 14) (j := 428) (by show 14 < 66; decide) (by decide) (by dsimp only; rw [sx_s_e]; exact h21.symm) (lw_oiC (g := 14) (j := 640) (by show 14 < 66; decide) (by decide) (by dsimp only; rw [sx_s_e]; exact h22.symm) (lw_oiN))))))))))))) (fun q hq => by cases hq) (ly_oba (ly_obr hr (ly_ob hB)) (ly_oba (ly_ob1 (by rw [h11]; exact hb11)) (ly_oba (ly_obI (x := nt_I M (pl 31) 2) h12) (ly_oba (ly_ob1 (by rw [h13]; exact hb13)) (ly_oba (ly_obI (x := nt_I M (pl 4) 4) h14) (ly_oba (ly_obI (x := nt_I M (pl 14) 0) h15) (ly_oba (ly_obI (x := nt_I M (pl 14) 212) h16) (ly_oba (ly_obI (x := nt_I M (pl 14) 424) h17) (ly_oba (ly_obI (x := nt_I M (pl 14) 636) h18) (ly_oba (ly_obI (x := nt_I M (pl 14) 4) h19) (ly_oba (ly_obI (x := nt_I M (pl 14) 216) h20) (ly_oba (ly_obI (x := nt_I M (pl 14) 428) h21) (ly_oba (ly_obI (x := nt_I M (pl 14) 640) h22) (ly_obI h23)))))))))))))) ly_oc0
  obtain ⟨p, hp, r', h2, h3⟩ := lw_app (ko_wd_most X) rfl hd hon (vs := [.ref (pl 0), .int b0]) ⟨rfl, ⟨b0, rfl, (ly_e1 h23).symm⟩, trivial⟩ k
  have hr' : ∀ s, s < 24 → r' s = r s := fun s hs => h3.2.2.2.2.2.1 s hs
  obtain ⟨ov, M'⟩ := o
  rw [List.mem_singleton.mp hp] at h2 h3
  cases ov with
  | none => exact h2.elim
  | some w =>
    obtain ⟨y, rfl, hy⟩ := h2
    have hy : y.toInt = 0 + (1 * r' 24 + (0)) := hy
    have e0 : (nt_I M' (pl 31) 1).toInt = 0 + (1 * r' 11 + (0)) := lw_rd (g := 31) (j := 1) h3.2.2.1 (List.mem_of_getElem? (i := 0) rfl) (by decide)
    have e1 : (nt_I M' (pl 31) 2).toInt = 0 + (1 * r' 12 + (0)) := lw_rd (g := 31) (j := 2) h3.2.2.1 (List.mem_of_getElem? (i := 1) rfl) (by decide)
    have e2 : (nt_I M' (pl 4) 0).toInt = 0 + (1 * r' 13 + (0)) := lw_rd (g := 4) (j := 0) h3.2.2.1 (List.mem_of_getElem? (i := 2) rfl) (by decide)
    have e3 : (nt_I M' (pl 4) 4).toInt = 0 + (1 * r' 14 + (0)) := lw_rd (g := 4) (j := 4) h3.2.2.1 (List.mem_of_getElem? (i := 3) rfl) (by decide)
    have e4 : (nt_I M' (pl 14) 0).toInt = 0 + (1 * r' 15 + (0)) := lw_rd (g := 14) (j := 0) h3.2.2.1 (List.mem_of_getElem? (i := 4) rfl) (by decide)
    have e5 : (nt_I M' (pl 14) 212).toInt = 0 + (1 * r' 16 + (0)) := lw_rd (g := 14) (j := 212) h3.2.2.1 (List.mem_of_getElem? (i := 5) rfl) (by decide)
    have e6 : (nt_I M' (pl 14) 424).toInt = 0 + (1 * r' 17 + (0)) := lw_rd (g := 14) (j := 424) h3.2.2.1 (List.mem_of_getElem? (i := 6) rfl) (by decide)
    have e7 : (nt_I M' (pl 14) 636).toInt = 0 + (1 * r' 18 + (0)) := lw_rd (g := 14) (j := 636) h3.2.2.1 (List.mem_of_getElem? (i := 7) rfl) (by decide)
    have e8 : (nt_I M' (pl 14) 4).toInt = 0 + (1 * r' 19 + (0)) := lw_rd (g := 14) (j := 4) h3.2.2.1 (List.mem_of_getElem? (i := 8) rfl) (by decide)
    have e9 : (nt_I M' (pl 14) 216).toInt = 0 + (1 * r' 20 + (0)) := lw_rd (g := 14) (j := 216) h3.2.2.1 (List.mem_of_getElem? (i := 9) rfl) (by decide)
    have e10 : (nt_I M' (pl 14) 428).toInt = 0 + (1 * r' 21 + (0)) := lw_rd (g := 14) (j := 428) h3.2.2.1 (List.mem_of_getElem? (i := 10) rfl) (by decide)
    have e11 : (nt_I M' (pl 14) 640).toInt = 0 + (1 * r' 22 + (0)) := lw_rd (g := 14) (j := 640) h3.2.2.1 (List.mem_of_getElem? (i := 11) rfl) (by decide)
    have g11 := hr' 11 (by omega)
    rw [h11] at g11
    have g12 := hr' 12 (by omega)
    rw [h12] at g12
    have g13 := hr' 13 (by omega)
    rw [h13] at g13
    have g14 := hr' 14 (by omega)
    rw [h14] at g14
    have g15 := hr' 15 (by omega)
    rw [h15] at g15
    have g16 := hr' 16 (by omega)
    rw [h16] at g16
    have g17 := hr' 17 (by omega)
    rw [h17] at g17
    have g18 := hr' 18 (by omega)
    rw [h18] at g18
    have g19 := hr' 19 (by omega)
    rw [h19] at g19
    have g20 := hr' 20 (by omega)
    rw [h20] at g20
    have g21 := hr' 21 (by omega)
    rw [h21] at g21
    have g22 := hr' 22 (by omega)
    rw [h22] at g22
    exact ⟨y, M', rfl, ⟨e0.trans (lw_s g11), e1.trans (lw_s g12), e2.trans (lw_s g13), e3.trans (lw_s g14), e4.trans (lw_s g15), e5.trans (lw_s g16), e6.trans (lw_s g17), e7.trans (lw_s g18), e8.trans (lw_s g19), e9.trans (lw_s g20), e10.trans (lw_s g21), e11.trans (lw_s g22)⟩⟩
theorem lwd_n_willDo {X : nt_X} {pl : Nat → Nat} {v : Nat → Int} {M : nt_M} {d : Nat} {o : Option Value × nt_M} {b0 : Int32} (hd : 4 ≤ d) (hB : ly_B pl v M) (hb11 : (0 : Int) ≤ (nt_I M (pl 31) 1).toInt ∧ (nt_I M (pl 31) 1).toInt ≤ 1) (hb13 : (0 : Int) ≤ (nt_I M (pl 4) 0).toInt ∧ (nt_I M (pl 4) 0).toInt ≤ 4) (k : nt_ev X d 118 [.ref (pl 16), .int b0] M o) : ∃ (y : Int32) (M' : nt_M), o = (some (.int y), M') ∧ (((nt_I M' (pl 31) 1).toInt = (nt_I M (pl 31) 1).toInt ∧ (nt_I M' (pl 31) 2).toInt = (nt_I M (pl 31) 2).toInt ∧ (nt_I M' (pl 4) 0).toInt = (nt_I M (pl 4) 0).toInt ∧ (nt_I M' (pl 4) 4).toInt = (nt_I M (pl 4) 4).toInt ∧ (nt_I M' (pl 14) 0).toInt = (nt_I M (pl 14) 0).toInt ∧ (nt_I M' (pl 14) 212).toInt = (nt_I M (pl 14) 212).toInt ∧ (nt_I M' (pl 14) 424).toInt = (nt_I M (pl 14) 424).toInt ∧ (nt_I M' (pl 14) 636).toInt = (nt_I M (pl 14) 636).toInt ∧ (nt_I M' (pl 14) 4).toInt = (nt_I M (pl 14) 4).toInt ∧ (nt_I M' (pl 14) 216).toInt = (nt_I M (pl 14) 216).toInt ∧ (nt_I M' (pl 14) 428).toInt = (nt_I M (pl 14) 428).toInt ∧ (nt_I M' (pl 14) 640).toInt = (nt_I M (pl 14) 640).toInt)) := by
  obtain ⟨r, hr, h11, h12, h13, h14, h15, h16, h17, h18, h19, h20, h21, h22, h23⟩ : ∃ r : Nat → Int, (∀ s, s < 11 → r s = v s) ∧ r 11 = (nt_I M (pl 31) 1).toInt ∧ r 12 = (nt_I M (pl 31) 2).toInt ∧ r 13 = (nt_I M (pl 4) 0).toInt ∧ r 14 = (nt_I M (pl 4) 4).toInt ∧ r 15 = (nt_I M (pl 14) 0).toInt ∧ r 16 = (nt_I M (pl 14) 212).toInt ∧ r 17 = (nt_I M (pl 14) 424).toInt ∧ r 18 = (nt_I M (pl 14) 636).toInt ∧ r 19 = (nt_I M (pl 14) 4).toInt ∧ r 20 = (nt_I M (pl 14) 216).toInt ∧ r 21 = (nt_I M (pl 14) 428).toInt ∧ r 22 = (nt_I M (pl 14) 640).toInt ∧ r 23 = b0.toInt := ⟨fun s => if s = 11 then (nt_I M (pl 31) 1).toInt else if s = 12 then (nt_I M (pl 31) 2).toInt else if s = 13 then (nt_I M (pl 4) 0).toInt else if s = 14 then (nt_I M (pl 4) 4).toInt else if s = 15 then (nt_I M (pl 14) 0).toInt else if s = 16 then (nt_I M (pl 14) 212).toInt else if s = 17 then (nt_I M (pl 14) 424).toInt else if s = 18 then (nt_I M (pl 14) 636).toInt else if s = 19 then (nt_I M (pl 14) 4).toInt else if s = 20 then (nt_I M (pl 14) 216).toInt else if s = 21 then (nt_I M (pl 14) 428).toInt else if s = 22 then (nt_I M (pl 14) 640).toInt else if s = 23 then b0.toInt else v s, fun s hs => by dsimp only; rw [if_neg (by omega), if_neg (by omega), if_neg (by omega), if_neg (by omega), if_neg (by omega), if_neg (by omega), if_neg (by omega), if_neg (by omega), if_neg (by omega), if_neg (by omega), if_neg (by omega), if_neg (by omega), if_neg (by omega)], rfl, rfl, rfl, rfl, rfl, rfl, rfl, rfl, rfl, rfl, rfl, rfl, rfl⟩
  have hij := ly_ij (K := kk_wd_n_willDo) rfl hB
  have hon := ly_app (K := kk_wd_n_willDo) (ed := []) (ec := [((31, (1, [])), (0, [(11, 1)])), ((31, (2, [])), (0, [(12, 1)])), ((4, (0, [])), (0, [(13, 1)])), ((4, (4, [])), (0, [(14, 1)])), ((14, (0, [])), (0, [(15, 1)])), ((14, (212, [])), (0, [(16, 1)])), ((14, (424, [])), (0, [(17, 1)])), ((14, (636, [])), (0, [(18, 1)])), ((14, (4, [])), (0, [(19, 1)])), ((14, (216, [])), (0, [(20, 1)])), ((14, (428, [])), (0, [(21, 1)])), ((14, (640, [])), (0, [(22, 1)]))]) (er := []) rfl hB (fun _ _ => rfl) hr hij ly_nil (lw_oiC (g := 31) (j := 1) (by show 31 < 66; decide) (by decide) (by dsimp only; rw [sx_s_e]; exact h11.symm) (lw_oiC (g := 31) (j := 2) (by show 31 < 66; decide) (by decide) (by dsimp only; rw [sx_s_e]; exact h12.symm) (lw_oiC (g := 4) (j := 0) (by show 4 < 66; decide) (by decide) (by dsimp only; rw [sx_s_e]; exact h13.symm) (lw_oiC (g := 4) (j := 4) (by show 4 < 66; decide) (by decide) (by dsimp only; rw [sx_s_e]; exact h14.symm) (lw_oiC (g := 14) (j := 0) (by show 14 < 66; decide) (by decide) (by dsimp only; rw [sx_s_e]; exact h15.symm) (lw_oiC (g := 14) (j := 212) (by show 14 < 66; decide) (by decide) (by dsimp only; rw [sx_s_e]; exact h16.symm) (lw_oiC (g := 14) (j := 424) (by show 14 < 66; decide) (by decide) (by dsimp only; rw [sx_s_e]; exact h17.symm) (lw_oiC (g := 14) (j := 636) (by show 14 < 66; decide) (by decide) (by dsimp only; rw [sx_s_e]; exact h18.symm) (lw_oiC (g := 14) (j := 4) (by show 14 < 66; decide) (by decide) (by dsimp only; rw [sx_s_e]; exact h19.symm) (lw_oiC (g := 14) (j := 216) (by show 14 < 66; decide) (by decide) (by dsimp only; rw [sx_s_e]; exact h20.symm) (lw_oiC (g := 14) (j := 428) (by show 14 < 66; decide) (by decide) (by dsimp only; rw [sx_s_e]; exact h21.symm) (lw_oiC (g := 14) (j := 640) (by show 14 < 66; decide) (by decide) (by dsimp only; rw [sx_s_e]; exact h22.symm) (lw_oiN))))))))))))) (fun q hq => by cases hq) (ly_oba (ly_obr hr (ly_ob hB)) (ly_oba (ly_ob1 (by rw [h11]; exact hb11)) (ly_oba (ly_obI (x := nt_I M (pl 31) 2) h12) (ly_oba (ly_ob1 (by rw [h13]; exact hb13)) (ly_oba (ly_obI (x := nt_I M (pl 4) 4) h14) (ly_oba (ly_obI (x := nt_I M (pl 14) 0) h15) (ly_oba (ly_obI (x := nt_I M (pl 14) 212) h16) (ly_oba (ly_obI (x := nt_I M (pl 14) 424) h17) (ly_oba (ly_obI (x := nt_I M (pl 14) 636) h18) (ly_oba (ly_obI (x := nt_I M (pl 14) 4) h19) (ly_oba (ly_obI (x := nt_I M (pl 14) 216) h20) (ly_oba (ly_obI (x := nt_I M (pl 14) 428) h21) (ly_oba (ly_obI (x := nt_I M (pl 14) 640) h22) (ly_obI h23)))))))))))))) ly_oc0
  obtain ⟨p, hp, r', h2, h3⟩ := lw_app (ko_wd_n_willDo X) rfl hd hon (vs := [.ref (pl 16), .int b0]) ⟨rfl, ⟨b0, rfl, (ly_e1 h23).symm⟩, trivial⟩ k
  have hr' : ∀ s, s < 24 → r' s = r s := fun s hs => h3.2.2.2.2.2.1 s hs
  obtain ⟨ov, M'⟩ := o
  rw [List.mem_singleton.mp hp] at h2 h3
  cases ov with
  | none => exact h2.elim
  | some w =>
    obtain ⟨y, rfl, hy⟩ := h2
    have hy : y.toInt = 0 + (1 * r' 24 + (0)) := hy
    have e0 : (nt_I M' (pl 31) 1).toInt = 0 + (1 * r' 11 + (0)) := lw_rd (g := 31) (j := 1) h3.2.2.1 (List.mem_of_getElem? (i := 0) rfl) (by decide)
    have e1 : (nt_I M' (pl 31) 2).toInt = 0 + (1 * r' 12 + (0)) := lw_rd (g := 31) (j := 2) h3.2.2.1 (List.mem_of_getElem? (i := 1) rfl) (by decide)
    have e2 : (nt_I M' (pl 4) 0).toInt = 0 + (1 * r' 13 + (0)) := lw_rd (g := 4) (j := 0) h3.2.2.1 (List.mem_of_getElem? (i := 2) rfl) (by decide)
    have e3 : (nt_I M' (pl 4) 4).toInt = 0 + (1 * r' 14 + (0)) := lw_rd (g := 4) (j := 4) h3.2.2.1 (List.mem_of_getElem? (i := 3) rfl) (by decide)
    have e4 : (nt_I M' (pl 14) 0).toInt = 0 + (1 * r' 15 + (0)) := lw_rd (g := 14) (j := 0) h3.2.2.1 (List.mem_of_getElem? (i := 4) rfl) (by decide)
    have e5 : (nt_I M' (pl 14) 212).toInt = 0 + (1 * r' 16 + (0)) := lw_rd (g := 14) (j := 212) h3.2.2.1 (List.mem_of_getElem? (i := 5) rfl) (by decide)
    have e6 : (nt_I M' (pl 14) 424).toInt = 0 + (1 * r' 17 + (0)) := lw_rd (g := 14) (j := 424) h3.2.2.1 (List.mem_of_getElem? (i := 6) rfl) (by decide)
    have e7 : (nt_I M' (pl 14) 636).toInt = 0 + (1 * r' 18 + (0)) := lw_rd (g := 14) (j := 636) h3.2.2.1 (List.mem_of_getElem? (i := 7) rfl) (by decide)
    have e8 : (nt_I M' (pl 14) 4).toInt = 0 + (1 * r' 19 + (0)) := lw_rd (g := 14) (j := 4) h3.2.2.1 (List.mem_of_getElem? (i := 8) rfl) (by decide)
    have e9 : (nt_I M' (pl 14) 216).toInt = 0 + (1 * r' 20 + (0)) := lw_rd (g := 14) (j := 216) h3.2.2.1 (List.mem_of_getElem? (i := 9) rfl) (by decide)
    have e10 : (nt_I M' (pl 14) 428).toInt = 0 + (1 * r' 21 + (0)) := lw_rd (g := 14) (j := 428) h3.2.2.1 (List.mem_of_getElem? (i := 10) rfl) (by decide)
    have e11 : (nt_I M' (pl 14) 640).toInt = 0 + (1 * r' 22 + (0)) := lw_rd (g := 14) (j := 640) h3.2.2.1 (List.mem_of_getElem? (i := 11) rfl) (by decide)
    have g11 := hr' 11 (by omega)
    rw [h11] at g11
    have g12 := hr' 12 (by omega)
    rw [h12] at g12
    have g13 := hr' 13 (by omega)
    rw [h13] at g13
    have g14 := hr' 14 (by omega)
    rw [h14] at g14
    have g15 := hr' 15 (by omega)
    rw [h15] at g15
    have g16 := hr' 16 (by omega)
    rw [h16] at g16
    have g17 := hr' 17 (by omega)
    rw [h17] at g17
    have g18 := hr' 18 (by omega)
    rw [h18] at g18
    have g19 := hr' 19 (by omega)
    rw [h19] at g19
    have g20 := hr' 20 (by omega)
    rw [h20] at g20
    have g21 := hr' 21 (by omega)
    rw [h21] at g21
    have g22 := hr' 22 (by omega)
    rw [h22] at g22
    exact ⟨y, M', rfl, ⟨e0.trans (lw_s g11), e1.trans (lw_s g12), e2.trans (lw_s g13), e3.trans (lw_s g14), e4.trans (lw_s g15), e5.trans (lw_s g16), e6.trans (lw_s g17), e7.trans (lw_s g18), e8.trans (lw_s g19), e9.trans (lw_s g20), e10.trans (lw_s g21), e11.trans (lw_s g22)⟩⟩
theorem lwd_willDo {X : nt_X} {pl : Nat → Nat} {v : Nat → Int} {M : nt_M} {d : Nat} {o : Option Value × nt_M} {b0 : Int32} (hd : 4 ≤ d) (hB : ly_B pl v M) (hb11 : (0 : Int) ≤ (nt_I M (pl 31) 1).toInt ∧ (nt_I M (pl 31) 1).toInt ≤ 1) (hb13 : (0 : Int) ≤ (nt_I M (pl 4) 0).toInt ∧ (nt_I M (pl 4) 0).toInt ≤ 4) (k : nt_ev X d 215 [.ref (pl 0), .int b0] M o) : ∃ (y : Int32) (M' : nt_M), o = (some (.int y), M') ∧ (((nt_I M' (pl 31) 1).toInt = (nt_I M (pl 31) 1).toInt ∧ (nt_I M' (pl 31) 2).toInt = (nt_I M (pl 31) 2).toInt ∧ (nt_I M' (pl 4) 0).toInt = (nt_I M (pl 4) 0).toInt ∧ (nt_I M' (pl 4) 4).toInt = (nt_I M (pl 4) 4).toInt ∧ (nt_I M' (pl 14) 0).toInt = (nt_I M (pl 14) 0).toInt ∧ (nt_I M' (pl 14) 212).toInt = (nt_I M (pl 14) 212).toInt ∧ (nt_I M' (pl 14) 424).toInt = (nt_I M (pl 14) 424).toInt ∧ (nt_I M' (pl 14) 636).toInt = (nt_I M (pl 14) 636).toInt ∧ (nt_I M' (pl 14) 4).toInt = (nt_I M (pl 14) 4).toInt ∧ (nt_I M' (pl 14) 216).toInt = (nt_I M (pl 14) 216).toInt ∧ (nt_I M' (pl 14) 428).toInt = (nt_I M (pl 14) 428).toInt ∧ (nt_I M' (pl 14) 640).toInt = (nt_I M (pl 14) 640).toInt)) := by
  obtain ⟨r, hr, h11, h12, h13, h14, h15, h16, h17, h18, h19, h20, h21, h22, h23⟩ : ∃ r : Nat → Int, (∀ s, s < 11 → r s = v s) ∧ r 11 = (nt_I M (pl 31) 1).toInt ∧ r 12 = (nt_I M (pl 31) 2).toInt ∧ r 13 = (nt_I M (pl 4) 0).toInt ∧ r 14 = (nt_I M (pl 4) 4).toInt ∧ r 15 = (nt_I M (pl 14) 0).toInt ∧ r 16 = (nt_I M (pl 14) 212).toInt ∧ r 17 = (nt_I M (pl 14) 424).toInt ∧ r 18 = (nt_I M (pl 14) 636).toInt ∧ r 19 = (nt_I M (pl 14) 4).toInt ∧ r 20 = (nt_I M (pl 14) 216).toInt ∧ r 21 = (nt_I M (pl 14) 428).toInt ∧ r 22 = (nt_I M (pl 14) 640).toInt ∧ r 23 = b0.toInt := ⟨fun s => if s = 11 then (nt_I M (pl 31) 1).toInt else if s = 12 then (nt_I M (pl 31) 2).toInt else if s = 13 then (nt_I M (pl 4) 0).toInt else if s = 14 then (nt_I M (pl 4) 4).toInt else if s = 15 then (nt_I M (pl 14) 0).toInt else if s = 16 then (nt_I M (pl 14) 212).toInt else if s = 17 then (nt_I M (pl 14) 424).toInt else if s = 18 then (nt_I M (pl 14) 636).toInt else if s = 19 then (nt_I M (pl 14) 4).toInt else if s = 20 then (nt_I M (pl 14) 216).toInt else if s = 21 then (nt_I M (pl 14) 428).toInt else if s = 22 then (nt_I M (pl 14) 640).toInt else if s = 23 then b0.toInt else v s, fun s hs => by dsimp only; rw [if_neg (by omega), if_neg (by omega), if_neg (by omega), if_neg (by omega), if_neg (by omega), if_neg (by omega), if_neg (by omega), if_neg (by omega), if_neg (by omega), if_neg (by omega), if_neg (by omega), if_neg (by omega), if_neg (by omega)], rfl, rfl, rfl, rfl, rfl, rfl, rfl, rfl, rfl, rfl, rfl, rfl, rfl⟩
  have hij := ly_ij (K := kk_wd_willDo) rfl hB
  have hon := ly_app (K := kk_wd_willDo) (ed := []) (ec := [((31, (1, [])), (0, [(11, 1)])), ((31, (2, [])), (0, [(12, 1)])), ((4, (0, [])), (0, [(13, 1)])), ((4, (4, [])), (0, [(14, 1)])), ((14, (0, [])), (0, [(15, 1)])), ((14, (212, [])), (0, [(16, 1)])), ((14, (424, [])), (0, [(17, 1)])), ((14, (636, [])), (0, [(18, 1)])), ((14, (4, [])), (0, [(19, 1)])), ((14, (216, [])), (0, [(20, 1)])), ((14, (428, [])), (0, [(21, 1)])), ((14, (640, [])), (0, [(22, 1)]))]) (er := []) rfl hB (fun _ _ => rfl) hr hij ly_nil (lw_oiC (g := 31) (j := 1) (by show 31 < 66; decide) (by decide) (by dsimp only; rw [sx_s_e]; exact h11.symm) (lw_oiC (g := 31) (j := 2) (by show 31 < 66; decide) (by decide) (by dsimp only; rw [sx_s_e]; exact h12.symm) (lw_oiC (g := 4) (j := 0) (by show 4 < 66; decide) (by decide) (by dsimp only; rw [sx_s_e]; exact h13.symm) (lw_oiC (g := 4) (j := 4) (by show 4 < 66; decide) (by decide) (by dsimp only; rw [sx_s_e]; exact h14.symm) (lw_oiC (g := 14) (j := 0) (by show 14 < 66; decide) (by decide) (by dsimp only; rw [sx_s_e]; exact h15.symm) (lw_oiC (g := 14) (j := 212) (by show 14 < 66; decide) (by decide) (by dsimp only; rw [sx_s_e]; exact h16.symm) (lw_oiC (g := 14) (j := 424) (by show 14 < 66; decide) (by decide) (by dsimp only; rw [sx_s_e]; exact h17.symm) (lw_oiC (g := 14) (j := 636) (by show 14 < 66; decide) (by decide) (by dsimp only; rw [sx_s_e]; exact h18.symm) (lw_oiC (g := 14) (j := 4) (by show 14 < 66; decide) (by decide) (by dsimp only; rw [sx_s_e]; exact h19.symm) (lw_oiC (g := 14) (j := 216) (by show 14 < 66; decide) (by decide) (by dsimp only; rw [sx_s_e]; exact h20.symm) (lw_oiC (g := 14) (j := 428) (by show 14 < 66; decide) (by decide) (by dsimp only; rw [sx_s_e]; exact h21.symm) (lw_oiC (g := 14) (j := 640) (by show 14 < 66; decide) (by decide) (by dsimp only; rw [sx_s_e]; exact h22.symm) (lw_oiN))))))))))))) (fun q hq => by cases hq) (ly_oba (ly_obr hr (ly_ob hB)) (ly_oba (ly_ob1 (by rw [h11]; exact hb11)) (ly_oba (ly_obI (x := nt_I M (pl 31) 2) h12) (ly_oba (ly_ob1 (by rw [h13]; exact hb13)) (ly_oba (ly_obI (x := nt_I M (pl 4) 4) h14) (ly_oba (ly_obI (x := nt_I M (pl 14) 0) h15) (ly_oba (ly_obI (x := nt_I M (pl 14) 212) h16) (ly_oba (ly_obI (x := nt_I M (pl 14) 424) h17) (ly_oba (ly_obI (x := nt_I M (pl 14) 636) h18) (ly_oba (ly_obI (x := nt_I M (pl 14) 4) h19) (ly_oba (ly_obI (x := nt_I M (pl 14) 216) h20) (ly_oba (ly_obI (x := nt_I M (pl 14) 428) h21) (ly_oba (ly_obI (x := nt_I M (pl 14) 640) h22) (ly_obI h23)))))))))))))) ly_oc0
  obtain ⟨p, hp, r', h2, h3⟩ := lw_app (ko_wd_willDo X) rfl hd hon (vs := [.ref (pl 0), .int b0]) ⟨rfl, ⟨b0, rfl, (ly_e1 h23).symm⟩, trivial⟩ k
  have hr' : ∀ s, s < 24 → r' s = r s := fun s hs => h3.2.2.2.2.2.1 s hs
  obtain ⟨ov, M'⟩ := o
  rw [List.mem_singleton.mp hp] at h2 h3
  cases ov with
  | none => exact h2.elim
  | some w =>
    obtain ⟨y, rfl, hy⟩ := h2
    have hy : y.toInt = 0 + (1 * r' 24 + (0)) := hy
    have e0 : (nt_I M' (pl 31) 1).toInt = 0 + (1 * r' 11 + (0)) := lw_rd (g := 31) (j := 1) h3.2.2.1 (List.mem_of_getElem? (i := 0) rfl) (by decide)
    have e1 : (nt_I M' (pl 31) 2).toInt = 0 + (1 * r' 12 + (0)) := lw_rd (g := 31) (j := 2) h3.2.2.1 (List.mem_of_getElem? (i := 1) rfl) (by decide)
    have e2 : (nt_I M' (pl 4) 0).toInt = 0 + (1 * r' 13 + (0)) := lw_rd (g := 4) (j := 0) h3.2.2.1 (List.mem_of_getElem? (i := 2) rfl) (by decide)
    have e3 : (nt_I M' (pl 4) 4).toInt = 0 + (1 * r' 14 + (0)) := lw_rd (g := 4) (j := 4) h3.2.2.1 (List.mem_of_getElem? (i := 3) rfl) (by decide)
    have e4 : (nt_I M' (pl 14) 0).toInt = 0 + (1 * r' 15 + (0)) := lw_rd (g := 14) (j := 0) h3.2.2.1 (List.mem_of_getElem? (i := 4) rfl) (by decide)
    have e5 : (nt_I M' (pl 14) 212).toInt = 0 + (1 * r' 16 + (0)) := lw_rd (g := 14) (j := 212) h3.2.2.1 (List.mem_of_getElem? (i := 5) rfl) (by decide)
    have e6 : (nt_I M' (pl 14) 424).toInt = 0 + (1 * r' 17 + (0)) := lw_rd (g := 14) (j := 424) h3.2.2.1 (List.mem_of_getElem? (i := 6) rfl) (by decide)
    have e7 : (nt_I M' (pl 14) 636).toInt = 0 + (1 * r' 18 + (0)) := lw_rd (g := 14) (j := 636) h3.2.2.1 (List.mem_of_getElem? (i := 7) rfl) (by decide)
    have e8 : (nt_I M' (pl 14) 4).toInt = 0 + (1 * r' 19 + (0)) := lw_rd (g := 14) (j := 4) h3.2.2.1 (List.mem_of_getElem? (i := 8) rfl) (by decide)
    have e9 : (nt_I M' (pl 14) 216).toInt = 0 + (1 * r' 20 + (0)) := lw_rd (g := 14) (j := 216) h3.2.2.1 (List.mem_of_getElem? (i := 9) rfl) (by decide)
    have e10 : (nt_I M' (pl 14) 428).toInt = 0 + (1 * r' 21 + (0)) := lw_rd (g := 14) (j := 428) h3.2.2.1 (List.mem_of_getElem? (i := 10) rfl) (by decide)
    have e11 : (nt_I M' (pl 14) 640).toInt = 0 + (1 * r' 22 + (0)) := lw_rd (g := 14) (j := 640) h3.2.2.1 (List.mem_of_getElem? (i := 11) rfl) (by decide)
    have g11 := hr' 11 (by omega)
    rw [h11] at g11
    have g12 := hr' 12 (by omega)
    rw [h12] at g12
    have g13 := hr' 13 (by omega)
    rw [h13] at g13
    have g14 := hr' 14 (by omega)
    rw [h14] at g14
    have g15 := hr' 15 (by omega)
    rw [h15] at g15
    have g16 := hr' 16 (by omega)
    rw [h16] at g16
    have g17 := hr' 17 (by omega)
    rw [h17] at g17
    have g18 := hr' 18 (by omega)
    rw [h18] at g18
    have g19 := hr' 19 (by omega)
    rw [h19] at g19
    have g20 := hr' 20 (by omega)
    rw [h20] at g20
    have g21 := hr' 21 (by omega)
    rw [h21] at g21
    have g22 := hr' 22 (by omega)
    rw [h22] at g22
    exact ⟨y, M', rfl, ⟨e0.trans (lw_s g11), e1.trans (lw_s g12), e2.trans (lw_s g13), e3.trans (lw_s g14), e4.trans (lw_s g15), e5.trans (lw_s g16), e6.trans (lw_s g17), e7.trans (lw_s g18), e8.trans (lw_s g19), e9.trans (lw_s g20), e10.trans (lw_s g21), e11.trans (lw_s g22)⟩⟩
theorem lwd_n_same {X : nt_X} {pl : Nat → Nat} {v : Nat → Int} {M : nt_M} {d : Nat} {o : Option Value × nt_M} {b0 b1 : Int32} (hd : 3 ≤ d) (hB : ly_B pl v M) (hb11 : (0 : Int) ≤ (nt_I M (pl 31) 1).toInt ∧ (nt_I M (pl 31) 1).toInt ≤ 1) (hb13 : (0 : Int) ≤ (nt_I M (pl 4) 0).toInt ∧ (nt_I M (pl 4) 0).toInt ≤ 4) (k : nt_ev X d 119 [.ref (pl 16), .int b0, .int b1] M o) : ∃ (y : Int32) (M' : nt_M), o = (some (.int y), M') ∧ (((nt_I M' (pl 31) 1).toInt = (nt_I M (pl 31) 1).toInt ∧ (nt_I M' (pl 31) 2).toInt = (nt_I M (pl 31) 2).toInt ∧ (nt_I M' (pl 4) 0).toInt = (nt_I M (pl 4) 0).toInt ∧ (nt_I M' (pl 4) 4).toInt = (nt_I M (pl 4) 4).toInt ∧ (nt_I M' (pl 14) 0).toInt = (nt_I M (pl 14) 0).toInt ∧ (nt_I M' (pl 14) 212).toInt = (nt_I M (pl 14) 212).toInt ∧ (nt_I M' (pl 14) 424).toInt = (nt_I M (pl 14) 424).toInt ∧ (nt_I M' (pl 14) 636).toInt = (nt_I M (pl 14) 636).toInt ∧ (nt_I M' (pl 14) 4).toInt = (nt_I M (pl 14) 4).toInt ∧ (nt_I M' (pl 14) 216).toInt = (nt_I M (pl 14) 216).toInt ∧ (nt_I M' (pl 14) 428).toInt = (nt_I M (pl 14) 428).toInt ∧ (nt_I M' (pl 14) 640).toInt = (nt_I M (pl 14) 640).toInt)) := by
  obtain ⟨r, hr, h11, h12, h13, h14, h15, h16, h17, h18, h19, h20, h21, h22, h23, h24⟩ : ∃ r : Nat → Int, (∀ s, s < 11 → r s = v s) ∧ r 11 = (nt_I M (pl 31) 1).toInt ∧ r 12 = (nt_I M (pl 31) 2).toInt ∧ r 13 = (nt_I M (pl 4) 0).toInt ∧ r 14 = (nt_I M (pl 4) 4).toInt ∧ r 15 = (nt_I M (pl 14) 0).toInt ∧ r 16 = (nt_I M (pl 14) 212).toInt ∧ r 17 = (nt_I M (pl 14) 424).toInt ∧ r 18 = (nt_I M (pl 14) 636).toInt ∧ r 19 = (nt_I M (pl 14) 4).toInt ∧ r 20 = (nt_I M (pl 14) 216).toInt ∧ r 21 = (nt_I M (pl 14) 428).toInt ∧ r 22 = (nt_I M (pl 14) 640).toInt ∧ r 23 = b0.toInt ∧ r 24 = b1.toInt := ⟨fun s => if s = 11 then (nt_I M (pl 31) 1).toInt else if s = 12 then (nt_I M (pl 31) 2).toInt else if s = 13 then (nt_I M (pl 4) 0).toInt else if s = 14 then (nt_I M (pl 4) 4).toInt else if s = 15 then (nt_I M (pl 14) 0).toInt else if s = 16 then (nt_I M (pl 14) 212).toInt else if s = 17 then (nt_I M (pl 14) 424).toInt else if s = 18 then (nt_I M (pl 14) 636).toInt else if s = 19 then (nt_I M (pl 14) 4).toInt else if s = 20 then (nt_I M (pl 14) 216).toInt else if s = 21 then (nt_I M (pl 14) 428).toInt else if s = 22 then (nt_I M (pl 14) 640).toInt else if s = 23 then b0.toInt else if s = 24 then b1.toInt else v s, fun s hs => by dsimp only; rw [if_neg (by omega), if_neg (by omega), if_neg (by omega), if_neg (by omega), if_neg (by omega), if_neg (by omega), if_neg (by omega), if_neg (by omega), if_neg (by omega), if_neg (by omega), if_neg (by omega), if_neg (by omega), if_neg (by omega), if_neg (by omega)], rfl, rfl, rfl, rfl, rfl, rfl, rfl, rfl, rfl, rfl, rfl, rfl, rfl, rfl⟩
  have hij := ly_ij (K := kk_wd_n_same) rfl hB
  have hon := ly_app (K := kk_wd_n_same) (ed := []) (ec := [((31, (1, [])), (0, [(11, 1)])), ((31, (2, [])), (0, [(12, 1)])), ((4, (0, [])), (0, [(13, 1)])), ((4, (4, [])), (0, [(14, 1)])), ((14, (0, [])), (0, [(15, 1)])), ((14, (212, [])), (0, [(16, 1)])), ((14, (424, [])), (0, [(17, 1)])), ((14, (636, [])), (0, [(18, 1)])), ((14, (4, [])), (0, [(19, 1)])), ((14, (216, [])), (0, [(20, 1)])), ((14, (428, [])), (0, [(21, 1)])), ((14, (640, [])), (0, [(22, 1)]))]) (er := []) rfl hB (fun _ _ => rfl) hr hij ly_nil (lw_oiC (g := 31) (j := 1) (by show 31 < 66; decide) (by decide) (by dsimp only; rw [sx_s_e]; exact h11.symm) (lw_oiC (g := 31) (j := 2) (by show 31 < 66; decide) (by decide) (by dsimp only; rw [sx_s_e]; exact h12.symm) (lw_oiC (g := 4) (j := 0) (by show 4 < 66; decide) (by decide) (by dsimp only; rw [sx_s_e]; exact h13.symm) (lw_oiC (g := 4) (j := 4) (by show 4 < 66; decide) (by decide) (by dsimp only; rw [sx_s_e]; exact h14.symm) (lw_oiC (g := 14) (j := 0) (by show 14 < 66; decide) (by decide) (by dsimp only; rw [sx_s_e]; exact h15.symm) (lw_oiC (g := 14) (j := 212) (by show 14 < 66; decide) (by decide) (by dsimp only; rw [sx_s_e]; exact h16.symm) (lw_oiC (g := 14) (j := 424) (by show 14 < 66; decide) (by decide) (by dsimp only; rw [sx_s_e]; exact h17.symm) (lw_oiC (g := 14) (j := 636) (by show 14 < 66; decide) (by decide) (by dsimp only; rw [sx_s_e]; exact h18.symm) (lw_oiC (g := 14) (j := 4) (by show 14 < 66; decide) (by decide) (by dsimp only; rw [sx_s_e]; exact h19.symm) (lw_oiC (g := 14) (j := 216) (by show 14 < 66; decide) (by decide) (by dsimp only; rw [sx_s_e]; exact h20.symm) (lw_oiC (g := 14) (j := 428) (by show 14 < 66; decide) (by decide) (by dsimp only; rw [sx_s_e]; exact h21.symm) (lw_oiC (g := 14) (j := 640) (by show 14 < 66; decide) (by decide) (by dsimp only; rw [sx_s_e]; exact h22.symm) (lw_oiN))))))))))))) (fun q hq => by cases hq) (ly_oba (ly_obr hr (ly_ob hB)) (ly_oba (ly_ob1 (by rw [h11]; exact hb11)) (ly_oba (ly_obI (x := nt_I M (pl 31) 2) h12) (ly_oba (ly_ob1 (by rw [h13]; exact hb13)) (ly_oba (ly_obI (x := nt_I M (pl 4) 4) h14) (ly_oba (ly_obI (x := nt_I M (pl 14) 0) h15) (ly_oba (ly_obI (x := nt_I M (pl 14) 212) h16) (ly_oba (ly_obI (x := nt_I M (pl 14) 424) h17) (ly_oba (ly_obI (x := nt_I M (pl 14) 636) h18) (ly_oba (ly_obI (x := nt_I M (pl 14) 4) h19) (ly_oba (ly_obI (x := nt_I M (pl 14) 216) h20) (ly_oba (ly_obI (x := nt_I M (pl 14) 428) h21) (ly_oba (ly_obI (x := nt_I M (pl 14) 640) h22) (ly_oba (ly_obI h23) (ly_obI h24))))))))))))))) ly_oc0
  obtain ⟨p, hp, r', h2, h3⟩ := lw_app (ko_wd_n_same X) rfl hd hon (vs := [.ref (pl 16), .int b0, .int b1]) ⟨rfl, ⟨b0, rfl, (ly_e1 h23).symm⟩, ⟨b1, rfl, (ly_e1 h24).symm⟩, trivial⟩ k
  have hr' : ∀ s, s < 25 → r' s = r s := fun s hs => h3.2.2.2.2.2.1 s hs
  obtain ⟨ov, M'⟩ := o
  rw [List.mem_singleton.mp hp] at h2 h3
  cases ov with
  | none => exact h2.elim
  | some w =>
    obtain ⟨y, rfl, hy⟩ := h2
    have hy : y.toInt = 0 + (1 * r' 25 + (0)) := hy
    have e0 : (nt_I M' (pl 31) 1).toInt = 0 + (1 * r' 11 + (0)) := lw_rd (g := 31) (j := 1) h3.2.2.1 (List.mem_of_getElem? (i := 0) rfl) (by decide)
    have e1 : (nt_I M' (pl 31) 2).toInt = 0 + (1 * r' 12 + (0)) := lw_rd (g := 31) (j := 2) h3.2.2.1 (List.mem_of_getElem? (i := 1) rfl) (by decide)
    have e2 : (nt_I M' (pl 4) 0).toInt = 0 + (1 * r' 13 + (0)) := lw_rd (g := 4) (j := 0) h3.2.2.1 (List.mem_of_getElem? (i := 2) rfl) (by decide)
    have e3 : (nt_I M' (pl 4) 4).toInt = 0 + (1 * r' 14 + (0)) := lw_rd (g := 4) (j := 4) h3.2.2.1 (List.mem_of_getElem? (i := 3) rfl) (by decide)
    have e4 : (nt_I M' (pl 14) 0).toInt = 0 + (1 * r' 15 + (0)) := lw_rd (g := 14) (j := 0) h3.2.2.1 (List.mem_of_getElem? (i := 4) rfl) (by decide)
    have e5 : (nt_I M' (pl 14) 212).toInt = 0 + (1 * r' 16 + (0)) := lw_rd (g := 14) (j := 212) h3.2.2.1 (List.mem_of_getElem? (i := 5) rfl) (by decide)
    have e6 : (nt_I M' (pl 14) 424).toInt = 0 + (1 * r' 17 + (0)) := lw_rd (g := 14) (j := 424) h3.2.2.1 (List.mem_of_getElem? (i := 6) rfl) (by decide)
    have e7 : (nt_I M' (pl 14) 636).toInt = 0 + (1 * r' 18 + (0)) := lw_rd (g := 14) (j := 636) h3.2.2.1 (List.mem_of_getElem? (i := 7) rfl) (by decide)
    have e8 : (nt_I M' (pl 14) 4).toInt = 0 + (1 * r' 19 + (0)) := lw_rd (g := 14) (j := 4) h3.2.2.1 (List.mem_of_getElem? (i := 8) rfl) (by decide)
    have e9 : (nt_I M' (pl 14) 216).toInt = 0 + (1 * r' 20 + (0)) := lw_rd (g := 14) (j := 216) h3.2.2.1 (List.mem_of_getElem? (i := 9) rfl) (by decide)
    have e10 : (nt_I M' (pl 14) 428).toInt = 0 + (1 * r' 21 + (0)) := lw_rd (g := 14) (j := 428) h3.2.2.1 (List.mem_of_getElem? (i := 10) rfl) (by decide)
    have e11 : (nt_I M' (pl 14) 640).toInt = 0 + (1 * r' 22 + (0)) := lw_rd (g := 14) (j := 640) h3.2.2.1 (List.mem_of_getElem? (i := 11) rfl) (by decide)
    have g11 := hr' 11 (by omega)
    rw [h11] at g11
    have g12 := hr' 12 (by omega)
    rw [h12] at g12
    have g13 := hr' 13 (by omega)
    rw [h13] at g13
    have g14 := hr' 14 (by omega)
    rw [h14] at g14
    have g15 := hr' 15 (by omega)
    rw [h15] at g15
    have g16 := hr' 16 (by omega)
    rw [h16] at g16
    have g17 := hr' 17 (by omega)
    rw [h17] at g17
    have g18 := hr' 18 (by omega)
    rw [h18] at g18
    have g19 := hr' 19 (by omega)
    rw [h19] at g19
    have g20 := hr' 20 (by omega)
    rw [h20] at g20
    have g21 := hr' 21 (by omega)
    rw [h21] at g21
    have g22 := hr' 22 (by omega)
    rw [h22] at g22
    exact ⟨y, M', rfl, ⟨e0.trans (lw_s g11), e1.trans (lw_s g12), e2.trans (lw_s g13), e3.trans (lw_s g14), e4.trans (lw_s g15), e5.trans (lw_s g16), e6.trans (lw_s g17), e7.trans (lw_s g18), e8.trans (lw_s g19), e9.trans (lw_s g20), e10.trans (lw_s g21), e11.trans (lw_s g22)⟩⟩
theorem lwd_same {X : nt_X} {pl : Nat → Nat} {v : Nat → Int} {M : nt_M} {d : Nat} {o : Option Value × nt_M} {b0 b1 : Int32} (hd : 6 ≤ d) (hB : ly_B pl v M) (hb11 : (0 : Int) ≤ (nt_I M (pl 31) 1).toInt ∧ (nt_I M (pl 31) 1).toInt ≤ 1) (hb13 : (0 : Int) ≤ (nt_I M (pl 4) 0).toInt ∧ (nt_I M (pl 4) 0).toInt ≤ 4) (k : nt_ev X d 217 [.ref (pl 0), .int b0, .int b1] M o) : ∃ (y : Int32) (M' : nt_M), o = (some (.int y), M') ∧ (((nt_I M' (pl 31) 1).toInt = (nt_I M (pl 31) 1).toInt ∧ (nt_I M' (pl 31) 2).toInt = (nt_I M (pl 31) 2).toInt ∧ (nt_I M' (pl 4) 0).toInt = (nt_I M (pl 4) 0).toInt ∧ (nt_I M' (pl 4) 4).toInt = (nt_I M (pl 4) 4).toInt ∧ (nt_I M' (pl 14) 0).toInt = (nt_I M (pl 14) 0).toInt ∧ (nt_I M' (pl 14) 212).toInt = (nt_I M (pl 14) 212).toInt ∧ (nt_I M' (pl 14) 424).toInt = (nt_I M (pl 14) 424).toInt ∧ (nt_I M' (pl 14) 636).toInt = (nt_I M (pl 14) 636).toInt ∧ (nt_I M' (pl 14) 4).toInt = (nt_I M (pl 14) 4).toInt ∧ (nt_I M' (pl 14) 216).toInt = (nt_I M (pl 14) 216).toInt ∧ (nt_I M' (pl 14) 428).toInt = (nt_I M (pl 14) 428).toInt ∧ (nt_I M' (pl 14) 640).toInt = (nt_I M (pl 14) 640).toInt)) := by
  obtain ⟨r, hr, h11, h12, h13, h14, h15, h16, h17, h18, h19, h20, h21, h22, h23, h24⟩ : ∃ r : Nat → Int, (∀ s, s < 11 → r s = v s) ∧ r 11 = (nt_I M (pl 31) 1).toInt ∧ r 12 = (nt_I M (pl 31) 2).toInt ∧ r 13 = (nt_I M (pl 4) 0).toInt ∧ r 14 = (nt_I M (pl 4) 4).toInt ∧ r 15 = (nt_I M (pl 14) 0).toInt ∧ r 16 = (nt_I M (pl 14) 212).toInt ∧ r 17 = (nt_I M (pl 14) 424).toInt ∧ r 18 = (nt_I M (pl 14) 636).toInt ∧ r 19 = (nt_I M (pl 14) 4).toInt ∧ r 20 = (nt_I M (pl 14) 216).toInt ∧ r 21 = (nt_I M (pl 14) 428).toInt ∧ r 22 = (nt_I M (pl 14) 640).toInt ∧ r 23 = b0.toInt ∧ r 24 = b1.toInt := ⟨fun s => if s = 11 then (nt_I M (pl 31) 1).toInt else if s = 12 then (nt_I M (pl 31) 2).toInt else if s = 13 then (nt_I M (pl 4) 0).toInt else if s = 14 then (nt_I M (pl 4) 4).toInt else if s = 15 then (nt_I M (pl 14) 0).toInt else if s = 16 then (nt_I M (pl 14) 212).toInt else if s = 17 then (nt_I M (pl 14) 424).toInt else if s = 18 then (nt_I M (pl 14) 636).toInt else if s = 19 then (nt_I M (pl 14) 4).toInt else if s = 20 then (nt_I M (pl 14) 216).toInt else if s = 21 then (nt_I M (pl 14) 428).toInt else if s = 22 then (nt_I M (pl 14) 640).toInt else if s = 23 then b0.toInt else if s = 24 then b1.toInt else v s, fun s hs => by dsimp only; rw [if_neg (by omega), if_neg (by omega), if_neg (by omega), if_neg (by omega), if_neg (by omega), if_neg (by omega), if_neg (by omega), if_neg (by omega), if_neg (by omega), if_neg (by omega), if_neg (by omega), if_neg (by omega), if_neg (by omega), if_neg (by omega)], rfl, rfl, rfl, rfl, rfl, rfl, rfl, rfl, rfl, rfl, rfl, rfl, rfl, rfl⟩
  have hij := ly_ij (K := kk_wd_same) rfl hB
  have hon := ly_app (K := kk_wd_same) (ed := []) (ec := [((31, (1, [])), (0, [(11, 1)])), ((31, (2, [])), (0, [(12, 1)])), ((4, (0, [])), (0, [(13, 1)])), ((4, (4, [])), (0, [(14, 1)])), ((14, (0, [])), (0, [(15, 1)])), ((14, (212, [])), (0, [(16, 1)])), ((14, (424, [])), (0, [(17, 1)])), ((14, (636, [])), (0, [(18, 1)])), ((14, (4, [])), (0, [(19, 1)])), ((14, (216, [])), (0, [(20, 1)])), ((14, (428, [])), (0, [(21, 1)])), ((14, (640, [])), (0, [(22, 1)]))]) (er := []) rfl hB (fun _ _ => rfl) hr hij ly_nil (lw_oiC (g := 31) (j := 1) (by show 31 < 66; decide) (by decide) (by dsimp only; rw [sx_s_e]; exact h11.symm) (lw_oiC (g := 31) (j := 2) (by show 31 < 66; decide) (by decide) (by dsimp only; rw [sx_s_e]; exact h12.symm) (lw_oiC (g := 4) (j := 0) (by show 4 < 66; decide) (by decide) (by dsimp only; rw [sx_s_e]; exact h13.symm) (lw_oiC (g := 4) (j := 4) (by show 4 < 66; decide) (by decide) (by dsimp only; rw [sx_s_e]; exact h14.symm) (lw_oiC (g := 14) (j := 0) (by show 14 < 66; decide) (by decide) (by dsimp only; rw [sx_s_e]; exact h15.symm) (lw_oiC (g := 14) (j := 212) (by show 14 < 66; decide) (by decide) (by dsimp only; rw [sx_s_e]; exact h16.symm) (lw_oiC (g := 14) (j := 424) (by show 14 < 66; decide) (by decide) (by dsimp only; rw [sx_s_e]; exact h17.symm) (lw_oiC (g := 14) (j := 636) (by show 14 < 66; decide) (by decide) (by dsimp only; rw [sx_s_e]; exact h18.symm) (lw_oiC (g := 14) (j := 4) (by show 14 < 66; decide) (by decide) (by dsimp only; rw [sx_s_e]; exact h19.symm) (lw_oiC (g := 14) (j := 216) (by show 14 < 66; decide) (by decide) (by dsimp only; rw [sx_s_e]; exact h20.symm) (lw_oiC (g := 14) (j := 428) (by show 14 < 66; decide) (by decide) (by dsimp only; rw [sx_s_e]; exact h21.symm) (lw_oiC (g := 14) (j := 640) (by show 14 < 66; decide) (by decide) (by dsimp only; rw [sx_s_e]; exact h22.symm) (lw_oiN))))))))))))) (fun q hq => by cases hq) (ly_oba (ly_obr hr (ly_ob hB)) (ly_oba (ly_ob1 (by rw [h11]; exact hb11)) (ly_oba (ly_obI (x := nt_I M (pl 31) 2) h12) (ly_oba (ly_ob1 (by rw [h13]; exact hb13)) (ly_oba (ly_obI (x := nt_I M (pl 4) 4) h14) (ly_oba (ly_obI (x := nt_I M (pl 14) 0) h15) (ly_oba (ly_obI (x := nt_I M (pl 14) 212) h16) (ly_oba (ly_obI (x := nt_I M (pl 14) 424) h17) (ly_oba (ly_obI (x := nt_I M (pl 14) 636) h18) (ly_oba (ly_obI (x := nt_I M (pl 14) 4) h19) (ly_oba (ly_obI (x := nt_I M (pl 14) 216) h20) (ly_oba (ly_obI (x := nt_I M (pl 14) 428) h21) (ly_oba (ly_obI (x := nt_I M (pl 14) 640) h22) (ly_oba (ly_obI h23) (ly_obI h24))))))))))))))) ly_oc0
  obtain ⟨p, hp, r', h2, h3⟩ := lw_app (ko_wd_same X) rfl hd hon (vs := [.ref (pl 0), .int b0, .int b1]) ⟨rfl, ⟨b0, rfl, (ly_e1 h23).symm⟩, ⟨b1, rfl, (ly_e1 h24).symm⟩, trivial⟩ k
  have hr' : ∀ s, s < 25 → r' s = r s := fun s hs => h3.2.2.2.2.2.1 s hs
  obtain ⟨ov, M'⟩ := o
  rw [List.mem_singleton.mp hp] at h2 h3
  cases ov with
  | none => exact h2.elim
  | some w =>
    obtain ⟨y, rfl, hy⟩ := h2
    have hy : y.toInt = 0 + (1 * r' 25 + (0)) := hy
    have e0 : (nt_I M' (pl 31) 1).toInt = 0 + (1 * r' 11 + (0)) := lw_rd (g := 31) (j := 1) h3.2.2.1 (List.mem_of_getElem? (i := 0) rfl) (by decide)
    have e1 : (nt_I M' (pl 31) 2).toInt = 0 + (1 * r' 12 + (0)) := lw_rd (g := 31) (j := 2) h3.2.2.1 (List.mem_of_getElem? (i := 1) rfl) (by decide)
    have e2 : (nt_I M' (pl 4) 0).toInt = 0 + (1 * r' 13 + (0)) := lw_rd (g := 4) (j := 0) h3.2.2.1 (List.mem_of_getElem? (i := 2) rfl) (by decide)
    have e3 : (nt_I M' (pl 4) 4).toInt = 0 + (1 * r' 14 + (0)) := lw_rd (g := 4) (j := 4) h3.2.2.1 (List.mem_of_getElem? (i := 3) rfl) (by decide)
    have e4 : (nt_I M' (pl 14) 0).toInt = 0 + (1 * r' 15 + (0)) := lw_rd (g := 14) (j := 0) h3.2.2.1 (List.mem_of_getElem? (i := 4) rfl) (by decide)
    have e5 : (nt_I M' (pl 14) 212).toInt = 0 + (1 * r' 16 + (0)) := lw_rd (g := 14) (j := 212) h3.2.2.1 (List.mem_of_getElem? (i := 5) rfl) (by decide)
    have e6 : (nt_I M' (pl 14) 424).toInt = 0 + (1 * r' 17 + (0)) := lw_rd (g := 14) (j := 424) h3.2.2.1 (List.mem_of_getElem? (i := 6) rfl) (by decide)
    have e7 : (nt_I M' (pl 14) 636).toInt = 0 + (1 * r' 18 + (0)) := lw_rd (g := 14) (j := 636) h3.2.2.1 (List.mem_of_getElem? (i := 7) rfl) (by decide)
    have e8 : (nt_I M' (pl 14) 4).toInt = 0 + (1 * r' 19 + (0)) := lw_rd (g := 14) (j := 4) h3.2.2.1 (List.mem_of_getElem? (i := 8) rfl) (by decide)
    have e9 : (nt_I M' (pl 14) 216).toInt = 0 + (1 * r' 20 + (0)) := lw_rd (g := 14) (j := 216) h3.2.2.1 (List.mem_of_getElem? (i := 9) rfl) (by decide)
    have e10 : (nt_I M' (pl 14) 428).toInt = 0 + (1 * r' 21 + (0)) := lw_rd (g := 14) (j := 428) h3.2.2.1 (List.mem_of_getElem? (i := 10) rfl) (by decide)
    have e11 : (nt_I M' (pl 14) 640).toInt = 0 + (1 * r' 22 + (0)) := lw_rd (g := 14) (j := 640) h3.2.2.1 (List.mem_of_getElem? (i := 11) rfl) (by decide)
    have g11 := hr' 11 (by omega)
    rw [h11] at g11
    have g12 := hr' 12 (by omega)
    rw [h12] at g12
    have g13 := hr' 13 (by omega)
    rw [h13] at g13
    have g14 := hr' 14 (by omega)
    rw [h14] at g14
    have g15 := hr' 15 (by omega)
    rw [h15] at g15
    have g16 := hr' 16 (by omega)
    rw [h16] at g16
    have g17 := hr' 17 (by omega)
    rw [h17] at g17
    have g18 := hr' 18 (by omega)
    rw [h18] at g18
    have g19 := hr' 19 (by omega)
    rw [h19] at g19
    have g20 := hr' 20 (by omega)
    rw [h20] at g20
    have g21 := hr' 21 (by omega)
    rw [h21] at g21
    have g22 := hr' 22 (by omega)
    rw [h22] at g22
    exact ⟨y, M', rfl, ⟨e0.trans (lw_s g11), e1.trans (lw_s g12), e2.trans (lw_s g13), e3.trans (lw_s g14), e4.trans (lw_s g15), e5.trans (lw_s g16), e6.trans (lw_s g17), e7.trans (lw_s g18), e8.trans (lw_s g19), e9.trans (lw_s g20), e10.trans (lw_s g21), e11.trans (lw_s g22)⟩⟩
theorem lwd_n_unlike {X : nt_X} {pl : Nat → Nat} {v : Nat → Int} {M : nt_M} {d : Nat} {o : Option Value × nt_M} (hd : 3 ≤ d) (hB : ly_B pl v M) (hb11 : (0 : Int) ≤ (nt_I M (pl 31) 1).toInt ∧ (nt_I M (pl 31) 1).toInt ≤ 1) (hb13 : (0 : Int) ≤ (nt_I M (pl 4) 0).toInt ∧ (nt_I M (pl 4) 0).toInt ≤ 4) (k : nt_ev X d 120 [.ref (pl 16)] M o) : ∃ (y : Int32) (M' : nt_M), o = (some (.int y), M') ∧ (((nt_I M' (pl 31) 1).toInt = (nt_I M (pl 31) 1).toInt ∧ (nt_I M' (pl 31) 2).toInt = (nt_I M (pl 31) 2).toInt ∧ (nt_I M' (pl 4) 0).toInt = (nt_I M (pl 4) 0).toInt ∧ (nt_I M' (pl 4) 4).toInt = (nt_I M (pl 4) 4).toInt ∧ (nt_I M' (pl 14) 0).toInt = (nt_I M (pl 14) 0).toInt ∧ (nt_I M' (pl 14) 212).toInt = (nt_I M (pl 14) 212).toInt ∧ (nt_I M' (pl 14) 424).toInt = (nt_I M (pl 14) 424).toInt ∧ (nt_I M' (pl 14) 636).toInt = (nt_I M (pl 14) 636).toInt ∧ (nt_I M' (pl 14) 4).toInt = (nt_I M (pl 14) 4).toInt ∧ (nt_I M' (pl 14) 216).toInt = (nt_I M (pl 14) 216).toInt ∧ (nt_I M' (pl 14) 428).toInt = (nt_I M (pl 14) 428).toInt ∧ (nt_I M' (pl 14) 640).toInt = (nt_I M (pl 14) 640).toInt)) := by
  obtain ⟨r, hr, h11, h12, h13, h14, h15, h16, h17, h18, h19, h20, h21, h22⟩ : ∃ r : Nat → Int, (∀ s, s < 11 → r s = v s) ∧ r 11 = (nt_I M (pl 31) 1).toInt ∧ r 12 = (nt_I M (pl 31) 2).toInt ∧ r 13 = (nt_I M (pl 4) 0).toInt ∧ r 14 = (nt_I M (pl 4) 4).toInt ∧ r 15 = (nt_I M (pl 14) 0).toInt ∧ r 16 = (nt_I M (pl 14) 212).toInt ∧ r 17 = (nt_I M (pl 14) 424).toInt ∧ r 18 = (nt_I M (pl 14) 636).toInt ∧ r 19 = (nt_I M (pl 14) 4).toInt ∧ r 20 = (nt_I M (pl 14) 216).toInt ∧ r 21 = (nt_I M (pl 14) 428).toInt ∧ r 22 = (nt_I M (pl 14) 640).toInt := ⟨fun s => if s = 11 then (nt_I M (pl 31) 1).toInt else if s = 12 then (nt_I M (pl 31) 2).toInt else if s = 13 then (nt_I M (pl 4) 0).toInt else if s = 14 then (nt_I M (pl 4) 4).toInt else if s = 15 then (nt_I M (pl 14) 0).toInt else if s = 16 then (nt_I M (pl 14) 212).toInt else if s = 17 then (nt_I M (pl 14) 424).toInt else if s = 18 then (nt_I M (pl 14) 636).toInt else if s = 19 then (nt_I M (pl 14) 4).toInt else if s = 20 then (nt_I M (pl 14) 216).toInt else if s = 21 then (nt_I M (pl 14) 428).toInt else if s = 22 then (nt_I M (pl 14) 640).toInt else v s, fun s hs => by dsimp only; rw [if_neg (by omega), if_neg (by omega), if_neg (by omega), if_neg (by omega), if_neg (by omega), if_neg (by omega), if_neg (by omega), if_neg (by omega), if_neg (by omega), if_neg (by omega), if_neg (by omega), if_neg (by omega)], rfl, rfl, rfl, rfl, rfl, rfl, rfl, rfl, rfl, rfl, rfl, rfl⟩
  have hij := ly_ij (K := kk_wd_n_unlike) rfl hB
  have hon := ly_app (K := kk_wd_n_unlike) (ed := []) (ec := [((31, (1, [])), (0, [(11, 1)])), ((31, (2, [])), (0, [(12, 1)])), ((4, (0, [])), (0, [(13, 1)])), ((4, (4, [])), (0, [(14, 1)])), ((14, (0, [])), (0, [(15, 1)])), ((14, (212, [])), (0, [(16, 1)])), ((14, (424, [])), (0, [(17, 1)])), ((14, (636, [])), (0, [(18, 1)])), ((14, (4, [])), (0, [(19, 1)])), ((14, (216, [])), (0, [(20, 1)])), ((14, (428, [])), (0, [(21, 1)])), ((14, (640, [])), (0, [(22, 1)]))]) (er := []) rfl hB (fun _ _ => rfl) hr hij ly_nil (lw_oiC (g := 31) (j := 1) (by show 31 < 66; decide) (by decide) (by dsimp only; rw [sx_s_e]; exact h11.symm) (lw_oiC (g := 31) (j := 2) (by show 31 < 66; decide) (by decide) (by dsimp only; rw [sx_s_e]; exact h12.symm) (lw_oiC (g := 4) (j := 0) (by show 4 < 66; decide) (by decide) (by dsimp only; rw [sx_s_e]; exact h13.symm) (lw_oiC (g := 4) (j := 4) (by show 4 < 66; decide) (by decide) (by dsimp only; rw [sx_s_e]; exact h14.symm) (lw_oiC (g := 14) (j := 0) (by show 14 < 66; decide) (by decide) (by dsimp only; rw [sx_s_e]; exact h15.symm) (lw_oiC (g := 14) (j := 212) (by show 14 < 66; decide) (by decide) (by dsimp only; rw [sx_s_e]; exact h16.symm) (lw_oiC (g := 14) (j := 424) (by show 14 < 66; decide) (by decide) (by dsimp only; rw [sx_s_e]; exact h17.symm) (lw_oiC (g := 14) (j := 636) (by show 14 < 66; decide) (by decide) (by dsimp only; rw [sx_s_e]; exact h18.symm) (lw_oiC (g := 14) (j := 4) (by show 14 < 66; decide) (by decide) (by dsimp only; rw [sx_s_e]; exact h19.symm) (lw_oiC (g := 14) (j := 216) (by show 14 < 66; decide) (by decide) (by dsimp only; rw [sx_s_e]; exact h20.symm) (lw_oiC (g := 14) (j := 428) (by show 14 < 66; decide) (by decide) (by dsimp only; rw [sx_s_e]; exact h21.symm) (lw_oiC (g := 14) (j := 640) (by show 14 < 66; decide) (by decide) (by dsimp only; rw [sx_s_e]; exact h22.symm) (lw_oiN))))))))))))) (fun q hq => by cases hq) (ly_oba (ly_obr hr (ly_ob hB)) (ly_oba (ly_ob1 (by rw [h11]; exact hb11)) (ly_oba (ly_obI (x := nt_I M (pl 31) 2) h12) (ly_oba (ly_ob1 (by rw [h13]; exact hb13)) (ly_oba (ly_obI (x := nt_I M (pl 4) 4) h14) (ly_oba (ly_obI (x := nt_I M (pl 14) 0) h15) (ly_oba (ly_obI (x := nt_I M (pl 14) 212) h16) (ly_oba (ly_obI (x := nt_I M (pl 14) 424) h17) (ly_oba (ly_obI (x := nt_I M (pl 14) 636) h18) (ly_oba (ly_obI (x := nt_I M (pl 14) 4) h19) (ly_oba (ly_obI (x := nt_I M (pl 14) 216) h20) (ly_oba (ly_obI (x := nt_I M (pl 14) 428) h21) (ly_obI (x := nt_I M (pl 14) 640) h22))))))))))))) ly_oc0
  obtain ⟨p, hp, r', h2, h3⟩ := lw_app (ko_wd_n_unlike X) rfl hd hon (vs := [.ref (pl 16)]) ⟨rfl, trivial⟩ k
  have hr' : ∀ s, s < 23 → r' s = r s := fun s hs => h3.2.2.2.2.2.1 s hs
  obtain ⟨ov, M'⟩ := o
  rw [List.mem_singleton.mp hp] at h2 h3
  cases ov with
  | none => exact h2.elim
  | some w =>
    obtain ⟨y, rfl, hy⟩ := h2
    have hy : y.toInt = 0 + (1 * r' 23 + (0)) := hy
    have e0 : (nt_I M' (pl 31) 1).toInt = 0 + (1 * r' 11 + (0)) := lw_rd (g := 31) (j := 1) h3.2.2.1 (List.mem_of_getElem? (i := 0) rfl) (by decide)
    have e1 : (nt_I M' (pl 31) 2).toInt = 0 + (1 * r' 12 + (0)) := lw_rd (g := 31) (j := 2) h3.2.2.1 (List.mem_of_getElem? (i := 1) rfl) (by decide)
    have e2 : (nt_I M' (pl 4) 0).toInt = 0 + (1 * r' 13 + (0)) := lw_rd (g := 4) (j := 0) h3.2.2.1 (List.mem_of_getElem? (i := 2) rfl) (by decide)
    have e3 : (nt_I M' (pl 4) 4).toInt = 0 + (1 * r' 14 + (0)) := lw_rd (g := 4) (j := 4) h3.2.2.1 (List.mem_of_getElem? (i := 3) rfl) (by decide)
    have e4 : (nt_I M' (pl 14) 0).toInt = 0 + (1 * r' 15 + (0)) := lw_rd (g := 14) (j := 0) h3.2.2.1 (List.mem_of_getElem? (i := 4) rfl) (by decide)
    have e5 : (nt_I M' (pl 14) 212).toInt = 0 + (1 * r' 16 + (0)) := lw_rd (g := 14) (j := 212) h3.2.2.1 (List.mem_of_getElem? (i := 5) rfl) (by decide)
    have e6 : (nt_I M' (pl 14) 424).toInt = 0 + (1 * r' 17 + (0)) := lw_rd (g := 14) (j := 424) h3.2.2.1 (List.mem_of_getElem? (i := 6) rfl) (by decide)
    have e7 : (nt_I M' (pl 14) 636).toInt = 0 + (1 * r' 18 + (0)) := lw_rd (g := 14) (j := 636) h3.2.2.1 (List.mem_of_getElem? (i := 7) rfl) (by decide)
    have e8 : (nt_I M' (pl 14) 4).toInt = 0 + (1 * r' 19 + (0)) := lw_rd (g := 14) (j := 4) h3.2.2.1 (List.mem_of_getElem? (i := 8) rfl) (by decide)
    have e9 : (nt_I M' (pl 14) 216).toInt = 0 + (1 * r' 20 + (0)) := lw_rd (g := 14) (j := 216) h3.2.2.1 (List.mem_of_getElem? (i := 9) rfl) (by decide)
    have e10 : (nt_I M' (pl 14) 428).toInt = 0 + (1 * r' 21 + (0)) := lw_rd (g := 14) (j := 428) h3.2.2.1 (List.mem_of_getElem? (i := 10) rfl) (by decide)
    have e11 : (nt_I M' (pl 14) 640).toInt = 0 + (1 * r' 22 + (0)) := lw_rd (g := 14) (j := 640) h3.2.2.1 (List.mem_of_getElem? (i := 11) rfl) (by decide)
    have g11 := hr' 11 (by omega)
    rw [h11] at g11
    have g12 := hr' 12 (by omega)
    rw [h12] at g12
    have g13 := hr' 13 (by omega)
    rw [h13] at g13
    have g14 := hr' 14 (by omega)
    rw [h14] at g14
    have g15 := hr' 15 (by omega)
    rw [h15] at g15
    have g16 := hr' 16 (by omega)
    rw [h16] at g16
    have g17 := hr' 17 (by omega)
    rw [h17] at g17
    have g18 := hr' 18 (by omega)
    rw [h18] at g18
    have g19 := hr' 19 (by omega)
    rw [h19] at g19
    have g20 := hr' 20 (by omega)
    rw [h20] at g20
    have g21 := hr' 21 (by omega)
    rw [h21] at g21
    have g22 := hr' 22 (by omega)
    rw [h22] at g22
    exact ⟨y, M', rfl, ⟨e0.trans (lw_s g11), e1.trans (lw_s g12), e2.trans (lw_s g13), e3.trans (lw_s g14), e4.trans (lw_s g15), e5.trans (lw_s g16), e6.trans (lw_s g17), e7.trans (lw_s g18), e8.trans (lw_s g19), e9.trans (lw_s g20), e10.trans (lw_s g21), e11.trans (lw_s g22)⟩⟩
theorem lwd_unlike {X : nt_X} {pl : Nat → Nat} {v : Nat → Int} {M : nt_M} {d : Nat} {o : Option Value × nt_M} (hd : 6 ≤ d) (hB : ly_B pl v M) (hb11 : (0 : Int) ≤ (nt_I M (pl 31) 1).toInt ∧ (nt_I M (pl 31) 1).toInt ≤ 1) (hb13 : (0 : Int) ≤ (nt_I M (pl 4) 0).toInt ∧ (nt_I M (pl 4) 0).toInt ≤ 4) (k : nt_ev X d 221 [.ref (pl 0)] M o) : ∃ (y : Int32) (M' : nt_M), o = (some (.int y), M') ∧ (((nt_I M' (pl 31) 1).toInt = (nt_I M (pl 31) 1).toInt ∧ (nt_I M' (pl 31) 2).toInt = (nt_I M (pl 31) 2).toInt ∧ (nt_I M' (pl 4) 0).toInt = (nt_I M (pl 4) 0).toInt ∧ (nt_I M' (pl 4) 4).toInt = (nt_I M (pl 4) 4).toInt ∧ (nt_I M' (pl 14) 0).toInt = (nt_I M (pl 14) 0).toInt ∧ (nt_I M' (pl 14) 212).toInt = (nt_I M (pl 14) 212).toInt ∧ (nt_I M' (pl 14) 424).toInt = (nt_I M (pl 14) 424).toInt ∧ (nt_I M' (pl 14) 636).toInt = (nt_I M (pl 14) 636).toInt ∧ (nt_I M' (pl 14) 4).toInt = (nt_I M (pl 14) 4).toInt ∧ (nt_I M' (pl 14) 216).toInt = (nt_I M (pl 14) 216).toInt ∧ (nt_I M' (pl 14) 428).toInt = (nt_I M (pl 14) 428).toInt ∧ (nt_I M' (pl 14) 640).toInt = (nt_I M (pl 14) 640).toInt)) := by
  obtain ⟨r, hr, h11, h12, h13, h14, h15, h16, h17, h18, h19, h20, h21, h22⟩ : ∃ r : Nat → Int, (∀ s, s < 11 → r s = v s) ∧ r 11 = (nt_I M (pl 31) 1).toInt ∧ r 12 = (nt_I M (pl 31) 2).toInt ∧ r 13 = (nt_I M (pl 4) 0).toInt ∧ r 14 = (nt_I M (pl 4) 4).toInt ∧ r 15 = (nt_I M (pl 14) 0).toInt ∧ r 16 = (nt_I M (pl 14) 212).toInt ∧ r 17 = (nt_I M (pl 14) 424).toInt ∧ r 18 = (nt_I M (pl 14) 636).toInt ∧ r 19 = (nt_I M (pl 14) 4).toInt ∧ r 20 = (nt_I M (pl 14) 216).toInt ∧ r 21 = (nt_I M (pl 14) 428).toInt ∧ r 22 = (nt_I M (pl 14) 640).toInt := ⟨fun s => if s = 11 then (nt_I M (pl 31) 1).toInt else if s = 12 then (nt_I M (pl 31) 2).toInt else if s = 13 then (nt_I M (pl 4) 0).toInt else if s = 14 then (nt_I M (pl 4) 4).toInt else if s = 15 then (nt_I M (pl 14) 0).toInt else if s = 16 then (nt_I M (pl 14) 212).toInt else if s = 17 then (nt_I M (pl 14) 424).toInt else if s = 18 then (nt_I M (pl 14) 636).toInt else if s = 19 then (nt_I M (pl 14) 4).toInt else if s = 20 then (nt_I M (pl 14) 216).toInt else if s = 21 then (nt_I M (pl 14) 428).toInt else if s = 22 then (nt_I M (pl 14) 640).toInt else v s, fun s hs => by dsimp only; rw [if_neg (by omega), if_neg (by omega), if_neg (by omega), if_neg (by omega), if_neg (by omega), if_neg (by omega), if_neg (by omega), if_neg (by omega), if_neg (by omega), if_neg (by omega), if_neg (by omega), if_neg (by omega)], rfl, rfl, rfl, rfl, rfl, rfl, rfl, rfl, rfl, rfl, rfl, rfl⟩
  have hij := ly_ij (K := kk_wd_unlike) rfl hB
  have hon := ly_app (K := kk_wd_unlike) (ed := []) (ec := [((31, (1, [])), (0, [(11, 1)])), ((31, (2, [])), (0, [(12, 1)])), ((4, (0, [])), (0, [(13, 1)])), ((4, (4, [])), (0, [(14, 1)])), ((14, (0, [])), (0, [(15, 1)])), ((14, (212, [])), (0, [(16, 1)])), ((14, (424, [])), (0, [(17, 1)])), ((14, (636, [])), (0, [(18, 1)])), ((14, (4, [])), (0, [(19, 1)])), ((14, (216, [])), (0, [(20, 1)])), ((14, (428, [])), (0, [(21, 1)])), ((14, (640, [])), (0, [(22, 1)]))]) (er := []) rfl hB (fun _ _ => rfl) hr hij ly_nil (lw_oiC (g := 31) (j := 1) (by show 31 < 66; decide) (by decide) (by dsimp only; rw [sx_s_e]; exact h11.symm) (lw_oiC (g := 31) (j := 2) (by show 31 < 66; decide) (by decide) (by dsimp only; rw [sx_s_e]; exact h12.symm) (lw_oiC (g := 4) (j := 0) (by show 4 < 66; decide) (by decide) (by dsimp only; rw [sx_s_e]; exact h13.symm) (lw_oiC (g := 4) (j := 4) (by show 4 < 66; decide) (by decide) (by dsimp only; rw [sx_s_e]; exact h14.symm) (lw_oiC (g := 14) (j := 0) (by show 14 < 66; decide) (by decide) (by dsimp only; rw [sx_s_e]; exact h15.symm) (lw_oiC (g := 14) (j := 212) (by show 14 < 66; decide) (by decide) (by dsimp only; rw [sx_s_e]; exact h16.symm) (lw_oiC (g := 14) (j := 424) (by show 14 < 66; decide) (by decide) (by dsimp only; rw [sx_s_e]; exact h17.symm) (lw_oiC (g := 14) (j := 636) (by show 14 < 66; decide) (by decide) (by dsimp only; rw [sx_s_e]; exact h18.symm) (lw_oiC (g := 14) (j := 4) (by show 14 < 66; decide) (by decide) (by dsimp only; rw [sx_s_e]; exact h19.symm) (lw_oiC (g := 14) (j := 216) (by show 14 < 66; decide) (by decide) (by dsimp only; rw [sx_s_e]; exact h20.symm) (lw_oiC (g := 14) (j := 428) (by show 14 < 66; decide) (by decide) (by dsimp only; rw [sx_s_e]; exact h21.symm) (lw_oiC (g := 14) (j := 640) (by show 14 < 66; decide) (by decide) (by dsimp only; rw [sx_s_e]; exact h22.symm) (lw_oiN))))))))))))) (fun q hq => by cases hq) (ly_oba (ly_obr hr (ly_ob hB)) (ly_oba (ly_ob1 (by rw [h11]; exact hb11)) (ly_oba (ly_obI (x := nt_I M (pl 31) 2) h12) (ly_oba (ly_ob1 (by rw [h13]; exact hb13)) (ly_oba (ly_obI (x := nt_I M (pl 4) 4) h14) (ly_oba (ly_obI (x := nt_I M (pl 14) 0) h15) (ly_oba (ly_obI (x := nt_I M (pl 14) 212) h16) (ly_oba (ly_obI (x := nt_I M (pl 14) 424) h17) (ly_oba (ly_obI (x := nt_I M (pl 14) 636) h18) (ly_oba (ly_obI (x := nt_I M (pl 14) 4) h19) (ly_oba (ly_obI (x := nt_I M (pl 14) 216) h20) (ly_oba (ly_obI (x := nt_I M (pl 14) 428) h21) (ly_obI (x := nt_I M (pl 14) 640) h22))))))))))))) ly_oc0
  obtain ⟨p, hp, r', h2, h3⟩ := lw_app (ko_wd_unlike X) rfl hd hon (vs := [.ref (pl 0)]) ⟨rfl, trivial⟩ k
  have hr' : ∀ s, s < 23 → r' s = r s := fun s hs => h3.2.2.2.2.2.1 s hs
  obtain ⟨ov, M'⟩ := o
  rw [List.mem_singleton.mp hp] at h2 h3
  cases ov with
  | none => exact h2.elim
  | some w =>
    obtain ⟨y, rfl, hy⟩ := h2
    have hy : y.toInt = 0 + (1 * r' 23 + (0)) := hy
    have e0 : (nt_I M' (pl 31) 1).toInt = 0 + (1 * r' 11 + (0)) := lw_rd (g := 31) (j := 1) h3.2.2.1 (List.mem_of_getElem? (i := 0) rfl) (by decide)
    have e1 : (nt_I M' (pl 31) 2).toInt = 0 + (1 * r' 12 + (0)) := lw_rd (g := 31) (j := 2) h3.2.2.1 (List.mem_of_getElem? (i := 1) rfl) (by decide)
    have e2 : (nt_I M' (pl 4) 0).toInt = 0 + (1 * r' 13 + (0)) := lw_rd (g := 4) (j := 0) h3.2.2.1 (List.mem_of_getElem? (i := 2) rfl) (by decide)
    have e3 : (nt_I M' (pl 4) 4).toInt = 0 + (1 * r' 14 + (0)) := lw_rd (g := 4) (j := 4) h3.2.2.1 (List.mem_of_getElem? (i := 3) rfl) (by decide)
    have e4 : (nt_I M' (pl 14) 0).toInt = 0 + (1 * r' 15 + (0)) := lw_rd (g := 14) (j := 0) h3.2.2.1 (List.mem_of_getElem? (i := 4) rfl) (by decide)
    have e5 : (nt_I M' (pl 14) 212).toInt = 0 + (1 * r' 16 + (0)) := lw_rd (g := 14) (j := 212) h3.2.2.1 (List.mem_of_getElem? (i := 5) rfl) (by decide)
    have e6 : (nt_I M' (pl 14) 424).toInt = 0 + (1 * r' 17 + (0)) := lw_rd (g := 14) (j := 424) h3.2.2.1 (List.mem_of_getElem? (i := 6) rfl) (by decide)
    have e7 : (nt_I M' (pl 14) 636).toInt = 0 + (1 * r' 18 + (0)) := lw_rd (g := 14) (j := 636) h3.2.2.1 (List.mem_of_getElem? (i := 7) rfl) (by decide)
    have e8 : (nt_I M' (pl 14) 4).toInt = 0 + (1 * r' 19 + (0)) := lw_rd (g := 14) (j := 4) h3.2.2.1 (List.mem_of_getElem? (i := 8) rfl) (by decide)
    have e9 : (nt_I M' (pl 14) 216).toInt = 0 + (1 * r' 20 + (0)) := lw_rd (g := 14) (j := 216) h3.2.2.1 (List.mem_of_getElem? (i := 9) rfl) (by decide)
    have e10 : (nt_I M' (pl 14) 428).toInt = 0 + (1 * r' 21 + (0)) := lw_rd (g := 14) (j := 428) h3.2.2.1 (List.mem_of_getElem? (i := 10) rfl) (by decide)
    have e11 : (nt_I M' (pl 14) 640).toInt = 0 + (1 * r' 22 + (0)) := lw_rd (g := 14) (j := 640) h3.2.2.1 (List.mem_of_getElem? (i := 11) rfl) (by decide)
    have g11 := hr' 11 (by omega)
    rw [h11] at g11
    have g12 := hr' 12 (by omega)
    rw [h12] at g12
    have g13 := hr' 13 (by omega)
    rw [h13] at g13
    have g14 := hr' 14 (by omega)
    rw [h14] at g14
    have g15 := hr' 15 (by omega)
    rw [h15] at g15
    have g16 := hr' 16 (by omega)
    rw [h16] at g16
    have g17 := hr' 17 (by omega)
    rw [h17] at g17
    have g18 := hr' 18 (by omega)
    rw [h18] at g18
    have g19 := hr' 19 (by omega)
    rw [h19] at g19
    have g20 := hr' 20 (by omega)
    rw [h20] at g20
    have g21 := hr' 21 (by omega)
    rw [h21] at g21
    have g22 := hr' 22 (by omega)
    rw [h22] at g22
    exact ⟨y, M', rfl, ⟨e0.trans (lw_s g11), e1.trans (lw_s g12), e2.trans (lw_s g13), e3.trans (lw_s g14), e4.trans (lw_s g15), e5.trans (lw_s g16), e6.trans (lw_s g17), e7.trans (lw_s g18), e8.trans (lw_s g19), e9.trans (lw_s g20), e10.trans (lw_s g21), e11.trans (lw_s g22)⟩⟩
theorem lwd_n_wreck {X : nt_X} {pl : Nat → Nat} {v : Nat → Int} {M : nt_M} {d : Nat} {o : Option Value × nt_M} {b0 b1 : Int32} (hd : 2 ≤ d) (hB : ly_B pl v M) (hb11 : (0 : Int) ≤ (nt_I M (pl 31) 1).toInt ∧ (nt_I M (pl 31) 1).toInt ≤ 1) (hb13 : (0 : Int) ≤ (nt_I M (pl 4) 0).toInt ∧ (nt_I M (pl 4) 0).toInt ≤ 4) (k : nt_ev X d 121 [.ref (pl 16), .int b0, .int b1] M o) : ∃ (y : Int32) (M' : nt_M), o = (some (.int y), M') ∧ (((nt_I M' (pl 31) 1).toInt = (nt_I M (pl 31) 1).toInt ∧ (nt_I M' (pl 31) 2).toInt = (nt_I M (pl 31) 2).toInt ∧ (nt_I M' (pl 4) 0).toInt = (nt_I M (pl 4) 0).toInt ∧ (nt_I M' (pl 4) 4).toInt = (nt_I M (pl 4) 4).toInt ∧ (nt_I M' (pl 14) 0).toInt = (nt_I M (pl 14) 0).toInt ∧ (nt_I M' (pl 14) 212).toInt = (nt_I M (pl 14) 212).toInt ∧ (nt_I M' (pl 14) 424).toInt = (nt_I M (pl 14) 424).toInt ∧ (nt_I M' (pl 14) 636).toInt = (nt_I M (pl 14) 636).toInt ∧ (nt_I M' (pl 14) 4).toInt = (nt_I M (pl 14) 4).toInt ∧ (nt_I M' (pl 14) 216).toInt = (nt_I M (pl 14) 216).toInt ∧ (nt_I M' (pl 14) 428).toInt = (nt_I M (pl 14) 428).toInt ∧ (nt_I M' (pl 14) 640).toInt = (nt_I M (pl 14) 640).toInt)) := by
  obtain ⟨r, hr, h11, h12, h13, h14, h15, h16, h17, h18, h19, h20, h21, h22, h23, h24⟩ : ∃ r : Nat → Int, (∀ s, s < 11 → r s = v s) ∧ r 11 = (nt_I M (pl 31) 1).toInt ∧ r 12 = (nt_I M (pl 31) 2).toInt ∧ r 13 = (nt_I M (pl 4) 0).toInt ∧ r 14 = (nt_I M (pl 4) 4).toInt ∧ r 15 = (nt_I M (pl 14) 0).toInt ∧ r 16 = (nt_I M (pl 14) 212).toInt ∧ r 17 = (nt_I M (pl 14) 424).toInt ∧ r 18 = (nt_I M (pl 14) 636).toInt ∧ r 19 = (nt_I M (pl 14) 4).toInt ∧ r 20 = (nt_I M (pl 14) 216).toInt ∧ r 21 = (nt_I M (pl 14) 428).toInt ∧ r 22 = (nt_I M (pl 14) 640).toInt ∧ r 23 = b0.toInt ∧ r 24 = b1.toInt := ⟨fun s => if s = 11 then (nt_I M (pl 31) 1).toInt else if s = 12 then (nt_I M (pl 31) 2).toInt else if s = 13 then (nt_I M (pl 4) 0).toInt else if s = 14 then (nt_I M (pl 4) 4).toInt else if s = 15 then (nt_I M (pl 14) 0).toInt else if s = 16 then (nt_I M (pl 14) 212).toInt else if s = 17 then (nt_I M (pl 14) 424).toInt else if s = 18 then (nt_I M (pl 14) 636).toInt else if s = 19 then (nt_I M (pl 14) 4).toInt else if s = 20 then (nt_I M (pl 14) 216).toInt else if s = 21 then (nt_I M (pl 14) 428).toInt else if s = 22 then (nt_I M (pl 14) 640).toInt else if s = 23 then b0.toInt else if s = 24 then b1.toInt else v s, fun s hs => by dsimp only; rw [if_neg (by omega), if_neg (by omega), if_neg (by omega), if_neg (by omega), if_neg (by omega), if_neg (by omega), if_neg (by omega), if_neg (by omega), if_neg (by omega), if_neg (by omega), if_neg (by omega), if_neg (by omega), if_neg (by omega), if_neg (by omega)], rfl, rfl, rfl, rfl, rfl, rfl, rfl, rfl, rfl, rfl, rfl, rfl, rfl, rfl⟩
  have hij := ly_ij (K := kk_wd_n_wreck) rfl hB
  have hon := ly_app (K := kk_wd_n_wreck) (ed := []) (ec := [((31, (1, [])), (0, [(11, 1)])), ((31, (2, [])), (0, [(12, 1)])), ((4, (0, [])), (0, [(13, 1)])), ((4, (4, [])), (0, [(14, 1)])), ((14, (0, [])), (0, [(15, 1)])), ((14, (212, [])), (0, [(16, 1)])), ((14, (424, [])), (0, [(17, 1)])), ((14, (636, [])), (0, [(18, 1)])), ((14, (4, [])), (0, [(19, 1)])), ((14, (216, [])), (0, [(20, 1)])), ((14, (428, [])), (0, [(21, 1)])), ((14, (640, [])), (0, [(22, 1)]))]) (er := []) rfl hB (fun _ _ => rfl) hr hij ly_nil (lw_oiC (g := 31) (j := 1) (by show 31 < 66; decide) (by decide) (by dsimp only; rw [sx_s_e]; exact h11.symm) (lw_oiC (g := 31) (j := 2) (by show 31 < 66; decide) (by decide) (by dsimp only; rw [sx_s_e]; exact h12.symm) (lw_oiC (g := 4) (j := 0) (by show 4 < 66; decide) (by decide) (by dsimp only; rw [sx_s_e]; exact h13.symm) (lw_oiC (g := 4) (j := 4) (by show 4 < 66; decide) (by decide) (by dsimp only; rw [sx_s_e]; exact h14.symm) (lw_oiC (g := 14) (j := 0) (by show 14 < 66; decide) (by decide) (by dsimp only; rw [sx_s_e]; exact h15.symm) (lw_oiC (g := 14) (j := 212) (by show 14 < 66; decide) (by decide) (by dsimp only; rw [sx_s_e]; exact h16.symm) (lw_oiC (g := 14) (j := 424) (by show 14 < 66; decide) (by decide) (by dsimp only; rw [sx_s_e]; exact h17.symm) (lw_oiC (g := 14) (j := 636) (by show 14 < 66; decide) (by decide) (by dsimp only; rw [sx_s_e]; exact h18.symm) (lw_oiC (g := 14) (j := 4) (by show 14 < 66; decide) (by decide) (by dsimp only; rw [sx_s_e]; exact h19.symm) (lw_oiC (g := 14) (j := 216) (by show 14 < 66; decide) (by decide) (by dsimp only; rw [sx_s_e]; exact h20.symm) (lw_oiC (g := 14) (j := 428) (by show 14 < 66; decide) (by decide) (by dsimp only; rw [sx_s_e]; exact h21.symm) (lw_oiC (g := 14) (j := 640) (by show 14 < 66; decide) (by decide) (by dsimp only; rw [sx_s_e]; exact h22.symm) (lw_oiN))))))))))))) (fun q hq => by cases hq) (ly_oba (ly_obr hr (ly_ob hB)) (ly_oba (ly_ob1 (by rw [h11]; exact hb11)) (ly_oba (ly_obI (x := nt_I M (pl 31) 2) h12) (ly_oba (ly_ob1 (by rw [h13]; exact hb13)) (ly_oba (ly_obI (x := nt_I M (pl 4) 4) h14) (ly_oba (ly_obI (x := nt_I M (pl 14) 0) h15) (ly_oba (ly_obI (x := nt_I M (pl 14) 212) h16) (ly_oba (ly_obI (x := nt_I M (pl 14) 424) h17) (ly_oba (ly_obI (x := nt_I M (pl 14) 636) h18) (ly_oba (ly_obI (x := nt_I M (pl 14) 4) h19) (ly_oba (ly_obI (x := nt_I M (pl 14) 216) h20) (ly_oba (ly_obI (x := nt_I M (pl 14) 428) h21) (ly_oba (ly_obI (x := nt_I M (pl 14) 640) h22) (ly_oba (ly_obI h23) (ly_obI h24))))))))))))))) ly_oc0
  obtain ⟨p, hp, r', h2, h3⟩ := lw_app (ko_wd_n_wreck X) rfl hd hon (vs := [.ref (pl 16), .int b0, .int b1]) ⟨rfl, ⟨b0, rfl, (ly_e1 h23).symm⟩, ⟨b1, rfl, (ly_e1 h24).symm⟩, trivial⟩ k
  have hr' : ∀ s, s < 25 → r' s = r s := fun s hs => h3.2.2.2.2.2.1 s hs
  obtain ⟨ov, M'⟩ := o
  rw [List.mem_singleton.mp hp] at h2 h3
  cases ov with
  | none => exact h2.elim
  | some w =>
    obtain ⟨y, rfl, hy⟩ := h2
    have hy : y.toInt = 0 + (1 * r' 25 + (0)) := hy
    have e0 : (nt_I M' (pl 31) 1).toInt = 0 + (1 * r' 11 + (0)) := lw_rd (g := 31) (j := 1) h3.2.2.1 (List.mem_of_getElem? (i := 0) rfl) (by decide)
    have e1 : (nt_I M' (pl 31) 2).toInt = 0 + (1 * r' 12 + (0)) := lw_rd (g := 31) (j := 2) h3.2.2.1 (List.mem_of_getElem? (i := 1) rfl) (by decide)
    have e2 : (nt_I M' (pl 4) 0).toInt = 0 + (1 * r' 13 + (0)) := lw_rd (g := 4) (j := 0) h3.2.2.1 (List.mem_of_getElem? (i := 2) rfl) (by decide)
    have e3 : (nt_I M' (pl 4) 4).toInt = 0 + (1 * r' 14 + (0)) := lw_rd (g := 4) (j := 4) h3.2.2.1 (List.mem_of_getElem? (i := 3) rfl) (by decide)
    have e4 : (nt_I M' (pl 14) 0).toInt = 0 + (1 * r' 15 + (0)) := lw_rd (g := 14) (j := 0) h3.2.2.1 (List.mem_of_getElem? (i := 4) rfl) (by decide)
    have e5 : (nt_I M' (pl 14) 212).toInt = 0 + (1 * r' 16 + (0)) := lw_rd (g := 14) (j := 212) h3.2.2.1 (List.mem_of_getElem? (i := 5) rfl) (by decide)
    have e6 : (nt_I M' (pl 14) 424).toInt = 0 + (1 * r' 17 + (0)) := lw_rd (g := 14) (j := 424) h3.2.2.1 (List.mem_of_getElem? (i := 6) rfl) (by decide)
    have e7 : (nt_I M' (pl 14) 636).toInt = 0 + (1 * r' 18 + (0)) := lw_rd (g := 14) (j := 636) h3.2.2.1 (List.mem_of_getElem? (i := 7) rfl) (by decide)
    have e8 : (nt_I M' (pl 14) 4).toInt = 0 + (1 * r' 19 + (0)) := lw_rd (g := 14) (j := 4) h3.2.2.1 (List.mem_of_getElem? (i := 8) rfl) (by decide)
    have e9 : (nt_I M' (pl 14) 216).toInt = 0 + (1 * r' 20 + (0)) := lw_rd (g := 14) (j := 216) h3.2.2.1 (List.mem_of_getElem? (i := 9) rfl) (by decide)
    have e10 : (nt_I M' (pl 14) 428).toInt = 0 + (1 * r' 21 + (0)) := lw_rd (g := 14) (j := 428) h3.2.2.1 (List.mem_of_getElem? (i := 10) rfl) (by decide)
    have e11 : (nt_I M' (pl 14) 640).toInt = 0 + (1 * r' 22 + (0)) := lw_rd (g := 14) (j := 640) h3.2.2.1 (List.mem_of_getElem? (i := 11) rfl) (by decide)
    have g11 := hr' 11 (by omega)
    rw [h11] at g11
    have g12 := hr' 12 (by omega)
    rw [h12] at g12
    have g13 := hr' 13 (by omega)
    rw [h13] at g13
    have g14 := hr' 14 (by omega)
    rw [h14] at g14
    have g15 := hr' 15 (by omega)
    rw [h15] at g15
    have g16 := hr' 16 (by omega)
    rw [h16] at g16
    have g17 := hr' 17 (by omega)
    rw [h17] at g17
    have g18 := hr' 18 (by omega)
    rw [h18] at g18
    have g19 := hr' 19 (by omega)
    rw [h19] at g19
    have g20 := hr' 20 (by omega)
    rw [h20] at g20
    have g21 := hr' 21 (by omega)
    rw [h21] at g21
    have g22 := hr' 22 (by omega)
    rw [h22] at g22
    exact ⟨y, M', rfl, ⟨e0.trans (lw_s g11), e1.trans (lw_s g12), e2.trans (lw_s g13), e3.trans (lw_s g14), e4.trans (lw_s g15), e5.trans (lw_s g16), e6.trans (lw_s g17), e7.trans (lw_s g18), e8.trans (lw_s g19), e9.trans (lw_s g20), e10.trans (lw_s g21), e11.trans (lw_s g22)⟩⟩
theorem lwd_wreck {X : nt_X} {pl : Nat → Nat} {v : Nat → Int} {M : nt_M} {d : Nat} {o : Option Value × nt_M} {b0 b1 : Int32} (hd : 5 ≤ d) (hB : ly_B pl v M) (hb11 : (0 : Int) ≤ (nt_I M (pl 31) 1).toInt ∧ (nt_I M (pl 31) 1).toInt ≤ 1) (hb13 : (0 : Int) ≤ (nt_I M (pl 4) 0).toInt ∧ (nt_I M (pl 4) 0).toInt ≤ 4) (k : nt_ev X d 222 [.ref (pl 0), .int b0, .int b1] M o) : ∃ (y : Int32) (M' : nt_M), o = (some (.int y), M') ∧ (((nt_I M' (pl 31) 1).toInt = (nt_I M (pl 31) 1).toInt ∧ (nt_I M' (pl 31) 2).toInt = (nt_I M (pl 31) 2).toInt ∧ (nt_I M' (pl 4) 0).toInt = (nt_I M (pl 4) 0).toInt ∧ (nt_I M' (pl 4) 4).toInt = (nt_I M (pl 4) 4).toInt ∧ (nt_I M' (pl 14) 0).toInt = (nt_I M (pl 14) 0).toInt ∧ (nt_I M' (pl 14) 212).toInt = (nt_I M (pl 14) 212).toInt ∧ (nt_I M' (pl 14) 424).toInt = (nt_I M (pl 14) 424).toInt ∧ (nt_I M' (pl 14) 636).toInt = (nt_I M (pl 14) 636).toInt ∧ (nt_I M' (pl 14) 4).toInt = (nt_I M (pl 14) 4).toInt ∧ (nt_I M' (pl 14) 216).toInt = (nt_I M (pl 14) 216).toInt ∧ (nt_I M' (pl 14) 428).toInt = (nt_I M (pl 14) 428).toInt ∧ (nt_I M' (pl 14) 640).toInt = (nt_I M (pl 14) 640).toInt)) := by
  obtain ⟨r, hr, h11, h12, h13, h14, h15, h16, h17, h18, h19, h20, h21, h22, h23, h24⟩ : ∃ r : Nat → Int, (∀ s, s < 11 → r s = v s) ∧ r 11 = (nt_I M (pl 31) 1).toInt ∧ r 12 = (nt_I M (pl 31) 2).toInt ∧ r 13 = (nt_I M (pl 4) 0).toInt ∧ r 14 = (nt_I M (pl 4) 4).toInt ∧ r 15 = (nt_I M (pl 14) 0).toInt ∧ r 16 = (nt_I M (pl 14) 212).toInt ∧ r 17 = (nt_I M (pl 14) 424).toInt ∧ r 18 = (nt_I M (pl 14) 636).toInt ∧ r 19 = (nt_I M (pl 14) 4).toInt ∧ r 20 = (nt_I M (pl 14) 216).toInt ∧ r 21 = (nt_I M (pl 14) 428).toInt ∧ r 22 = (nt_I M (pl 14) 640).toInt ∧ r 23 = b0.toInt ∧ r 24 = b1.toInt := ⟨fun s => if s = 11 then (nt_I M (pl 31) 1).toInt else if s = 12 then (nt_I M (pl 31) 2).toInt else if s = 13 then (nt_I M (pl 4) 0).toInt else if s = 14 then (nt_I M (pl 4) 4).toInt else if s = 15 then (nt_I M (pl 14) 0).toInt else if s = 16 then (nt_I M (pl 14) 212).toInt else if s = 17 then (nt_I M (pl 14) 424).toInt else if s = 18 then (nt_I M (pl 14) 636).toInt else if s = 19 then (nt_I M (pl 14) 4).toInt else if s = 20 then (nt_I M (pl 14) 216).toInt else if s = 21 then (nt_I M (pl 14) 428).toInt else if s = 22 then (nt_I M (pl 14) 640).toInt else if s = 23 then b0.toInt else if s = 24 then b1.toInt else v s, fun s hs => by dsimp only; rw [if_neg (by omega), if_neg (by omega), if_neg (by omega), if_neg (by omega), if_neg (by omega), if_neg (by omega), if_neg (by omega), if_neg (by omega), if_neg (by omega), if_neg (by omega), if_neg (by omega), if_neg (by omega), if_neg (by omega), if_neg (by omega)], rfl, rfl, rfl, rfl, rfl, rfl, rfl, rfl, rfl, rfl, rfl, rfl, rfl, rfl⟩
  have hij := ly_ij (K := kk_wd_wreck) rfl hB
  have hon := ly_app (K := kk_wd_wreck) (ed := []) (ec := [((31, (1, [])), (0, [(11, 1)])), ((31, (2, [])), (0, [(12, 1)])), ((4, (0, [])), (0, [(13, 1)])), ((4, (4, [])), (0, [(14, 1)])), ((14, (0, [])), (0, [(15, 1)])), ((14, (212, [])), (0, [(16, 1)])), ((14, (424, [])), (0, [(17, 1)])), ((14, (636, [])), (0, [(18, 1)])), ((14, (4, [])), (0, [(19, 1)])), ((14, (216, [])), (0, [(20, 1)])), ((14, (428, [])), (0, [(21, 1)])), ((14, (640, [])), (0, [(22, 1)]))]) (er := []) rfl hB (fun _ _ => rfl) hr hij ly_nil (lw_oiC (g := 31) (j := 1) (by show 31 < 66; decide) (by decide) (by dsimp only; rw [sx_s_e]; exact h11.symm) (lw_oiC (g := 31) (j := 2) (by show 31 < 66; decide) (by decide) (by dsimp only; rw [sx_s_e]; exact h12.symm) (lw_oiC (g := 4) (j := 0) (by show 4 < 66; decide) (by decide) (by dsimp only; rw [sx_s_e]; exact h13.symm) (lw_oiC (g := 4) (j := 4) (by show 4 < 66; decide) (by decide) (by dsimp only; rw [sx_s_e]; exact h14.symm) (lw_oiC (g := 14) (j := 0) (by show 14 < 66; decide) (by decide) (by dsimp only; rw [sx_s_e]; exact h15.symm) (lw_oiC (g := 14) (j := 212) (by show 14 < 66; decide) (by decide) (by dsimp only; rw [sx_s_e]; exact h16.symm) (lw_oiC (g := 14) (j := 424) (by show 14 < 66; decide) (by decide) (by dsimp only; rw [sx_s_e]; exact h17.symm) (lw_oiC (g := 14) (j := 636) (by show 14 < 66; decide) (by decide) (by dsimp only; rw [sx_s_e]; exact h18.symm) (lw_oiC (g := 14) (j := 4) (by show 14 < 66; decide) (by decide) (by dsimp only; rw [sx_s_e]; exact h19.symm) (lw_oiC (g := 14) (j := 216) (by show 14 < 66; decide) (by decide) (by dsimp only; rw [sx_s_e]; exact h20.symm) (lw_oiC (g := 14) (j := 428) (by show 14 < 66; decide) (by decide) (by dsimp only; rw [sx_s_e]; exact h21.symm) (lw_oiC (g := 14) (j := 640) (by show 14 < 66; decide) (by decide) (by dsimp only; rw [sx_s_e]; exact h22.symm) (lw_oiN))))))))))))) (fun q hq => by cases hq) (ly_oba (ly_obr hr (ly_ob hB)) (ly_oba (ly_ob1 (by rw [h11]; exact hb11)) (ly_oba (ly_obI (x := nt_I M (pl 31) 2) h12) (ly_oba (ly_ob1 (by rw [h13]; exact hb13)) (ly_oba (ly_obI (x := nt_I M (pl 4) 4) h14) (ly_oba (ly_obI (x := nt_I M (pl 14) 0) h15) (ly_oba (ly_obI (x := nt_I M (pl 14) 212) h16) (ly_oba (ly_obI (x := nt_I M (pl 14) 424) h17) (ly_oba (ly_obI (x := nt_I M (pl 14) 636) h18) (ly_oba (ly_obI (x := nt_I M (pl 14) 4) h19) (ly_oba (ly_obI (x := nt_I M (pl 14) 216) h20) (ly_oba (ly_obI (x := nt_I M (pl 14) 428) h21) (ly_oba (ly_obI (x := nt_I M (pl 14) 640) h22) (ly_oba (ly_obI h23) (ly_obI h24))))))))))))))) ly_oc0
  obtain ⟨p, hp, r', h2, h3⟩ := lw_app (ko_wd_wreck X) rfl hd hon (vs := [.ref (pl 0), .int b0, .int b1]) ⟨rfl, ⟨b0, rfl, (ly_e1 h23).symm⟩, ⟨b1, rfl, (ly_e1 h24).symm⟩, trivial⟩ k
  have hr' : ∀ s, s < 25 → r' s = r s := fun s hs => h3.2.2.2.2.2.1 s hs
  obtain ⟨ov, M'⟩ := o
  rw [List.mem_singleton.mp hp] at h2 h3
  cases ov with
  | none => exact h2.elim
  | some w =>
    obtain ⟨y, rfl, hy⟩ := h2
    have hy : y.toInt = 0 + (1 * r' 25 + (0)) := hy
    have e0 : (nt_I M' (pl 31) 1).toInt = 0 + (1 * r' 11 + (0)) := lw_rd (g := 31) (j := 1) h3.2.2.1 (List.mem_of_getElem? (i := 0) rfl) (by decide)
    have e1 : (nt_I M' (pl 31) 2).toInt = 0 + (1 * r' 12 + (0)) := lw_rd (g := 31) (j := 2) h3.2.2.1 (List.mem_of_getElem? (i := 1) rfl) (by decide)
    have e2 : (nt_I M' (pl 4) 0).toInt = 0 + (1 * r' 13 + (0)) := lw_rd (g := 4) (j := 0) h3.2.2.1 (List.mem_of_getElem? (i := 2) rfl) (by decide)
    have e3 : (nt_I M' (pl 4) 4).toInt = 0 + (1 * r' 14 + (0)) := lw_rd (g := 4) (j := 4) h3.2.2.1 (List.mem_of_getElem? (i := 3) rfl) (by decide)
    have e4 : (nt_I M' (pl 14) 0).toInt = 0 + (1 * r' 15 + (0)) := lw_rd (g := 14) (j := 0) h3.2.2.1 (List.mem_of_getElem? (i := 4) rfl) (by decide)
    have e5 : (nt_I M' (pl 14) 212).toInt = 0 + (1 * r' 16 + (0)) := lw_rd (g := 14) (j := 212) h3.2.2.1 (List.mem_of_getElem? (i := 5) rfl) (by decide)
    have e6 : (nt_I M' (pl 14) 424).toInt = 0 + (1 * r' 17 + (0)) := lw_rd (g := 14) (j := 424) h3.2.2.1 (List.mem_of_getElem? (i := 6) rfl) (by decide)
    have e7 : (nt_I M' (pl 14) 636).toInt = 0 + (1 * r' 18 + (0)) := lw_rd (g := 14) (j := 636) h3.2.2.1 (List.mem_of_getElem? (i := 7) rfl) (by decide)
    have e8 : (nt_I M' (pl 14) 4).toInt = 0 + (1 * r' 19 + (0)) := lw_rd (g := 14) (j := 4) h3.2.2.1 (List.mem_of_getElem? (i := 8) rfl) (by decide)
    have e9 : (nt_I M' (pl 14) 216).toInt = 0 + (1 * r' 20 + (0)) := lw_rd (g := 14) (j := 216) h3.2.2.1 (List.mem_of_getElem? (i := 9) rfl) (by decide)
    have e10 : (nt_I M' (pl 14) 428).toInt = 0 + (1 * r' 21 + (0)) := lw_rd (g := 14) (j := 428) h3.2.2.1 (List.mem_of_getElem? (i := 10) rfl) (by decide)
    have e11 : (nt_I M' (pl 14) 640).toInt = 0 + (1 * r' 22 + (0)) := lw_rd (g := 14) (j := 640) h3.2.2.1 (List.mem_of_getElem? (i := 11) rfl) (by decide)
    have g11 := hr' 11 (by omega)
    rw [h11] at g11
    have g12 := hr' 12 (by omega)
    rw [h12] at g12
    have g13 := hr' 13 (by omega)
    rw [h13] at g13
    have g14 := hr' 14 (by omega)
    rw [h14] at g14
    have g15 := hr' 15 (by omega)
    rw [h15] at g15
    have g16 := hr' 16 (by omega)
    rw [h16] at g16
    have g17 := hr' 17 (by omega)
    rw [h17] at g17
    have g18 := hr' 18 (by omega)
    rw [h18] at g18
    have g19 := hr' 19 (by omega)
    rw [h19] at g19
    have g20 := hr' 20 (by omega)
    rw [h20] at g20
    have g21 := hr' 21 (by omega)
    rw [h21] at g21
    have g22 := hr' 22 (by omega)
    rw [h22] at g22
    exact ⟨y, M', rfl, ⟨e0.trans (lw_s g11), e1.trans (lw_s g12), e2.trans (lw_s g13), e3.trans (lw_s g14), e4.trans (lw_s g15), e5.trans (lw_s g16), e6.trans (lw_s g17), e7.trans (lw_s g18), e8.trans (lw_s g19), e9.trans (lw_s g20), e10.trans (lw_s g21), e11.trans (lw_s g22)⟩⟩
theorem lwd_n_dealt {X : nt_X} {pl : Nat → Nat} {v : Nat → Int} {M : nt_M} {d : Nat} {o : Option Value × nt_M} {b0 : Int32} (hd : 3 ≤ d) (hB : ly_B pl v M) (hb11 : (0 : Int) ≤ (nt_I M (pl 31) 1).toInt ∧ (nt_I M (pl 31) 1).toInt ≤ 1) (hb13 : (0 : Int) ≤ (nt_I M (pl 4) 0).toInt ∧ (nt_I M (pl 4) 0).toInt ≤ 4) (k : nt_ev X d 122 [.ref (pl 16), .int b0] M o) : ∃ (y : Int32) (M' : nt_M), o = (some (.int y), M') ∧ (((nt_I M' (pl 31) 1).toInt = (nt_I M (pl 31) 1).toInt ∧ (nt_I M' (pl 31) 2).toInt = (nt_I M (pl 31) 2).toInt ∧ (nt_I M' (pl 4) 0).toInt = (nt_I M (pl 4) 0).toInt ∧ (nt_I M' (pl 4) 4).toInt = (nt_I M (pl 4) 4).toInt ∧ (nt_I M' (pl 14) 0).toInt = (nt_I M (pl 14) 0).toInt ∧ (nt_I M' (pl 14) 212).toInt = (nt_I M (pl 14) 212).toInt ∧ (nt_I M' (pl 14) 424).toInt = (nt_I M (pl 14) 424).toInt ∧ (nt_I M' (pl 14) 636).toInt = (nt_I M (pl 14) 636).toInt ∧ (nt_I M' (pl 14) 4).toInt = (nt_I M (pl 14) 4).toInt ∧ (nt_I M' (pl 14) 216).toInt = (nt_I M (pl 14) 216).toInt ∧ (nt_I M' (pl 14) 428).toInt = (nt_I M (pl 14) 428).toInt ∧ (nt_I M' (pl 14) 640).toInt = (nt_I M (pl 14) 640).toInt)) := by
  obtain ⟨r, hr, h11, h12, h13, h14, h15, h16, h17, h18, h19, h20, h21, h22, h23⟩ : ∃ r : Nat → Int, (∀ s, s < 11 → r s = v s) ∧ r 11 = (nt_I M (pl 31) 1).toInt ∧ r 12 = (nt_I M (pl 31) 2).toInt ∧ r 13 = (nt_I M (pl 4) 0).toInt ∧ r 14 = (nt_I M (pl 4) 4).toInt ∧ r 15 = (nt_I M (pl 14) 0).toInt ∧ r 16 = (nt_I M (pl 14) 212).toInt ∧ r 17 = (nt_I M (pl 14) 424).toInt ∧ r 18 = (nt_I M (pl 14) 636).toInt ∧ r 19 = (nt_I M (pl 14) 4).toInt ∧ r 20 = (nt_I M (pl 14) 216).toInt ∧ r 21 = (nt_I M (pl 14) 428).toInt ∧ r 22 = (nt_I M (pl 14) 640).toInt ∧ r 23 = b0.toInt := ⟨fun s => if s = 11 then (nt_I M (pl 31) 1).toInt else if s = 12 then (nt_I M (pl 31) 2).toInt else if s = 13 then (nt_I M (pl 4) 0).toInt else if s = 14 then (nt_I M (pl 4) 4).toInt else if s = 15 then (nt_I M (pl 14) 0).toInt else if s = 16 then (nt_I M (pl 14) 212).toInt else if s = 17 then (nt_I M (pl 14) 424).toInt else if s = 18 then (nt_I M (pl 14) 636).toInt else if s = 19 then (nt_I M (pl 14) 4).toInt else if s = 20 then (nt_I M (pl 14) 216).toInt else if s = 21 then (nt_I M (pl 14) 428).toInt else if s = 22 then (nt_I M (pl 14) 640).toInt else if s = 23 then b0.toInt else v s, fun s hs => by dsimp only; rw [if_neg (by omega), if_neg (by omega), if_neg (by omega), if_neg (by omega), if_neg (by omega), if_neg (by omega), if_neg (by omega), if_neg (by omega), if_neg (by omega), if_neg (by omega), if_neg (by omega), if_neg (by omega), if_neg (by omega)], rfl, rfl, rfl, rfl, rfl, rfl, rfl, rfl, rfl, rfl, rfl, rfl, rfl⟩
  have hij := ly_ij (K := kk_wd_n_dealt) rfl hB
  have hon := ly_app (K := kk_wd_n_dealt) (ed := []) (ec := [((31, (1, [])), (0, [(11, 1)])), ((31, (2, [])), (0, [(12, 1)])), ((4, (0, [])), (0, [(13, 1)])), ((4, (4, [])), (0, [(14, 1)])), ((14, (0, [])), (0, [(15, 1)])), ((14, (212, [])), (0, [(16, 1)])), ((14, (424, [])), (0, [(17, 1)])), ((14, (636, [])), (0, [(18, 1)])), ((14, (4, [])), (0, [(19, 1)])), ((14, (216, [])), (0, [(20, 1)])), ((14, (428, [])), (0, [(21, 1)])), ((14, (640, [])), (0, [(22, 1)]))]) (er := []) rfl hB (fun _ _ => rfl) hr hij ly_nil (lw_oiC (g := 31) (j := 1) (by show 31 < 66; decide) (by decide) (by dsimp only; rw [sx_s_e]; exact h11.symm) (lw_oiC (g := 31) (j := 2) (by show 31 < 66; decide) (by decide) (by dsimp only; rw [sx_s_e]; exact h12.symm) (lw_oiC (g := 4) (j := 0) (by show 4 < 66; decide) (by decide) (by dsimp only; rw [sx_s_e]; exact h13.symm) (lw_oiC (g := 4) (j := 4) (by show 4 < 66; decide) (by decide) (by dsimp only; rw [sx_s_e]; exact h14.symm) (lw_oiC (g := 14) (j := 0) (by show 14 < 66; decide) (by decide) (by dsimp only; rw [sx_s_e]; exact h15.symm) (lw_oiC (g := 14) (j := 212) (by show 14 < 66; decide) (by decide) (by dsimp only; rw [sx_s_e]; exact h16.symm) (lw_oiC (g := 14) (j := 424) (by show 14 < 66; decide) (by decide) (by dsimp only; rw [sx_s_e]; exact h17.symm) (lw_oiC (g := 14) (j := 636) (by show 14 < 66; decide) (by decide) (by dsimp only; rw [sx_s_e]; exact h18.symm) (lw_oiC (g := 14) (j := 4) (by show 14 < 66; decide) (by decide) (by dsimp only; rw [sx_s_e]; exact h19.symm) (lw_oiC (g := 14) (j := 216) (by show 14 < 66; decide) (by decide) (by dsimp only; rw [sx_s_e]; exact h20.symm) (lw_oiC (g := 14) (j := 428) (by show 14 < 66; decide) (by decide) (by dsimp only; rw [sx_s_e]; exact h21.symm) (lw_oiC (g := 14) (j := 640) (by show 14 < 66; decide) (by decide) (by dsimp only; rw [sx_s_e]; exact h22.symm) (lw_oiN))))))))))))) (fun q hq => by cases hq) (ly_oba (ly_obr hr (ly_ob hB)) (ly_oba (ly_ob1 (by rw [h11]; exact hb11)) (ly_oba (ly_obI (x := nt_I M (pl 31) 2) h12) (ly_oba (ly_ob1 (by rw [h13]; exact hb13)) (ly_oba (ly_obI (x := nt_I M (pl 4) 4) h14) (ly_oba (ly_obI (x := nt_I M (pl 14) 0) h15) (ly_oba (ly_obI (x := nt_I M (pl 14) 212) h16) (ly_oba (ly_obI (x := nt_I M (pl 14) 424) h17) (ly_oba (ly_obI (x := nt_I M (pl 14) 636) h18) (ly_oba (ly_obI (x := nt_I M (pl 14) 4) h19) (ly_oba (ly_obI (x := nt_I M (pl 14) 216) h20) (ly_oba (ly_obI (x := nt_I M (pl 14) 428) h21) (ly_oba (ly_obI (x := nt_I M (pl 14) 640) h22) (ly_obI h23)))))))))))))) ly_oc0
  obtain ⟨p, hp, r', h2, h3⟩ := lw_app (ko_wd_n_dealt X) rfl hd hon (vs := [.ref (pl 16), .int b0]) ⟨rfl, ⟨b0, rfl, (ly_e1 h23).symm⟩, trivial⟩ k
  have hr' : ∀ s, s < 24 → r' s = r s := fun s hs => h3.2.2.2.2.2.1 s hs
  obtain ⟨ov, M'⟩ := o
  rw [List.mem_singleton.mp hp] at h2 h3
  cases ov with
  | none => exact h2.elim
  | some w =>
    obtain ⟨y, rfl, hy⟩ := h2
    have hy : y.toInt = 0 + (1 * r' 24 + (0)) := hy
    have e0 : (nt_I M' (pl 31) 1).toInt = 0 + (1 * r' 11 + (0)) := lw_rd (g := 31) (j := 1) h3.2.2.1 (List.mem_of_getElem? (i := 0) rfl) (by decide)
    have e1 : (nt_I M' (pl 31) 2).toInt = 0 + (1 * r' 12 + (0)) := lw_rd (g := 31) (j := 2) h3.2.2.1 (List.mem_of_getElem? (i := 1) rfl) (by decide)
    have e2 : (nt_I M' (pl 4) 0).toInt = 0 + (1 * r' 13 + (0)) := lw_rd (g := 4) (j := 0) h3.2.2.1 (List.mem_of_getElem? (i := 2) rfl) (by decide)
    have e3 : (nt_I M' (pl 4) 4).toInt = 0 + (1 * r' 14 + (0)) := lw_rd (g := 4) (j := 4) h3.2.2.1 (List.mem_of_getElem? (i := 3) rfl) (by decide)
    have e4 : (nt_I M' (pl 14) 0).toInt = 0 + (1 * r' 15 + (0)) := lw_rd (g := 14) (j := 0) h3.2.2.1 (List.mem_of_getElem? (i := 4) rfl) (by decide)
    have e5 : (nt_I M' (pl 14) 212).toInt = 0 + (1 * r' 16 + (0)) := lw_rd (g := 14) (j := 212) h3.2.2.1 (List.mem_of_getElem? (i := 5) rfl) (by decide)
    have e6 : (nt_I M' (pl 14) 424).toInt = 0 + (1 * r' 17 + (0)) := lw_rd (g := 14) (j := 424) h3.2.2.1 (List.mem_of_getElem? (i := 6) rfl) (by decide)
    have e7 : (nt_I M' (pl 14) 636).toInt = 0 + (1 * r' 18 + (0)) := lw_rd (g := 14) (j := 636) h3.2.2.1 (List.mem_of_getElem? (i := 7) rfl) (by decide)
    have e8 : (nt_I M' (pl 14) 4).toInt = 0 + (1 * r' 19 + (0)) := lw_rd (g := 14) (j := 4) h3.2.2.1 (List.mem_of_getElem? (i := 8) rfl) (by decide)
    have e9 : (nt_I M' (pl 14) 216).toInt = 0 + (1 * r' 20 + (0)) := lw_rd (g := 14) (j := 216) h3.2.2.1 (List.mem_of_getElem? (i := 9) rfl) (by decide)
    have e10 : (nt_I M' (pl 14) 428).toInt = 0 + (1 * r' 21 + (0)) := lw_rd (g := 14) (j := 428) h3.2.2.1 (List.mem_of_getElem? (i := 10) rfl) (by decide)
    have e11 : (nt_I M' (pl 14) 640).toInt = 0 + (1 * r' 22 + (0)) := lw_rd (g := 14) (j := 640) h3.2.2.1 (List.mem_of_getElem? (i := 11) rfl) (by decide)
    have g11 := hr' 11 (by omega)
    rw [h11] at g11
    have g12 := hr' 12 (by omega)
    rw [h12] at g12
    have g13 := hr' 13 (by omega)
    rw [h13] at g13
    have g14 := hr' 14 (by omega)
    rw [h14] at g14
    have g15 := hr' 15 (by omega)
    rw [h15] at g15
    have g16 := hr' 16 (by omega)
    rw [h16] at g16
    have g17 := hr' 17 (by omega)
    rw [h17] at g17
    have g18 := hr' 18 (by omega)
    rw [h18] at g18
    have g19 := hr' 19 (by omega)
    rw [h19] at g19
    have g20 := hr' 20 (by omega)
    rw [h20] at g20
    have g21 := hr' 21 (by omega)
    rw [h21] at g21
    have g22 := hr' 22 (by omega)
    rw [h22] at g22
    exact ⟨y, M', rfl, ⟨e0.trans (lw_s g11), e1.trans (lw_s g12), e2.trans (lw_s g13), e3.trans (lw_s g14), e4.trans (lw_s g15), e5.trans (lw_s g16), e6.trans (lw_s g17), e7.trans (lw_s g18), e8.trans (lw_s g19), e9.trans (lw_s g20), e10.trans (lw_s g21), e11.trans (lw_s g22)⟩⟩
theorem lwd_dealt {X : nt_X} {pl : Nat → Nat} {v : Nat → Int} {M : nt_M} {d : Nat} {o : Option Value × nt_M} {b0 : Int32} (hd : 3 ≤ d) (hB : ly_B pl v M) (hb11 : (0 : Int) ≤ (nt_I M (pl 31) 1).toInt ∧ (nt_I M (pl 31) 1).toInt ≤ 1) (hb13 : (0 : Int) ≤ (nt_I M (pl 4) 0).toInt ∧ (nt_I M (pl 4) 0).toInt ≤ 4) (k : nt_ev X d 223 [.ref (pl 0), .int b0] M o) : ∃ (y : Int32) (M' : nt_M), o = (some (.int y), M') ∧ (((nt_I M' (pl 31) 1).toInt = (nt_I M (pl 31) 1).toInt ∧ (nt_I M' (pl 31) 2).toInt = (nt_I M (pl 31) 2).toInt ∧ (nt_I M' (pl 4) 0).toInt = (nt_I M (pl 4) 0).toInt ∧ (nt_I M' (pl 4) 4).toInt = (nt_I M (pl 4) 4).toInt ∧ (nt_I M' (pl 14) 0).toInt = (nt_I M (pl 14) 0).toInt ∧ (nt_I M' (pl 14) 212).toInt = (nt_I M (pl 14) 212).toInt ∧ (nt_I M' (pl 14) 424).toInt = (nt_I M (pl 14) 424).toInt ∧ (nt_I M' (pl 14) 636).toInt = (nt_I M (pl 14) 636).toInt ∧ (nt_I M' (pl 14) 4).toInt = (nt_I M (pl 14) 4).toInt ∧ (nt_I M' (pl 14) 216).toInt = (nt_I M (pl 14) 216).toInt ∧ (nt_I M' (pl 14) 428).toInt = (nt_I M (pl 14) 428).toInt ∧ (nt_I M' (pl 14) 640).toInt = (nt_I M (pl 14) 640).toInt)) := by
  obtain ⟨r, hr, h11, h12, h13, h14, h15, h16, h17, h18, h19, h20, h21, h22, h23⟩ : ∃ r : Nat → Int, (∀ s, s < 11 → r s = v s) ∧ r 11 = (nt_I M (pl 31) 1).toInt ∧ r 12 = (nt_I M (pl 31) 2).toInt ∧ r 13 = (nt_I M (pl 4) 0).toInt ∧ r 14 = (nt_I M (pl 4) 4).toInt ∧ r 15 = (nt_I M (pl 14) 0).toInt ∧ r 16 = (nt_I M (pl 14) 212).toInt ∧ r 17 = (nt_I M (pl 14) 424).toInt ∧ r 18 = (nt_I M (pl 14) 636).toInt ∧ r 19 = (nt_I M (pl 14) 4).toInt ∧ r 20 = (nt_I M (pl 14) 216).toInt ∧ r 21 = (nt_I M (pl 14) 428).toInt ∧ r 22 = (nt_I M (pl 14) 640).toInt ∧ r 23 = b0.toInt := ⟨fun s => if s = 11 then (nt_I M (pl 31) 1).toInt else if s = 12 then (nt_I M (pl 31) 2).toInt else if s = 13 then (nt_I M (pl 4) 0).toInt else if s = 14 then (nt_I M (pl 4) 4).toInt else if s = 15 then (nt_I M (pl 14) 0).toInt else if s = 16 then (nt_I M (pl 14) 212).toInt else if s = 17 then (nt_I M (pl 14) 424).toInt else if s = 18 then (nt_I M (pl 14) 636).toInt else if s = 19 then (nt_I M (pl 14) 4).toInt else if s = 20 then (nt_I M (pl 14) 216).toInt else if s = 21 then (nt_I M (pl 14) 428).toInt else if s = 22 then (nt_I M (pl 14) 640).toInt else if s = 23 then b0.toInt else v s, fun s hs => by dsimp only; rw [if_neg (by omega), if_neg (by omega), if_neg (by omega), if_neg (by omega), if_neg (by omega), if_neg (by omega), if_neg (by omega), if_neg (by omega), if_neg (by omega), if_neg (by omega), if_neg (by omega), if_neg (by omega), if_neg (by omega)], rfl, rfl, rfl, rfl, rfl, rfl, rfl, rfl, rfl, rfl, rfl, rfl, rfl⟩
  have hij := ly_ij (K := kk_wd_dealt) rfl hB
  have hon := ly_app (K := kk_wd_dealt) (ed := []) (ec := [((31, (1, [])), (0, [(11, 1)])), ((31, (2, [])), (0, [(12, 1)])), ((4, (0, [])), (0, [(13, 1)])), ((4, (4, [])), (0, [(14, 1)])), ((14, (0, [])), (0, [(15, 1)])), ((14, (212, [])), (0, [(16, 1)])), ((14, (424, [])), (0, [(17, 1)])), ((14, (636, [])), (0, [(18, 1)])), ((14, (4, [])), (0, [(19, 1)])), ((14, (216, [])), (0, [(20, 1)])), ((14, (428, [])), (0, [(21, 1)])), ((14, (640, [])), (0, [(22, 1)]))]) (er := []) rfl hB (fun _ _ => rfl) hr hij ly_nil (lw_oiC (g := 31) (j := 1) (by show 31 < 66; decide) (by decide) (by dsimp only; rw [sx_s_e]; exact h11.symm) (lw_oiC (g := 31) (j := 2) (by show 31 < 66; decide) (by decide) (by dsimp only; rw [sx_s_e]; exact h12.symm) (lw_oiC (g := 4) (j := 0) (by show 4 < 66; decide) (by decide) (by dsimp only; rw [sx_s_e]; exact h13.symm) (lw_oiC (g := 4) (j := 4) (by show 4 < 66; decide) (by decide) (by dsimp only; rw [sx_s_e]; exact h14.symm) (lw_oiC (g := 14) (j := 0) (by show 14 < 66; decide) (by decide) (by dsimp only; rw [sx_s_e]; exact h15.symm) (lw_oiC (g := 14) (j := 212) (by show 14 < 66; decide) (by decide) (by dsimp only; rw [sx_s_e]; exact h16.symm) (lw_oiC (g := 14) (j := 424) (by show 14 < 66; decide) (by decide) (by dsimp only; rw [sx_s_e]; exact h17.symm) (lw_oiC (g := 14) (j := 636) (by show 14 < 66; decide) (by decide) (by dsimp only; rw [sx_s_e]; exact h18.symm) (lw_oiC (g := 14) (j := 4) (by show 14 < 66; decide) (by decide) (by dsimp only; rw [sx_s_e]; exact h19.symm) (lw_oiC (g := 14) (j := 216) (by show 14 < 66; decide) (by decide) (by dsimp only; rw [sx_s_e]; exact h20.symm) (lw_oiC (g := 14) (j := 428) (by show 14 < 66; decide) (by decide) (by dsimp only; rw [sx_s_e]; exact h21.symm) (lw_oiC (g := 14) (j := 640) (by show 14 < 66; decide) (by decide) (by dsimp only; rw [sx_s_e]; exact h22.symm) (lw_oiN))))))))))))) (fun q hq => by cases hq) (ly_oba (ly_obr hr (ly_ob hB)) (ly_oba (ly_ob1 (by rw [h11]; exact hb11)) (ly_oba (ly_obI (x := nt_I M (pl 31) 2) h12) (ly_oba (ly_ob1 (by rw [h13]; exact hb13)) (ly_oba (ly_obI (x := nt_I M (pl 4) 4) h14) (ly_oba (ly_obI (x := nt_I M (pl 14) 0) h15) (ly_oba (ly_obI (x := nt_I M (pl 14) 212) h16) (ly_oba (ly_obI (x := nt_I M (pl 14) 424) h17) (ly_oba (ly_obI (x := nt_I M (pl 14) 636) h18) (ly_oba (ly_obI (x := nt_I M (pl 14) 4) h19) (ly_oba (ly_obI (x := nt_I M (pl 14) 216) h20) (ly_oba (ly_obI (x := nt_I M (pl 14) 428) h21) (ly_oba (ly_obI (x := nt_I M (pl 14) 640) h22) (ly_obI h23)))))))))))))) ly_oc0
  obtain ⟨p, hp, r', h2, h3⟩ := lw_app (ko_wd_dealt X) rfl hd hon (vs := [.ref (pl 0), .int b0]) ⟨rfl, ⟨b0, rfl, (ly_e1 h23).symm⟩, trivial⟩ k
  have hr' : ∀ s, s < 24 → r' s = r s := fun s hs => h3.2.2.2.2.2.1 s hs
  obtain ⟨ov, M'⟩ := o
  rw [List.mem_singleton.mp hp] at h2 h3
  cases ov with
  | none => exact h2.elim
  | some w =>
    obtain ⟨y, rfl, hy⟩ := h2
    have hy : y.toInt = 0 + (1 * r' 24 + (0)) := hy
    have e0 : (nt_I M' (pl 31) 1).toInt = 0 + (1 * r' 11 + (0)) := lw_rd (g := 31) (j := 1) h3.2.2.1 (List.mem_of_getElem? (i := 0) rfl) (by decide)
    have e1 : (nt_I M' (pl 31) 2).toInt = 0 + (1 * r' 12 + (0)) := lw_rd (g := 31) (j := 2) h3.2.2.1 (List.mem_of_getElem? (i := 1) rfl) (by decide)
    have e2 : (nt_I M' (pl 4) 0).toInt = 0 + (1 * r' 13 + (0)) := lw_rd (g := 4) (j := 0) h3.2.2.1 (List.mem_of_getElem? (i := 2) rfl) (by decide)
    have e3 : (nt_I M' (pl 4) 4).toInt = 0 + (1 * r' 14 + (0)) := lw_rd (g := 4) (j := 4) h3.2.2.1 (List.mem_of_getElem? (i := 3) rfl) (by decide)
    have e4 : (nt_I M' (pl 14) 0).toInt = 0 + (1 * r' 15 + (0)) := lw_rd (g := 14) (j := 0) h3.2.2.1 (List.mem_of_getElem? (i := 4) rfl) (by decide)
    have e5 : (nt_I M' (pl 14) 212).toInt = 0 + (1 * r' 16 + (0)) := lw_rd (g := 14) (j := 212) h3.2.2.1 (List.mem_of_getElem? (i := 5) rfl) (by decide)
    have e6 : (nt_I M' (pl 14) 424).toInt = 0 + (1 * r' 17 + (0)) := lw_rd (g := 14) (j := 424) h3.2.2.1 (List.mem_of_getElem? (i := 6) rfl) (by decide)
    have e7 : (nt_I M' (pl 14) 636).toInt = 0 + (1 * r' 18 + (0)) := lw_rd (g := 14) (j := 636) h3.2.2.1 (List.mem_of_getElem? (i := 7) rfl) (by decide)
    have e8 : (nt_I M' (pl 14) 4).toInt = 0 + (1 * r' 19 + (0)) := lw_rd (g := 14) (j := 4) h3.2.2.1 (List.mem_of_getElem? (i := 8) rfl) (by decide)
    have e9 : (nt_I M' (pl 14) 216).toInt = 0 + (1 * r' 20 + (0)) := lw_rd (g := 14) (j := 216) h3.2.2.1 (List.mem_of_getElem? (i := 9) rfl) (by decide)
    have e10 : (nt_I M' (pl 14) 428).toInt = 0 + (1 * r' 21 + (0)) := lw_rd (g := 14) (j := 428) h3.2.2.1 (List.mem_of_getElem? (i := 10) rfl) (by decide)
    have e11 : (nt_I M' (pl 14) 640).toInt = 0 + (1 * r' 22 + (0)) := lw_rd (g := 14) (j := 640) h3.2.2.1 (List.mem_of_getElem? (i := 11) rfl) (by decide)
    have g11 := hr' 11 (by omega)
    rw [h11] at g11
    have g12 := hr' 12 (by omega)
    rw [h12] at g12
    have g13 := hr' 13 (by omega)
    rw [h13] at g13
    have g14 := hr' 14 (by omega)
    rw [h14] at g14
    have g15 := hr' 15 (by omega)
    rw [h15] at g15
    have g16 := hr' 16 (by omega)
    rw [h16] at g16
    have g17 := hr' 17 (by omega)
    rw [h17] at g17
    have g18 := hr' 18 (by omega)
    rw [h18] at g18
    have g19 := hr' 19 (by omega)
    rw [h19] at g19
    have g20 := hr' 20 (by omega)
    rw [h20] at g20
    have g21 := hr' 21 (by omega)
    rw [h21] at g21
    have g22 := hr' 22 (by omega)
    rw [h22] at g22
    exact ⟨y, M', rfl, ⟨e0.trans (lw_s g11), e1.trans (lw_s g12), e2.trans (lw_s g13), e3.trans (lw_s g14), e4.trans (lw_s g15), e5.trans (lw_s g16), e6.trans (lw_s g17), e7.trans (lw_s g18), e8.trans (lw_s g19), e9.trans (lw_s g20), e10.trans (lw_s g21), e11.trans (lw_s g22)⟩⟩
theorem lwd_n_count {X : nt_X} {pl : Nat → Nat} {v : Nat → Int} {M : nt_M} {d : Nat} {o : Option Value × nt_M} {b0 : Int32} (hd : 1 ≤ d) (hB : ly_B pl v M) (hb11 : (0 : Int) ≤ (nt_I M (pl 31) 1).toInt ∧ (nt_I M (pl 31) 1).toInt ≤ 1) (hb13 : (0 : Int) ≤ (nt_I M (pl 4) 0).toInt ∧ (nt_I M (pl 4) 0).toInt ≤ 4) (k : nt_ev X d 126 [.ref (pl 16), .int b0] M o) : ∃ (y : Int32) (M' : nt_M), o = (some (.int y), M') ∧ (((nt_I M' (pl 31) 1).toInt = (nt_I M (pl 31) 1).toInt ∧ (nt_I M' (pl 31) 2).toInt = (nt_I M (pl 31) 2).toInt ∧ (nt_I M' (pl 4) 0).toInt = (nt_I M (pl 4) 0).toInt ∧ (nt_I M' (pl 4) 4).toInt = (nt_I M (pl 4) 4).toInt ∧ (nt_I M' (pl 14) 0).toInt = (nt_I M (pl 14) 0).toInt ∧ (nt_I M' (pl 14) 212).toInt = (nt_I M (pl 14) 212).toInt ∧ (nt_I M' (pl 14) 424).toInt = (nt_I M (pl 14) 424).toInt ∧ (nt_I M' (pl 14) 636).toInt = (nt_I M (pl 14) 636).toInt ∧ (nt_I M' (pl 14) 4).toInt = (nt_I M (pl 14) 4).toInt ∧ (nt_I M' (pl 14) 216).toInt = (nt_I M (pl 14) 216).toInt ∧ (nt_I M' (pl 14) 428).toInt = (nt_I M (pl 14) 428).toInt ∧ (nt_I M' (pl 14) 640).toInt = (nt_I M (pl 14) 640).toInt)) := by
  obtain ⟨r, hr, h11, h12, h13, h14, h15, h16, h17, h18, h19, h20, h21, h22, h23⟩ : ∃ r : Nat → Int, (∀ s, s < 11 → r s = v s) ∧ r 11 = (nt_I M (pl 31) 1).toInt ∧ r 12 = (nt_I M (pl 31) 2).toInt ∧ r 13 = (nt_I M (pl 4) 0).toInt ∧ r 14 = (nt_I M (pl 4) 4).toInt ∧ r 15 = (nt_I M (pl 14) 0).toInt ∧ r 16 = (nt_I M (pl 14) 212).toInt ∧ r 17 = (nt_I M (pl 14) 424).toInt ∧ r 18 = (nt_I M (pl 14) 636).toInt ∧ r 19 = (nt_I M (pl 14) 4).toInt ∧ r 20 = (nt_I M (pl 14) 216).toInt ∧ r 21 = (nt_I M (pl 14) 428).toInt ∧ r 22 = (nt_I M (pl 14) 640).toInt ∧ r 23 = b0.toInt := ⟨fun s => if s = 11 then (nt_I M (pl 31) 1).toInt else if s = 12 then (nt_I M (pl 31) 2).toInt else if s = 13 then (nt_I M (pl 4) 0).toInt else if s = 14 then (nt_I M (pl 4) 4).toInt else if s = 15 then (nt_I M (pl 14) 0).toInt else if s = 16 then (nt_I M (pl 14) 212).toInt else if s = 17 then (nt_I M (pl 14) 424).toInt else if s = 18 then (nt_I M (pl 14) 636).toInt else if s = 19 then (nt_I M (pl 14) 4).toInt else if s = 20 then (nt_I M (pl 14) 216).toInt else if s = 21 then (nt_I M (pl 14) 428).toInt else if s = 22 then (nt_I M (pl 14) 640).toInt else if s = 23 then b0.toInt else v s, fun s hs => by dsimp only; rw [if_neg (by omega), if_neg (by omega), if_neg (by omega), if_neg (by omega), if_neg (by omega), if_neg (by omega), if_neg (by omega), if_neg (by omega), if_neg (by omega), if_neg (by omega), if_neg (by omega), if_neg (by omega), if_neg (by omega)], rfl, rfl, rfl, rfl, rfl, rfl, rfl, rfl, rfl, rfl, rfl, rfl, rfl⟩
  have hij := ly_ij (K := kk_wd_n_count) rfl hB
  have hon := ly_app (K := kk_wd_n_count) (ed := []) (ec := [((31, (1, [])), (0, [(11, 1)])), ((31, (2, [])), (0, [(12, 1)])), ((4, (0, [])), (0, [(13, 1)])), ((4, (4, [])), (0, [(14, 1)])), ((14, (0, [])), (0, [(15, 1)])), ((14, (212, [])), (0, [(16, 1)])), ((14, (424, [])), (0, [(17, 1)])), ((14, (636, [])), (0, [(18, 1)])), ((14, (4, [])), (0, [(19, 1)])), ((14, (216, [])), (0, [(20, 1)])), ((14, (428, [])), (0, [(21, 1)])), ((14, (640, [])), (0, [(22, 1)]))]) (er := []) rfl hB (fun _ _ => rfl) hr hij ly_nil (lw_oiC (g := 31) (j := 1) (by show 31 < 66; decide) (by decide) (by dsimp only; rw [sx_s_e]; exact h11.symm) (lw_oiC (g := 31) (j := 2) (by show 31 < 66; decide) (by decide) (by dsimp only; rw [sx_s_e]; exact h12.symm) (lw_oiC (g := 4) (j := 0) (by show 4 < 66; decide) (by decide) (by dsimp only; rw [sx_s_e]; exact h13.symm) (lw_oiC (g := 4) (j := 4) (by show 4 < 66; decide) (by decide) (by dsimp only; rw [sx_s_e]; exact h14.symm) (lw_oiC (g := 14) (j := 0) (by show 14 < 66; decide) (by decide) (by dsimp only; rw [sx_s_e]; exact h15.symm) (lw_oiC (g := 14) (j := 212) (by show 14 < 66; decide) (by decide) (by dsimp only; rw [sx_s_e]; exact h16.symm) (lw_oiC (g := 14) (j := 424) (by show 14 < 66; decide) (by decide) (by dsimp only; rw [sx_s_e]; exact h17.symm) (lw_oiC (g := 14) (j := 636) (by show 14 < 66; decide) (by decide) (by dsimp only; rw [sx_s_e]; exact h18.symm) (lw_oiC (g := 14) (j := 4) (by show 14 < 66; decide) (by decide) (by dsimp only; rw [sx_s_e]; exact h19.symm) (lw_oiC (g := 14) (j := 216) (by show 14 < 66; decide) (by decide) (by dsimp only; rw [sx_s_e]; exact h20.symm) (lw_oiC (g := 14) (j := 428) (by show 14 < 66; decide) (by decide) (by dsimp only; rw [sx_s_e]; exact h21.symm) (lw_oiC (g := 14) (j := 640) (by show 14 < 66; decide) (by decide) (by dsimp only; rw [sx_s_e]; exact h22.symm) (lw_oiN))))))))))))) (fun q hq => by cases hq) (ly_oba (ly_obr hr (ly_ob hB)) (ly_oba (ly_ob1 (by rw [h11]; exact hb11)) (ly_oba (ly_obI (x := nt_I M (pl 31) 2) h12) (ly_oba (ly_ob1 (by rw [h13]; exact hb13)) (ly_oba (ly_obI (x := nt_I M (pl 4) 4) h14) (ly_oba (ly_obI (x := nt_I M (pl 14) 0) h15) (ly_oba (ly_obI (x := nt_I M (pl 14) 212) h16) (ly_oba (ly_obI (x := nt_I M (pl 14) 424) h17) (ly_oba (ly_obI (x := nt_I M (pl 14) 636) h18) (ly_oba (ly_obI (x := nt_I M (pl 14) 4) h19) (ly_oba (ly_obI (x := nt_I M (pl 14) 216) h20) (ly_oba (ly_obI (x := nt_I M (pl 14) 428) h21) (ly_oba (ly_obI (x := nt_I M (pl 14) 640) h22) (ly_obI h23)))))))))))))) ly_oc0
  obtain ⟨p, hp, r', h2, h3⟩ := lw_app (ko_wd_n_count X) rfl hd hon (vs := [.ref (pl 16), .int b0]) ⟨rfl, ⟨b0, rfl, (ly_e1 h23).symm⟩, trivial⟩ k
  have hr' : ∀ s, s < 24 → r' s = r s := fun s hs => h3.2.2.2.2.2.1 s hs
  obtain ⟨ov, M'⟩ := o
  rw [List.mem_singleton.mp hp] at h2 h3
  cases ov with
  | none => exact h2.elim
  | some w =>
    obtain ⟨y, rfl, hy⟩ := h2
    have hy : y.toInt = 0 + (1 * r' 24 + (0)) := hy
    have e0 : (nt_I M' (pl 31) 1).toInt = 0 + (1 * r' 11 + (0)) := lw_rd (g := 31) (j := 1) h3.2.2.1 (List.mem_of_getElem? (i := 0) rfl) (by decide)
    have e1 : (nt_I M' (pl 31) 2).toInt = 0 + (1 * r' 12 + (0)) := lw_rd (g := 31) (j := 2) h3.2.2.1 (List.mem_of_getElem? (i := 1) rfl) (by decide)
    have e2 : (nt_I M' (pl 4) 0).toInt = 0 + (1 * r' 13 + (0)) := lw_rd (g := 4) (j := 0) h3.2.2.1 (List.mem_of_getElem? (i := 2) rfl) (by decide)
    have e3 : (nt_I M' (pl 4) 4).toInt = 0 + (1 * r' 14 + (0)) := lw_rd (g := 4) (j := 4) h3.2.2.1 (List.mem_of_getElem? (i := 3) rfl) (by decide)
    have e4 : (nt_I M' (pl 14) 0).toInt = 0 + (1 * r' 15 + (0)) := lw_rd (g := 14) (j := 0) h3.2.2.1 (List.mem_of_getElem? (i := 4) rfl) (by decide)
    have e5 : (nt_I M' (pl 14) 212).toInt = 0 + (1 * r' 16 + (0)) := lw_rd (g := 14) (j := 212) h3.2.2.1 (List.mem_of_getElem? (i := 5) rfl) (by decide)
    have e6 : (nt_I M' (pl 14) 424).toInt = 0 + (1 * r' 17 + (0)) := lw_rd (g := 14) (j := 424) h3.2.2.1 (List.mem_of_getElem? (i := 6) rfl) (by decide)
    have e7 : (nt_I M' (pl 14) 636).toInt = 0 + (1 * r' 18 + (0)) := lw_rd (g := 14) (j := 636) h3.2.2.1 (List.mem_of_getElem? (i := 7) rfl) (by decide)
    have e8 : (nt_I M' (pl 14) 4).toInt = 0 + (1 * r' 19 + (0)) := lw_rd (g := 14) (j := 4) h3.2.2.1 (List.mem_of_getElem? (i := 8) rfl) (by decide)
    have e9 : (nt_I M' (pl 14) 216).toInt = 0 + (1 * r' 20 + (0)) := lw_rd (g := 14) (j := 216) h3.2.2.1 (List.mem_of_getElem? (i := 9) rfl) (by decide)
    have e10 : (nt_I M' (pl 14) 428).toInt = 0 + (1 * r' 21 + (0)) := lw_rd (g := 14) (j := 428) h3.2.2.1 (List.mem_of_getElem? (i := 10) rfl) (by decide)
    have e11 : (nt_I M' (pl 14) 640).toInt = 0 + (1 * r' 22 + (0)) := lw_rd (g := 14) (j := 640) h3.2.2.1 (List.mem_of_getElem? (i := 11) rfl) (by decide)
    have g11 := hr' 11 (by omega)
    rw [h11] at g11
    have g12 := hr' 12 (by omega)
    rw [h12] at g12
    have g13 := hr' 13 (by omega)
    rw [h13] at g13
    have g14 := hr' 14 (by omega)
    rw [h14] at g14
    have g15 := hr' 15 (by omega)
    rw [h15] at g15
    have g16 := hr' 16 (by omega)
    rw [h16] at g16
    have g17 := hr' 17 (by omega)
    rw [h17] at g17
    have g18 := hr' 18 (by omega)
    rw [h18] at g18
    have g19 := hr' 19 (by omega)
    rw [h19] at g19
    have g20 := hr' 20 (by omega)
    rw [h20] at g20
    have g21 := hr' 21 (by omega)
    rw [h21] at g21
    have g22 := hr' 22 (by omega)
    rw [h22] at g22
    exact ⟨y, M', rfl, ⟨e0.trans (lw_s g11), e1.trans (lw_s g12), e2.trans (lw_s g13), e3.trans (lw_s g14), e4.trans (lw_s g15), e5.trans (lw_s g16), e6.trans (lw_s g17), e7.trans (lw_s g18), e8.trans (lw_s g19), e9.trans (lw_s g20), e10.trans (lw_s g21), e11.trans (lw_s g22)⟩⟩
theorem lwd_count {X : nt_X} {pl : Nat → Nat} {v : Nat → Int} {M : nt_M} {d : Nat} {o : Option Value × nt_M} {b0 : Int32} (hd : 3 ≤ d) (hB : ly_B pl v M) (hb11 : (0 : Int) ≤ (nt_I M (pl 31) 1).toInt ∧ (nt_I M (pl 31) 1).toInt ≤ 1) (hb13 : (0 : Int) ≤ (nt_I M (pl 4) 0).toInt ∧ (nt_I M (pl 4) 0).toInt ≤ 4) (k : nt_ev X d 233 [.ref (pl 0), .int b0] M o) : ∃ (y : Int32) (M' : nt_M), o = (some (.int y), M') ∧ (((nt_I M' (pl 31) 1).toInt = (nt_I M (pl 31) 1).toInt ∧ (nt_I M' (pl 31) 2).toInt = (nt_I M (pl 31) 2).toInt ∧ (nt_I M' (pl 4) 0).toInt = (nt_I M (pl 4) 0).toInt ∧ (nt_I M' (pl 4) 4).toInt = (nt_I M (pl 4) 4).toInt ∧ (nt_I M' (pl 14) 0).toInt = (nt_I M (pl 14) 0).toInt ∧ (nt_I M' (pl 14) 212).toInt = (nt_I M (pl 14) 212).toInt ∧ (nt_I M' (pl 14) 424).toInt = (nt_I M (pl 14) 424).toInt ∧ (nt_I M' (pl 14) 636).toInt = (nt_I M (pl 14) 636).toInt ∧ (nt_I M' (pl 14) 4).toInt = (nt_I M (pl 14) 4).toInt ∧ (nt_I M' (pl 14) 216).toInt = (nt_I M (pl 14) 216).toInt ∧ (nt_I M' (pl 14) 428).toInt = (nt_I M (pl 14) 428).toInt ∧ (nt_I M' (pl 14) 640).toInt = (nt_I M (pl 14) 640).toInt)) := by
  obtain ⟨r, hr, h11, h12, h13, h14, h15, h16, h17, h18, h19, h20, h21, h22, h23⟩ : ∃ r : Nat → Int, (∀ s, s < 11 → r s = v s) ∧ r 11 = (nt_I M (pl 31) 1).toInt ∧ r 12 = (nt_I M (pl 31) 2).toInt ∧ r 13 = (nt_I M (pl 4) 0).toInt ∧ r 14 = (nt_I M (pl 4) 4).toInt ∧ r 15 = (nt_I M (pl 14) 0).toInt ∧ r 16 = (nt_I M (pl 14) 212).toInt ∧ r 17 = (nt_I M (pl 14) 424).toInt ∧ r 18 = (nt_I M (pl 14) 636).toInt ∧ r 19 = (nt_I M (pl 14) 4).toInt ∧ r 20 = (nt_I M (pl 14) 216).toInt ∧ r 21 = (nt_I M (pl 14) 428).toInt ∧ r 22 = (nt_I M (pl 14) 640).toInt ∧ r 23 = b0.toInt := ⟨fun s => if s = 11 then (nt_I M (pl 31) 1).toInt else if s = 12 then (nt_I M (pl 31) 2).toInt else if s = 13 then (nt_I M (pl 4) 0).toInt else if s = 14 then (nt_I M (pl 4) 4).toInt else if s = 15 then (nt_I M (pl 14) 0).toInt else if s = 16 then (nt_I M (pl 14) 212).toInt else if s = 17 then (nt_I M (pl 14) 424).toInt else if s = 18 then (nt_I M (pl 14) 636).toInt else if s = 19 then (nt_I M (pl 14) 4).toInt else if s = 20 then (nt_I M (pl 14) 216).toInt else if s = 21 then (nt_I M (pl 14) 428).toInt else if s = 22 then (nt_I M (pl 14) 640).toInt else if s = 23 then b0.toInt else v s, fun s hs => by dsimp only; rw [if_neg (by omega), if_neg (by omega), if_neg (by omega), if_neg (by omega), if_neg (by omega), if_neg (by omega), if_neg (by omega), if_neg (by omega), if_neg (by omega), if_neg (by omega), if_neg (by omega), if_neg (by omega), if_neg (by omega)], rfl, rfl, rfl, rfl, rfl, rfl, rfl, rfl, rfl, rfl, rfl, rfl, rfl⟩
  have hij := ly_ij (K := kk_wd_count) rfl hB
  have hon := ly_app (K := kk_wd_count) (ed := []) (ec := [((31, (1, [])), (0, [(11, 1)])), ((31, (2, [])), (0, [(12, 1)])), ((4, (0, [])), (0, [(13, 1)])), ((4, (4, [])), (0, [(14, 1)])), ((14, (0, [])), (0, [(15, 1)])), ((14, (212, [])), (0, [(16, 1)])), ((14, (424, [])), (0, [(17, 1)])), ((14, (636, [])), (0, [(18, 1)])), ((14, (4, [])), (0, [(19, 1)])), ((14, (216, [])), (0, [(20, 1)])), ((14, (428, [])), (0, [(21, 1)])), ((14, (640, [])), (0, [(22, 1)]))]) (er := []) rfl hB (fun _ _ => rfl) hr hij ly_nil (lw_oiC (g := 31) (j := 1) (by show 31 < 66; decide) (by decide) (by dsimp only; rw [sx_s_e]; exact h11.symm) (lw_oiC (g := 31) (j := 2) (by show 31 < 66; decide) (by decide) (by dsimp only; rw [sx_s_e]; exact h12.symm) (lw_oiC (g := 4) (j := 0) (by show 4 < 66; decide) (by decide) (by dsimp only; rw [sx_s_e]; exact h13.symm) (lw_oiC (g := 4) (j := 4) (by show 4 < 66; decide) (by decide) (by dsimp only; rw [sx_s_e]; exact h14.symm) (lw_oiC (g := 14) (j := 0) (by show 14 < 66; decide) (by decide) (by dsimp only; rw [sx_s_e]; exact h15.symm) (lw_oiC (g := 14) (j := 212) (by show 14 < 66; decide) (by decide) (by dsimp only; rw [sx_s_e]; exact h16.symm) (lw_oiC (g := 14) (j := 424) (by show 14 < 66; decide) (by decide) (by dsimp only; rw [sx_s_e]; exact h17.symm) (lw_oiC (g := 14) (j := 636) (by show 14 < 66; decide) (by decide) (by dsimp only; rw [sx_s_e]; exact h18.symm) (lw_oiC (g := 14) (j := 4) (by show 14 < 66; decide) (by decide) (by dsimp only; rw [sx_s_e]; exact h19.symm) (lw_oiC (g := 14) (j := 216) (by show 14 < 66; decide) (by decide) (by dsimp only; rw [sx_s_e]; exact h20.symm) (lw_oiC (g := 14) (j := 428) (by show 14 < 66; decide) (by decide) (by dsimp only; rw [sx_s_e]; exact h21.symm) (lw_oiC (g := 14) (j := 640) (by show 14 < 66; decide) (by decide) (by dsimp only; rw [sx_s_e]; exact h22.symm) (lw_oiN))))))))))))) (fun q hq => by cases hq) (ly_oba (ly_obr hr (ly_ob hB)) (ly_oba (ly_ob1 (by rw [h11]; exact hb11)) (ly_oba (ly_obI (x := nt_I M (pl 31) 2) h12) (ly_oba (ly_ob1 (by rw [h13]; exact hb13)) (ly_oba (ly_obI (x := nt_I M (pl 4) 4) h14) (ly_oba (ly_obI (x := nt_I M (pl 14) 0) h15) (ly_oba (ly_obI (x := nt_I M (pl 14) 212) h16) (ly_oba (ly_obI (x := nt_I M (pl 14) 424) h17) (ly_oba (ly_obI (x := nt_I M (pl 14) 636) h18) (ly_oba (ly_obI (x := nt_I M (pl 14) 4) h19) (ly_oba (ly_obI (x := nt_I M (pl 14) 216) h20) (ly_oba (ly_obI (x := nt_I M (pl 14) 428) h21) (ly_oba (ly_obI (x := nt_I M (pl 14) 640) h22) (ly_obI h23)))))))))))))) ly_oc0
  obtain ⟨p, hp, r', h2, h3⟩ := lw_app (ko_wd_count X) rfl hd hon (vs := [.ref (pl 0), .int b0]) ⟨rfl, ⟨b0, rfl, (ly_e1 h23).symm⟩, trivial⟩ k
  have hr' : ∀ s, s < 24 → r' s = r s := fun s hs => h3.2.2.2.2.2.1 s hs
  obtain ⟨ov, M'⟩ := o
  rw [List.mem_singleton.mp hp] at h2 h3
  cases ov with
  | none => exact h2.elim
  | some w =>
    obtain ⟨y, rfl, hy⟩ := h2
    have hy : y.toInt = 0 + (1 * r' 24 + (0)) := hy
    have e0 : (nt_I M' (pl 31) 1).toInt = 0 + (1 * r' 11 + (0)) := lw_rd (g := 31) (j := 1) h3.2.2.1 (List.mem_of_getElem? (i := 0) rfl) (by decide)
    have e1 : (nt_I M' (pl 31) 2).toInt = 0 + (1 * r' 12 + (0)) := lw_rd (g := 31) (j := 2) h3.2.2.1 (List.mem_of_getElem? (i := 1) rfl) (by decide)
    have e2 : (nt_I M' (pl 4) 0).toInt = 0 + (1 * r' 13 + (0)) := lw_rd (g := 4) (j := 0) h3.2.2.1 (List.mem_of_getElem? (i := 2) rfl) (by decide)
    have e3 : (nt_I M' (pl 4) 4).toInt = 0 + (1 * r' 14 + (0)) := lw_rd (g := 4) (j := 4) h3.2.2.1 (List.mem_of_getElem? (i := 3) rfl) (by decide)
    have e4 : (nt_I M' (pl 14) 0).toInt = 0 + (1 * r' 15 + (0)) := lw_rd (g := 14) (j := 0) h3.2.2.1 (List.mem_of_getElem? (i := 4) rfl) (by decide)
    have e5 : (nt_I M' (pl 14) 212).toInt = 0 + (1 * r' 16 + (0)) := lw_rd (g := 14) (j := 212) h3.2.2.1 (List.mem_of_getElem? (i := 5) rfl) (by decide)
    have e6 : (nt_I M' (pl 14) 424).toInt = 0 + (1 * r' 17 + (0)) := lw_rd (g := 14) (j := 424) h3.2.2.1 (List.mem_of_getElem? (i := 6) rfl) (by decide)
    have e7 : (nt_I M' (pl 14) 636).toInt = 0 + (1 * r' 18 + (0)) := lw_rd (g := 14) (j := 636) h3.2.2.1 (List.mem_of_getElem? (i := 7) rfl) (by decide)
    have e8 : (nt_I M' (pl 14) 4).toInt = 0 + (1 * r' 19 + (0)) := lw_rd (g := 14) (j := 4) h3.2.2.1 (List.mem_of_getElem? (i := 8) rfl) (by decide)
    have e9 : (nt_I M' (pl 14) 216).toInt = 0 + (1 * r' 20 + (0)) := lw_rd (g := 14) (j := 216) h3.2.2.1 (List.mem_of_getElem? (i := 9) rfl) (by decide)
    have e10 : (nt_I M' (pl 14) 428).toInt = 0 + (1 * r' 21 + (0)) := lw_rd (g := 14) (j := 428) h3.2.2.1 (List.mem_of_getElem? (i := 10) rfl) (by decide)
    have e11 : (nt_I M' (pl 14) 640).toInt = 0 + (1 * r' 22 + (0)) := lw_rd (g := 14) (j := 640) h3.2.2.1 (List.mem_of_getElem? (i := 11) rfl) (by decide)
    have g11 := hr' 11 (by omega)
    rw [h11] at g11
    have g12 := hr' 12 (by omega)
    rw [h12] at g12
    have g13 := hr' 13 (by omega)
    rw [h13] at g13
    have g14 := hr' 14 (by omega)
    rw [h14] at g14
    have g15 := hr' 15 (by omega)
    rw [h15] at g15
    have g16 := hr' 16 (by omega)
    rw [h16] at g16
    have g17 := hr' 17 (by omega)
    rw [h17] at g17
    have g18 := hr' 18 (by omega)
    rw [h18] at g18
    have g19 := hr' 19 (by omega)
    rw [h19] at g19
    have g20 := hr' 20 (by omega)
    rw [h20] at g20
    have g21 := hr' 21 (by omega)
    rw [h21] at g21
    have g22 := hr' 22 (by omega)
    rw [h22] at g22
    exact ⟨y, M', rfl, ⟨e0.trans (lw_s g11), e1.trans (lw_s g12), e2.trans (lw_s g13), e3.trans (lw_s g14), e4.trans (lw_s g15), e5.trans (lw_s g16), e6.trans (lw_s g17), e7.trans (lw_s g18), e8.trans (lw_s g19), e9.trans (lw_s g20), e10.trans (lw_s g21), e11.trans (lw_s g22)⟩⟩
theorem lwd_n_seed {X : nt_X} {pl : Nat → Nat} {v : Nat → Int} {M : nt_M} {d : Nat} {o : Option Value × nt_M} {b0 : Int32} (hd : 0 ≤ d) (hB : ly_B pl v M) (hb11 : (0 : Int) ≤ (nt_I M (pl 31) 1).toInt ∧ (nt_I M (pl 31) 1).toInt ≤ 1) (hb13 : (0 : Int) ≤ (nt_I M (pl 4) 0).toInt ∧ (nt_I M (pl 4) 0).toInt ≤ 4) (k : nt_ev X d 124 [.ref (pl 16), .int b0] M o) : ∃ (y : Int32) (M' : nt_M), o = (some (.int y), M') ∧ ((y.toInt = -1 ∧ (nt_I M' (pl 31) 1).toInt = (nt_I M (pl 31) 1).toInt ∧ (nt_I M' (pl 31) 2).toInt = (nt_I M (pl 31) 2).toInt ∧ (nt_I M' (pl 4) 0).toInt = (nt_I M (pl 4) 0).toInt ∧ (nt_I M' (pl 4) 4).toInt = (nt_I M (pl 4) 4).toInt ∧ (nt_I M' (pl 14) 0).toInt = (nt_I M (pl 14) 0).toInt ∧ (nt_I M' (pl 14) 212).toInt = (nt_I M (pl 14) 212).toInt ∧ (nt_I M' (pl 14) 424).toInt = (nt_I M (pl 14) 424).toInt ∧ (nt_I M' (pl 14) 636).toInt = (nt_I M (pl 14) 636).toInt ∧ (nt_I M' (pl 14) 4).toInt = (nt_I M (pl 14) 4).toInt ∧ (nt_I M' (pl 14) 216).toInt = (nt_I M (pl 14) 216).toInt ∧ (nt_I M' (pl 14) 428).toInt = (nt_I M (pl 14) 428).toInt ∧ (nt_I M' (pl 14) 640).toInt = (nt_I M (pl 14) 640).toInt) ∨ ((nt_I M' (pl 31) 1).toInt = (nt_I M (pl 31) 1).toInt ∧ (nt_I M' (pl 31) 2).toInt = (nt_I M (pl 31) 2).toInt ∧ (nt_I M' (pl 4) 0).toInt = (nt_I M (pl 4) 0).toInt ∧ (nt_I M' (pl 4) 4).toInt = (nt_I M (pl 4) 4).toInt ∧ (nt_I M' (pl 14) 0).toInt = (nt_I M (pl 14) 0).toInt ∧ (nt_I M' (pl 14) 212).toInt = (nt_I M (pl 14) 212).toInt ∧ (nt_I M' (pl 14) 424).toInt = (nt_I M (pl 14) 424).toInt ∧ (nt_I M' (pl 14) 636).toInt = (nt_I M (pl 14) 636).toInt ∧ (nt_I M' (pl 14) 4).toInt = (nt_I M (pl 14) 4).toInt ∧ (nt_I M' (pl 14) 216).toInt = (nt_I M (pl 14) 216).toInt ∧ (nt_I M' (pl 14) 428).toInt = (nt_I M (pl 14) 428).toInt ∧ (nt_I M' (pl 14) 640).toInt = (nt_I M (pl 14) 640).toInt)) := by
  obtain ⟨r, hr, h11, h12, h13, h14, h15, h16, h17, h18, h19, h20, h21, h22, h23⟩ : ∃ r : Nat → Int, (∀ s, s < 11 → r s = v s) ∧ r 11 = (nt_I M (pl 31) 1).toInt ∧ r 12 = (nt_I M (pl 31) 2).toInt ∧ r 13 = (nt_I M (pl 4) 0).toInt ∧ r 14 = (nt_I M (pl 4) 4).toInt ∧ r 15 = (nt_I M (pl 14) 0).toInt ∧ r 16 = (nt_I M (pl 14) 212).toInt ∧ r 17 = (nt_I M (pl 14) 424).toInt ∧ r 18 = (nt_I M (pl 14) 636).toInt ∧ r 19 = (nt_I M (pl 14) 4).toInt ∧ r 20 = (nt_I M (pl 14) 216).toInt ∧ r 21 = (nt_I M (pl 14) 428).toInt ∧ r 22 = (nt_I M (pl 14) 640).toInt ∧ r 23 = b0.toInt := ⟨fun s => if s = 11 then (nt_I M (pl 31) 1).toInt else if s = 12 then (nt_I M (pl 31) 2).toInt else if s = 13 then (nt_I M (pl 4) 0).toInt else if s = 14 then (nt_I M (pl 4) 4).toInt else if s = 15 then (nt_I M (pl 14) 0).toInt else if s = 16 then (nt_I M (pl 14) 212).toInt else if s = 17 then (nt_I M (pl 14) 424).toInt else if s = 18 then (nt_I M (pl 14) 636).toInt else if s = 19 then (nt_I M (pl 14) 4).toInt else if s = 20 then (nt_I M (pl 14) 216).toInt else if s = 21 then (nt_I M (pl 14) 428).toInt else if s = 22 then (nt_I M (pl 14) 640).toInt else if s = 23 then b0.toInt else v s, fun s hs => by dsimp only; rw [if_neg (by omega), if_neg (by omega), if_neg (by omega), if_neg (by omega), if_neg (by omega), if_neg (by omega), if_neg (by omega), if_neg (by omega), if_neg (by omega), if_neg (by omega), if_neg (by omega), if_neg (by omega), if_neg (by omega)], rfl, rfl, rfl, rfl, rfl, rfl, rfl, rfl, rfl, rfl, rfl, rfl, rfl⟩
  have hij := ly_ij (K := kk_wd_n_seed) rfl hB
  have hon := ly_app (K := kk_wd_n_seed) (ed := []) (ec := [((31, (1, [])), (0, [(11, 1)])), ((31, (2, [])), (0, [(12, 1)])), ((4, (0, [])), (0, [(13, 1)])), ((4, (4, [])), (0, [(14, 1)])), ((14, (0, [])), (0, [(15, 1)])), ((14, (212, [])), (0, [(16, 1)])), ((14, (424, [])), (0, [(17, 1)])), ((14, (636, [])), (0, [(18, 1)])), ((14, (4, [])), (0, [(19, 1)])), ((14, (216, [])), (0, [(20, 1)])), ((14, (428, [])), (0, [(21, 1)])), ((14, (640, [])), (0, [(22, 1)]))]) (er := []) rfl hB (fun _ _ => rfl) hr hij ly_nil (lw_oiC (g := 31) (j := 1) (by show 31 < 66; decide) (by decide) (by dsimp only; rw [sx_s_e]; exact h11.symm) (lw_oiC (g := 31) (j := 2) (by show 31 < 66; decide) (by decide) (by dsimp only; rw [sx_s_e]; exact h12.symm) (lw_oiC (g := 4) (j := 0) (by show 4 < 66; decide) (by decide) (by dsimp only; rw [sx_s_e]; exact h13.symm) (lw_oiC (g := 4) (j := 4) (by show 4 < 66; decide) (by decide) (by dsimp only; rw [sx_s_e]; exact h14.symm) (lw_oiC (g := 14) (j := 0) (by show 14 < 66; decide) (by decide) (by dsimp only; rw [sx_s_e]; exact h15.symm) (lw_oiC (g := 14) (j := 212) (by show 14 < 66; decide) (by decide) (by dsimp only; rw [sx_s_e]; exact h16.symm) (lw_oiC (g := 14) (j := 424) (by show 14 < 66; decide) (by decide) (by dsimp only; rw [sx_s_e]; exact h17.symm) (lw_oiC (g := 14) (j := 636) (by show 14 < 66; decide) (by decide) (by dsimp only; rw [sx_s_e]; exact h18.symm) (lw_oiC (g := 14) (j := 4) (by show 14 < 66; decide) (by decide) (by dsimp only; rw [sx_s_e]; exact h19.symm) (lw_oiC (g := 14) (j := 216) (by show 14 < 66; decide) (by decide) (by dsimp only; rw [sx_s_e]; exact h20.symm) (lw_oiC (g := 14) (j := 428) (by show 14 < 66; decide) (by decide) (by dsimp only; rw [sx_s_e]; exact h21.symm) (lw_oiC (g := 14) (j := 640) (by show 14 < 66; decide) (by decide) (by dsimp only; rw [sx_s_e]; exact h22.symm) (lw_oiN))))))))))))) (fun q hq => by cases hq) (ly_oba (ly_obr hr (ly_ob hB)) (ly_oba (ly_ob1 (by rw [h11]; exact hb11)) (ly_oba (ly_obI (x := nt_I M (pl 31) 2) h12) (ly_oba (ly_ob1 (by rw [h13]; exact hb13)) (ly_oba (ly_obI (x := nt_I M (pl 4) 4) h14) (ly_oba (ly_obI (x := nt_I M (pl 14) 0) h15) (ly_oba (ly_obI (x := nt_I M (pl 14) 212) h16) (ly_oba (ly_obI (x := nt_I M (pl 14) 424) h17) (ly_oba (ly_obI (x := nt_I M (pl 14) 636) h18) (ly_oba (ly_obI (x := nt_I M (pl 14) 4) h19) (ly_oba (ly_obI (x := nt_I M (pl 14) 216) h20) (ly_oba (ly_obI (x := nt_I M (pl 14) 428) h21) (ly_oba (ly_obI (x := nt_I M (pl 14) 640) h22) (ly_obI h23)))))))))))))) ly_oc0
  obtain ⟨p, hp, r', h2, h3⟩ := lw_app (ko_wd_n_seed X) rfl hd hon (vs := [.ref (pl 16), .int b0]) ⟨rfl, ⟨b0, rfl, (ly_e1 h23).symm⟩, trivial⟩ k
  have hr' : ∀ s, s < 24 → r' s = r s := fun s hs => h3.2.2.2.2.2.1 s hs
  obtain ⟨ov, M'⟩ := o
  rcases List.mem_cons.mp hp with rfl | hp
  · cases ov with
    | none => exact h2.elim
    | some w =>
      obtain ⟨y, rfl, hy⟩ := h2
      have hy : y.toInt = (-1) + 0 := hy
      have e0 : (nt_I M' (pl 31) 1).toInt = 0 + (1 * r' 11 + (0)) := lw_rd (g := 31) (j := 1) h3.2.2.1 (List.mem_of_getElem? (i := 0) rfl) (by decide)
      have e1 : (nt_I M' (pl 31) 2).toInt = 0 + (1 * r' 12 + (0)) := lw_rd (g := 31) (j := 2) h3.2.2.1 (List.mem_of_getElem? (i := 1) rfl) (by decide)
      have e2 : (nt_I M' (pl 4) 0).toInt = 0 + (1 * r' 13 + (0)) := lw_rd (g := 4) (j := 0) h3.2.2.1 (List.mem_of_getElem? (i := 2) rfl) (by decide)
      have e3 : (nt_I M' (pl 4) 4).toInt = 0 + (1 * r' 14 + (0)) := lw_rd (g := 4) (j := 4) h3.2.2.1 (List.mem_of_getElem? (i := 3) rfl) (by decide)
      have e4 : (nt_I M' (pl 14) 0).toInt = 0 + (1 * r' 15 + (0)) := lw_rd (g := 14) (j := 0) h3.2.2.1 (List.mem_of_getElem? (i := 4) rfl) (by decide)
      have e5 : (nt_I M' (pl 14) 212).toInt = 0 + (1 * r' 16 + (0)) := lw_rd (g := 14) (j := 212) h3.2.2.1 (List.mem_of_getElem? (i := 5) rfl) (by decide)
      have e6 : (nt_I M' (pl 14) 424).toInt = 0 + (1 * r' 17 + (0)) := lw_rd (g := 14) (j := 424) h3.2.2.1 (List.mem_of_getElem? (i := 6) rfl) (by decide)
      have e7 : (nt_I M' (pl 14) 636).toInt = 0 + (1 * r' 18 + (0)) := lw_rd (g := 14) (j := 636) h3.2.2.1 (List.mem_of_getElem? (i := 7) rfl) (by decide)
      have e8 : (nt_I M' (pl 14) 4).toInt = 0 + (1 * r' 19 + (0)) := lw_rd (g := 14) (j := 4) h3.2.2.1 (List.mem_of_getElem? (i := 8) rfl) (by decide)
      have e9 : (nt_I M' (pl 14) 216).toInt = 0 + (1 * r' 20 + (0)) := lw_rd (g := 14) (j := 216) h3.2.2.1 (List.mem_of_getElem? (i := 9) rfl) (by decide)
      have e10 : (nt_I M' (pl 14) 428).toInt = 0 + (1 * r' 21 + (0)) := lw_rd (g := 14) (j := 428) h3.2.2.1 (List.mem_of_getElem? (i := 10) rfl) (by decide)
      have e11 : (nt_I M' (pl 14) 640).toInt = 0 + (1 * r' 22 + (0)) := lw_rd (g := 14) (j := 640) h3.2.2.1 (List.mem_of_getElem? (i := 11) rfl) (by decide)
      have g11 := hr' 11 (by omega)
      rw [h11] at g11
      have g12 := hr' 12 (by omega)
      rw [h12] at g12
      have g13 := hr' 13 (by omega)
      rw [h13] at g13
      have g14 := hr' 14 (by omega)
      rw [h14] at g14
      have g15 := hr' 15 (by omega)
      rw [h15] at g15
      have g16 := hr' 16 (by omega)
      rw [h16] at g16
      have g17 := hr' 17 (by omega)
      rw [h17] at g17
      have g18 := hr' 18 (by omega)
      rw [h18] at g18
      have g19 := hr' 19 (by omega)
      rw [h19] at g19
      have g20 := hr' 20 (by omega)
      rw [h20] at g20
      have g21 := hr' 21 (by omega)
      rw [h21] at g21
      have g22 := hr' 22 (by omega)
      rw [h22] at g22
      exact ⟨y, M', rfl, Or.inl ⟨by omega, e0.trans (lw_s g11), e1.trans (lw_s g12), e2.trans (lw_s g13), e3.trans (lw_s g14), e4.trans (lw_s g15), e5.trans (lw_s g16), e6.trans (lw_s g17), e7.trans (lw_s g18), e8.trans (lw_s g19), e9.trans (lw_s g20), e10.trans (lw_s g21), e11.trans (lw_s g22)⟩⟩
  rw [List.mem_singleton.mp hp] at h2 h3
  cases ov with
  | none => exact h2.elim
  | some w =>
    obtain ⟨y, rfl, hy⟩ := h2
    have hy : y.toInt = 0 + (1 * r' 24 + (0)) := hy
    have e0 : (nt_I M' (pl 31) 1).toInt = 0 + (1 * r' 11 + (0)) := lw_rd (g := 31) (j := 1) h3.2.2.1 (List.mem_of_getElem? (i := 0) rfl) (by decide)
    have e1 : (nt_I M' (pl 31) 2).toInt = 0 + (1 * r' 12 + (0)) := lw_rd (g := 31) (j := 2) h3.2.2.1 (List.mem_of_getElem? (i := 1) rfl) (by decide)
    have e2 : (nt_I M' (pl 4) 0).toInt = 0 + (1 * r' 13 + (0)) := lw_rd (g := 4) (j := 0) h3.2.2.1 (List.mem_of_getElem? (i := 2) rfl) (by decide)
    have e3 : (nt_I M' (pl 4) 4).toInt = 0 + (1 * r' 14 + (0)) := lw_rd (g := 4) (j := 4) h3.2.2.1 (List.mem_of_getElem? (i := 3) rfl) (by decide)
    have e4 : (nt_I M' (pl 14) 0).toInt = 0 + (1 * r' 15 + (0)) := lw_rd (g := 14) (j := 0) h3.2.2.1 (List.mem_of_getElem? (i := 4) rfl) (by decide)
    have e5 : (nt_I M' (pl 14) 212).toInt = 0 + (1 * r' 16 + (0)) := lw_rd (g := 14) (j := 212) h3.2.2.1 (List.mem_of_getElem? (i := 5) rfl) (by decide)
    have e6 : (nt_I M' (pl 14) 424).toInt = 0 + (1 * r' 17 + (0)) := lw_rd (g := 14) (j := 424) h3.2.2.1 (List.mem_of_getElem? (i := 6) rfl) (by decide)
    have e7 : (nt_I M' (pl 14) 636).toInt = 0 + (1 * r' 18 + (0)) := lw_rd (g := 14) (j := 636) h3.2.2.1 (List.mem_of_getElem? (i := 7) rfl) (by decide)
    have e8 : (nt_I M' (pl 14) 4).toInt = 0 + (1 * r' 19 + (0)) := lw_rd (g := 14) (j := 4) h3.2.2.1 (List.mem_of_getElem? (i := 8) rfl) (by decide)
    have e9 : (nt_I M' (pl 14) 216).toInt = 0 + (1 * r' 20 + (0)) := lw_rd (g := 14) (j := 216) h3.2.2.1 (List.mem_of_getElem? (i := 9) rfl) (by decide)
    have e10 : (nt_I M' (pl 14) 428).toInt = 0 + (1 * r' 21 + (0)) := lw_rd (g := 14) (j := 428) h3.2.2.1 (List.mem_of_getElem? (i := 10) rfl) (by decide)
    have e11 : (nt_I M' (pl 14) 640).toInt = 0 + (1 * r' 22 + (0)) := lw_rd (g := 14) (j := 640) h3.2.2.1 (List.mem_of_getElem? (i := 11) rfl) (by decide)
    have g11 := hr' 11 (by omega)
    rw [h11] at g11
    have g12 := hr' 12 (by omega)
    rw [h12] at g12
    have g13 := hr' 13 (by omega)
    rw [h13] at g13
    have g14 := hr' 14 (by omega)
    rw [h14] at g14
    have g15 := hr' 15 (by omega)
    rw [h15] at g15
    have g16 := hr' 16 (by omega)
    rw [h16] at g16
    have g17 := hr' 17 (by omega)
    rw [h17] at g17
    have g18 := hr' 18 (by omega)
    rw [h18] at g18
    have g19 := hr' 19 (by omega)
    rw [h19] at g19
    have g20 := hr' 20 (by omega)
    rw [h20] at g20
    have g21 := hr' 21 (by omega)
    rw [h21] at g21
    have g22 := hr' 22 (by omega)
    rw [h22] at g22
    exact ⟨y, M', rfl, Or.inr (⟨e0.trans (lw_s g11), e1.trans (lw_s g12), e2.trans (lw_s g13), e3.trans (lw_s g14), e4.trans (lw_s g15), e5.trans (lw_s g16), e6.trans (lw_s g17), e7.trans (lw_s g18), e8.trans (lw_s g19), e9.trans (lw_s g20), e10.trans (lw_s g21), e11.trans (lw_s g22)⟩)⟩
theorem lwd_seed {X : nt_X} {pl : Nat → Nat} {v : Nat → Int} {M : nt_M} {d : Nat} {o : Option Value × nt_M} {b0 : Int32} (hd : 0 ≤ d) (hB : ly_B pl v M) (hb11 : (0 : Int) ≤ (nt_I M (pl 31) 1).toInt ∧ (nt_I M (pl 31) 1).toInt ≤ 1) (hb13 : (0 : Int) ≤ (nt_I M (pl 4) 0).toInt ∧ (nt_I M (pl 4) 0).toInt ≤ 4) (k : nt_ev X d 230 [.ref (pl 0), .int b0] M o) : ∃ (y : Int32) (M' : nt_M), o = (some (.int y), M') ∧ ((y.toInt = -1 ∧ (nt_I M' (pl 31) 1).toInt = (nt_I M (pl 31) 1).toInt ∧ (nt_I M' (pl 31) 2).toInt = (nt_I M (pl 31) 2).toInt ∧ (nt_I M' (pl 4) 0).toInt = (nt_I M (pl 4) 0).toInt ∧ (nt_I M' (pl 4) 4).toInt = (nt_I M (pl 4) 4).toInt ∧ (nt_I M' (pl 14) 0).toInt = (nt_I M (pl 14) 0).toInt ∧ (nt_I M' (pl 14) 212).toInt = (nt_I M (pl 14) 212).toInt ∧ (nt_I M' (pl 14) 424).toInt = (nt_I M (pl 14) 424).toInt ∧ (nt_I M' (pl 14) 636).toInt = (nt_I M (pl 14) 636).toInt ∧ (nt_I M' (pl 14) 4).toInt = (nt_I M (pl 14) 4).toInt ∧ (nt_I M' (pl 14) 216).toInt = (nt_I M (pl 14) 216).toInt ∧ (nt_I M' (pl 14) 428).toInt = (nt_I M (pl 14) 428).toInt ∧ (nt_I M' (pl 14) 640).toInt = (nt_I M (pl 14) 640).toInt) ∨ ((nt_I M' (pl 31) 1).toInt = (nt_I M (pl 31) 1).toInt ∧ (nt_I M' (pl 31) 2).toInt = (nt_I M (pl 31) 2).toInt ∧ (nt_I M' (pl 4) 0).toInt = (nt_I M (pl 4) 0).toInt ∧ (nt_I M' (pl 4) 4).toInt = (nt_I M (pl 4) 4).toInt ∧ (nt_I M' (pl 14) 0).toInt = (nt_I M (pl 14) 0).toInt ∧ (nt_I M' (pl 14) 212).toInt = (nt_I M (pl 14) 212).toInt ∧ (nt_I M' (pl 14) 424).toInt = (nt_I M (pl 14) 424).toInt ∧ (nt_I M' (pl 14) 636).toInt = (nt_I M (pl 14) 636).toInt ∧ (nt_I M' (pl 14) 4).toInt = (nt_I M (pl 14) 4).toInt ∧ (nt_I M' (pl 14) 216).toInt = (nt_I M (pl 14) 216).toInt ∧ (nt_I M' (pl 14) 428).toInt = (nt_I M (pl 14) 428).toInt ∧ (nt_I M' (pl 14) 640).toInt = (nt_I M (pl 14) 640).toInt)) := by
  obtain ⟨r, hr, h11, h12, h13, h14, h15, h16, h17, h18, h19, h20, h21, h22, h23⟩ : ∃ r : Nat → Int, (∀ s, s < 11 → r s = v s) ∧ r 11 = (nt_I M (pl 31) 1).toInt ∧ r 12 = (nt_I M (pl 31) 2).toInt ∧ r 13 = (nt_I M (pl 4) 0).toInt ∧ r 14 = (nt_I M (pl 4) 4).toInt ∧ r 15 = (nt_I M (pl 14) 0).toInt ∧ r 16 = (nt_I M (pl 14) 212).toInt ∧ r 17 = (nt_I M (pl 14) 424).toInt ∧ r 18 = (nt_I M (pl 14) 636).toInt ∧ r 19 = (nt_I M (pl 14) 4).toInt ∧ r 20 = (nt_I M (pl 14) 216).toInt ∧ r 21 = (nt_I M (pl 14) 428).toInt ∧ r 22 = (nt_I M (pl 14) 640).toInt ∧ r 23 = b0.toInt := ⟨fun s => if s = 11 then (nt_I M (pl 31) 1).toInt else if s = 12 then (nt_I M (pl 31) 2).toInt else if s = 13 then (nt_I M (pl 4) 0).toInt else if s = 14 then (nt_I M (pl 4) 4).toInt else if s = 15 then (nt_I M (pl 14) 0).toInt else if s = 16 then (nt_I M (pl 14) 212).toInt else if s = 17 then (nt_I M (pl 14) 424).toInt else if s = 18 then (nt_I M (pl 14) 636).toInt else if s = 19 then (nt_I M (pl 14) 4).toInt else if s = 20 then (nt_I M (pl 14) 216).toInt else if s = 21 then (nt_I M (pl 14) 428).toInt else if s = 22 then (nt_I M (pl 14) 640).toInt else if s = 23 then b0.toInt else v s, fun s hs => by dsimp only; rw [if_neg (by omega), if_neg (by omega), if_neg (by omega), if_neg (by omega), if_neg (by omega), if_neg (by omega), if_neg (by omega), if_neg (by omega), if_neg (by omega), if_neg (by omega), if_neg (by omega), if_neg (by omega), if_neg (by omega)], rfl, rfl, rfl, rfl, rfl, rfl, rfl, rfl, rfl, rfl, rfl, rfl, rfl⟩
  have hij := ly_ij (K := kk_wd_seed) rfl hB
  have hon := ly_app (K := kk_wd_seed) (ed := []) (ec := [((31, (1, [])), (0, [(11, 1)])), ((31, (2, [])), (0, [(12, 1)])), ((4, (0, [])), (0, [(13, 1)])), ((4, (4, [])), (0, [(14, 1)])), ((14, (0, [])), (0, [(15, 1)])), ((14, (212, [])), (0, [(16, 1)])), ((14, (424, [])), (0, [(17, 1)])), ((14, (636, [])), (0, [(18, 1)])), ((14, (4, [])), (0, [(19, 1)])), ((14, (216, [])), (0, [(20, 1)])), ((14, (428, [])), (0, [(21, 1)])), ((14, (640, [])), (0, [(22, 1)]))]) (er := []) rfl hB (fun _ _ => rfl) hr hij ly_nil (lw_oiC (g := 31) (j := 1) (by show 31 < 66; decide) (by decide) (by dsimp only; rw [sx_s_e]; exact h11.symm) (lw_oiC (g := 31) (j := 2) (by show 31 < 66; decide) (by decide) (by dsimp only; rw [sx_s_e]; exact h12.symm) (lw_oiC (g := 4) (j := 0) (by show 4 < 66; decide) (by decide) (by dsimp only; rw [sx_s_e]; exact h13.symm) (lw_oiC (g := 4) (j := 4) (by show 4 < 66; decide) (by decide) (by dsimp only; rw [sx_s_e]; exact h14.symm) (lw_oiC (g := 14) (j := 0) (by show 14 < 66; decide) (by decide) (by dsimp only; rw [sx_s_e]; exact h15.symm) (lw_oiC (g := 14) (j := 212) (by show 14 < 66; decide) (by decide) (by dsimp only; rw [sx_s_e]; exact h16.symm) (lw_oiC (g := 14) (j := 424) (by show 14 < 66; decide) (by decide) (by dsimp only; rw [sx_s_e]; exact h17.symm) (lw_oiC (g := 14) (j := 636) (by show 14 < 66; decide) (by decide) (by dsimp only; rw [sx_s_e]; exact h18.symm) (lw_oiC (g := 14) (j := 4) (by show 14 < 66; decide) (by decide) (by dsimp only; rw [sx_s_e]; exact h19.symm) (lw_oiC (g := 14) (j := 216) (by show 14 < 66; decide) (by decide) (by dsimp only; rw [sx_s_e]; exact h20.symm) (lw_oiC (g := 14) (j := 428) (by show 14 < 66; decide) (by decide) (by dsimp only; rw [sx_s_e]; exact h21.symm) (lw_oiC (g := 14) (j := 640) (by show 14 < 66; decide) (by decide) (by dsimp only; rw [sx_s_e]; exact h22.symm) (lw_oiN))))))))))))) (fun q hq => by cases hq) (ly_oba (ly_obr hr (ly_ob hB)) (ly_oba (ly_ob1 (by rw [h11]; exact hb11)) (ly_oba (ly_obI (x := nt_I M (pl 31) 2) h12) (ly_oba (ly_ob1 (by rw [h13]; exact hb13)) (ly_oba (ly_obI (x := nt_I M (pl 4) 4) h14) (ly_oba (ly_obI (x := nt_I M (pl 14) 0) h15) (ly_oba (ly_obI (x := nt_I M (pl 14) 212) h16) (ly_oba (ly_obI (x := nt_I M (pl 14) 424) h17) (ly_oba (ly_obI (x := nt_I M (pl 14) 636) h18) (ly_oba (ly_obI (x := nt_I M (pl 14) 4) h19) (ly_oba (ly_obI (x := nt_I M (pl 14) 216) h20) (ly_oba (ly_obI (x := nt_I M (pl 14) 428) h21) (ly_oba (ly_obI (x := nt_I M (pl 14) 640) h22) (ly_obI h23)))))))))))))) ly_oc0
  obtain ⟨p, hp, r', h2, h3⟩ := lw_app (ko_wd_seed X) rfl hd hon (vs := [.ref (pl 0), .int b0]) ⟨rfl, ⟨b0, rfl, (ly_e1 h23).symm⟩, trivial⟩ k
  have hr' : ∀ s, s < 24 → r' s = r s := fun s hs => h3.2.2.2.2.2.1 s hs
  obtain ⟨ov, M'⟩ := o
  rcases List.mem_cons.mp hp with rfl | hp
  · cases ov with
    | none => exact h2.elim
    | some w =>
      obtain ⟨y, rfl, hy⟩ := h2
      have hy : y.toInt = (-1) + 0 := hy
      have e0 : (nt_I M' (pl 31) 1).toInt = 0 + (1 * r' 11 + (0)) := lw_rd (g := 31) (j := 1) h3.2.2.1 (List.mem_of_getElem? (i := 0) rfl) (by decide)
      have e1 : (nt_I M' (pl 31) 2).toInt = 0 + (1 * r' 12 + (0)) := lw_rd (g := 31) (j := 2) h3.2.2.1 (List.mem_of_getElem? (i := 1) rfl) (by decide)
      have e2 : (nt_I M' (pl 4) 0).toInt = 0 + (1 * r' 13 + (0)) := lw_rd (g := 4) (j := 0) h3.2.2.1 (List.mem_of_getElem? (i := 2) rfl) (by decide)
      have e3 : (nt_I M' (pl 4) 4).toInt = 0 + (1 * r' 14 + (0)) := lw_rd (g := 4) (j := 4) h3.2.2.1 (List.mem_of_getElem? (i := 3) rfl) (by decide)
      have e4 : (nt_I M' (pl 14) 0).toInt = 0 + (1 * r' 15 + (0)) := lw_rd (g := 14) (j := 0) h3.2.2.1 (List.mem_of_getElem? (i := 4) rfl) (by decide)
      have e5 : (nt_I M' (pl 14) 212).toInt = 0 + (1 * r' 16 + (0)) := lw_rd (g := 14) (j := 212) h3.2.2.1 (List.mem_of_getElem? (i := 5) rfl) (by decide)
      have e6 : (nt_I M' (pl 14) 424).toInt = 0 + (1 * r' 17 + (0)) := lw_rd (g := 14) (j := 424) h3.2.2.1 (List.mem_of_getElem? (i := 6) rfl) (by decide)
      have e7 : (nt_I M' (pl 14) 636).toInt = 0 + (1 * r' 18 + (0)) := lw_rd (g := 14) (j := 636) h3.2.2.1 (List.mem_of_getElem? (i := 7) rfl) (by decide)
      have e8 : (nt_I M' (pl 14) 4).toInt = 0 + (1 * r' 19 + (0)) := lw_rd (g := 14) (j := 4) h3.2.2.1 (List.mem_of_getElem? (i := 8) rfl) (by decide)
      have e9 : (nt_I M' (pl 14) 216).toInt = 0 + (1 * r' 20 + (0)) := lw_rd (g := 14) (j := 216) h3.2.2.1 (List.mem_of_getElem? (i := 9) rfl) (by decide)
      have e10 : (nt_I M' (pl 14) 428).toInt = 0 + (1 * r' 21 + (0)) := lw_rd (g := 14) (j := 428) h3.2.2.1 (List.mem_of_getElem? (i := 10) rfl) (by decide)
      have e11 : (nt_I M' (pl 14) 640).toInt = 0 + (1 * r' 22 + (0)) := lw_rd (g := 14) (j := 640) h3.2.2.1 (List.mem_of_getElem? (i := 11) rfl) (by decide)
      have g11 := hr' 11 (by omega)
      rw [h11] at g11
      have g12 := hr' 12 (by omega)
      rw [h12] at g12
      have g13 := hr' 13 (by omega)
      rw [h13] at g13
      have g14 := hr' 14 (by omega)
      rw [h14] at g14
      have g15 := hr' 15 (by omega)
      rw [h15] at g15
      have g16 := hr' 16 (by omega)
      rw [h16] at g16
      have g17 := hr' 17 (by omega)
      rw [h17] at g17
      have g18 := hr' 18 (by omega)
      rw [h18] at g18
      have g19 := hr' 19 (by omega)
      rw [h19] at g19
      have g20 := hr' 20 (by omega)
      rw [h20] at g20
      have g21 := hr' 21 (by omega)
      rw [h21] at g21
      have g22 := hr' 22 (by omega)
      rw [h22] at g22
      exact ⟨y, M', rfl, Or.inl ⟨by omega, e0.trans (lw_s g11), e1.trans (lw_s g12), e2.trans (lw_s g13), e3.trans (lw_s g14), e4.trans (lw_s g15), e5.trans (lw_s g16), e6.trans (lw_s g17), e7.trans (lw_s g18), e8.trans (lw_s g19), e9.trans (lw_s g20), e10.trans (lw_s g21), e11.trans (lw_s g22)⟩⟩
  rw [List.mem_singleton.mp hp] at h2 h3
  cases ov with
  | none => exact h2.elim
  | some w =>
    obtain ⟨y, rfl, hy⟩ := h2
    have hy : y.toInt = 0 + (1 * r' 24 + (0)) := hy
    have e0 : (nt_I M' (pl 31) 1).toInt = 0 + (1 * r' 11 + (0)) := lw_rd (g := 31) (j := 1) h3.2.2.1 (List.mem_of_getElem? (i := 0) rfl) (by decide)
    have e1 : (nt_I M' (pl 31) 2).toInt = 0 + (1 * r' 12 + (0)) := lw_rd (g := 31) (j := 2) h3.2.2.1 (List.mem_of_getElem? (i := 1) rfl) (by decide)
    have e2 : (nt_I M' (pl 4) 0).toInt = 0 + (1 * r' 13 + (0)) := lw_rd (g := 4) (j := 0) h3.2.2.1 (List.mem_of_getElem? (i := 2) rfl) (by decide)
    have e3 : (nt_I M' (pl 4) 4).toInt = 0 + (1 * r' 14 + (0)) := lw_rd (g := 4) (j := 4) h3.2.2.1 (List.mem_of_getElem? (i := 3) rfl) (by decide)
    have e4 : (nt_I M' (pl 14) 0).toInt = 0 + (1 * r' 15 + (0)) := lw_rd (g := 14) (j := 0) h3.2.2.1 (List.mem_of_getElem? (i := 4) rfl) (by decide)
    have e5 : (nt_I M' (pl 14) 212).toInt = 0 + (1 * r' 16 + (0)) := lw_rd (g := 14) (j := 212) h3.2.2.1 (List.mem_of_getElem? (i := 5) rfl) (by decide)
    have e6 : (nt_I M' (pl 14) 424).toInt = 0 + (1 * r' 17 + (0)) := lw_rd (g := 14) (j := 424) h3.2.2.1 (List.mem_of_getElem? (i := 6) rfl) (by decide)
    have e7 : (nt_I M' (pl 14) 636).toInt = 0 + (1 * r' 18 + (0)) := lw_rd (g := 14) (j := 636) h3.2.2.1 (List.mem_of_getElem? (i := 7) rfl) (by decide)
    have e8 : (nt_I M' (pl 14) 4).toInt = 0 + (1 * r' 19 + (0)) := lw_rd (g := 14) (j := 4) h3.2.2.1 (List.mem_of_getElem? (i := 8) rfl) (by decide)
    have e9 : (nt_I M' (pl 14) 216).toInt = 0 + (1 * r' 20 + (0)) := lw_rd (g := 14) (j := 216) h3.2.2.1 (List.mem_of_getElem? (i := 9) rfl) (by decide)
    have e10 : (nt_I M' (pl 14) 428).toInt = 0 + (1 * r' 21 + (0)) := lw_rd (g := 14) (j := 428) h3.2.2.1 (List.mem_of_getElem? (i := 10) rfl) (by decide)
    have e11 : (nt_I M' (pl 14) 640).toInt = 0 + (1 * r' 22 + (0)) := lw_rd (g := 14) (j := 640) h3.2.2.1 (List.mem_of_getElem? (i := 11) rfl) (by decide)
    have g11 := hr' 11 (by omega)
    rw [h11] at g11
    have g12 := hr' 12 (by omega)
    rw [h12] at g12
    have g13 := hr' 13 (by omega)
    rw [h13] at g13
    have g14 := hr' 14 (by omega)
    rw [h14] at g14
    have g15 := hr' 15 (by omega)
    rw [h15] at g15
    have g16 := hr' 16 (by omega)
    rw [h16] at g16
    have g17 := hr' 17 (by omega)
    rw [h17] at g17
    have g18 := hr' 18 (by omega)
    rw [h18] at g18
    have g19 := hr' 19 (by omega)
    rw [h19] at g19
    have g20 := hr' 20 (by omega)
    rw [h20] at g20
    have g21 := hr' 21 (by omega)
    rw [h21] at g21
    have g22 := hr' 22 (by omega)
    rw [h22] at g22
    exact ⟨y, M', rfl, Or.inr (⟨e0.trans (lw_s g11), e1.trans (lw_s g12), e2.trans (lw_s g13), e3.trans (lw_s g14), e4.trans (lw_s g15), e5.trans (lw_s g16), e6.trans (lw_s g17), e7.trans (lw_s g18), e8.trans (lw_s g19), e9.trans (lw_s g20), e10.trans (lw_s g21), e11.trans (lw_s g22)⟩)⟩
theorem lwd_rule {X : nt_X} {pl : Nat → Nat} {v : Nat → Int} {M : nt_M} {d : Nat} {o : Option Value × nt_M} (hd : 12 ≤ d) (hB : ly_B pl v M) (hb11 : (0 : Int) ≤ (nt_I M (pl 31) 1).toInt ∧ (nt_I M (pl 31) 1).toInt ≤ 1) (hb13 : (0 : Int) ≤ (nt_I M (pl 4) 0).toInt ∧ (nt_I M (pl 4) 0).toInt ≤ 4) (k : nt_ev X d 133 [.ref (pl 0)] M o) : ∃ (y : Int32) (M' : nt_M), o = (some (.int y), M') ∧ (((nt_I M' (pl 31) 1).toInt = (nt_I M (pl 31) 1).toInt ∧ (nt_I M' (pl 31) 2).toInt = (nt_I M (pl 31) 2).toInt ∧ (nt_I M' (pl 4) 0).toInt = (nt_I M (pl 4) 0).toInt ∧ (nt_I M' (pl 4) 4).toInt = (nt_I M (pl 4) 4).toInt ∧ (nt_I M' (pl 14) 0).toInt = (nt_I M (pl 14) 0).toInt ∧ (nt_I M' (pl 14) 212).toInt = (nt_I M (pl 14) 212).toInt ∧ (nt_I M' (pl 14) 424).toInt = (nt_I M (pl 14) 424).toInt ∧ (nt_I M' (pl 14) 636).toInt = (nt_I M (pl 14) 636).toInt ∧ (nt_I M' (pl 14) 4).toInt = (nt_I M (pl 14) 4).toInt ∧ (nt_I M' (pl 14) 216).toInt = (nt_I M (pl 14) 216).toInt ∧ (nt_I M' (pl 14) 428).toInt = (nt_I M (pl 14) 428).toInt ∧ (nt_I M' (pl 14) 640).toInt = (nt_I M (pl 14) 640).toInt)) := by
  obtain ⟨r, hr, h11, h12, h13, h14, h15, h16, h17, h18, h19, h20, h21, h22⟩ : ∃ r : Nat → Int, (∀ s, s < 11 → r s = v s) ∧ r 11 = (nt_I M (pl 31) 1).toInt ∧ r 12 = (nt_I M (pl 31) 2).toInt ∧ r 13 = (nt_I M (pl 4) 0).toInt ∧ r 14 = (nt_I M (pl 4) 4).toInt ∧ r 15 = (nt_I M (pl 14) 0).toInt ∧ r 16 = (nt_I M (pl 14) 212).toInt ∧ r 17 = (nt_I M (pl 14) 424).toInt ∧ r 18 = (nt_I M (pl 14) 636).toInt ∧ r 19 = (nt_I M (pl 14) 4).toInt ∧ r 20 = (nt_I M (pl 14) 216).toInt ∧ r 21 = (nt_I M (pl 14) 428).toInt ∧ r 22 = (nt_I M (pl 14) 640).toInt := ⟨fun s => if s = 11 then (nt_I M (pl 31) 1).toInt else if s = 12 then (nt_I M (pl 31) 2).toInt else if s = 13 then (nt_I M (pl 4) 0).toInt else if s = 14 then (nt_I M (pl 4) 4).toInt else if s = 15 then (nt_I M (pl 14) 0).toInt else if s = 16 then (nt_I M (pl 14) 212).toInt else if s = 17 then (nt_I M (pl 14) 424).toInt else if s = 18 then (nt_I M (pl 14) 636).toInt else if s = 19 then (nt_I M (pl 14) 4).toInt else if s = 20 then (nt_I M (pl 14) 216).toInt else if s = 21 then (nt_I M (pl 14) 428).toInt else if s = 22 then (nt_I M (pl 14) 640).toInt else v s, fun s hs => by dsimp only; rw [if_neg (by omega), if_neg (by omega), if_neg (by omega), if_neg (by omega), if_neg (by omega), if_neg (by omega), if_neg (by omega), if_neg (by omega), if_neg (by omega), if_neg (by omega), if_neg (by omega), if_neg (by omega)], rfl, rfl, rfl, rfl, rfl, rfl, rfl, rfl, rfl, rfl, rfl, rfl⟩
  have hij := ly_ij (K := kk_wd_rule) rfl hB
  have hon := ly_app (K := kk_wd_rule) (ed := []) (ec := [((31, (1, [])), (0, [(11, 1)])), ((31, (2, [])), (0, [(12, 1)])), ((4, (0, [])), (0, [(13, 1)])), ((4, (4, [])), (0, [(14, 1)])), ((14, (0, [])), (0, [(15, 1)])), ((14, (212, [])), (0, [(16, 1)])), ((14, (424, [])), (0, [(17, 1)])), ((14, (636, [])), (0, [(18, 1)])), ((14, (4, [])), (0, [(19, 1)])), ((14, (216, [])), (0, [(20, 1)])), ((14, (428, [])), (0, [(21, 1)])), ((14, (640, [])), (0, [(22, 1)]))]) (er := []) rfl hB (fun _ _ => rfl) hr hij ly_nil (lw_oiC (g := 31) (j := 1) (by show 31 < 66; decide) (by decide) (by dsimp only; rw [sx_s_e]; exact h11.symm) (lw_oiC (g := 31) (j := 2) (by show 31 < 66; decide) (by decide) (by dsimp only; rw [sx_s_e]; exact h12.symm) (lw_oiC (g := 4) (j := 0) (by show 4 < 66; decide) (by decide) (by dsimp only; rw [sx_s_e]; exact h13.symm) (lw_oiC (g := 4) (j := 4) (by show 4 < 66; decide) (by decide) (by dsimp only; rw [sx_s_e]; exact h14.symm) (lw_oiC (g := 14) (j := 0) (by show 14 < 66; decide) (by decide) (by dsimp only; rw [sx_s_e]; exact h15.symm) (lw_oiC (g := 14) (j := 212) (by show 14 < 66; decide) (by decide) (by dsimp only; rw [sx_s_e]; exact h16.symm) (lw_oiC (g := 14) (j := 424) (by show 14 < 66; decide) (by decide) (by dsimp only; rw [sx_s_e]; exact h17.symm) (lw_oiC (g := 14) (j := 636) (by show 14 < 66; decide) (by decide) (by dsimp only; rw [sx_s_e]; exact h18.symm) (lw_oiC (g := 14) (j := 4) (by show 14 < 66; decide) (by decide) (by dsimp only; rw [sx_s_e]; exact h19.symm) (lw_oiC (g := 14) (j := 216) (by show 14 < 66; decide) (by decide) (by dsimp only; rw [sx_s_e]; exact h20.symm) (lw_oiC (g := 14) (j := 428) (by show 14 < 66; decide) (by decide) (by dsimp only; rw [sx_s_e]; exact h21.symm) (lw_oiC (g := 14) (j := 640) (by show 14 < 66; decide) (by decide) (by dsimp only; rw [sx_s_e]; exact h22.symm) (lw_oiN))))))))))))) (fun q hq => by cases hq) (ly_oba (ly_obr hr (ly_ob hB)) (ly_oba (ly_ob1 (by rw [h11]; exact hb11)) (ly_oba (ly_obI (x := nt_I M (pl 31) 2) h12) (ly_oba (ly_ob1 (by rw [h13]; exact hb13)) (ly_oba (ly_obI (x := nt_I M (pl 4) 4) h14) (ly_oba (ly_obI (x := nt_I M (pl 14) 0) h15) (ly_oba (ly_obI (x := nt_I M (pl 14) 212) h16) (ly_oba (ly_obI (x := nt_I M (pl 14) 424) h17) (ly_oba (ly_obI (x := nt_I M (pl 14) 636) h18) (ly_oba (ly_obI (x := nt_I M (pl 14) 4) h19) (ly_oba (ly_obI (x := nt_I M (pl 14) 216) h20) (ly_oba (ly_obI (x := nt_I M (pl 14) 428) h21) (ly_obI (x := nt_I M (pl 14) 640) h22))))))))))))) ly_oc0
  obtain ⟨p, hp, r', h2, h3⟩ := lw_app (ko_wd_rule X) rfl hd hon (vs := [.ref (pl 0)]) ⟨rfl, trivial⟩ k
  have hr' : ∀ s, s < 23 → r' s = r s := fun s hs => h3.2.2.2.2.2.1 s hs
  obtain ⟨ov, M'⟩ := o
  rw [List.mem_singleton.mp hp] at h2 h3
  cases ov with
  | none => exact h2.elim
  | some w =>
    obtain ⟨y, rfl, hy⟩ := h2
    have hy : y.toInt = 0 + (1 * r' 23 + (0)) := hy
    have e0 : (nt_I M' (pl 31) 1).toInt = 0 + (1 * r' 11 + (0)) := lw_rd (g := 31) (j := 1) h3.2.2.1 (List.mem_of_getElem? (i := 0) rfl) (by decide)
    have e1 : (nt_I M' (pl 31) 2).toInt = 0 + (1 * r' 12 + (0)) := lw_rd (g := 31) (j := 2) h3.2.2.1 (List.mem_of_getElem? (i := 1) rfl) (by decide)
    have e2 : (nt_I M' (pl 4) 0).toInt = 0 + (1 * r' 13 + (0)) := lw_rd (g := 4) (j := 0) h3.2.2.1 (List.mem_of_getElem? (i := 2) rfl) (by decide)
    have e3 : (nt_I M' (pl 4) 4).toInt = 0 + (1 * r' 14 + (0)) := lw_rd (g := 4) (j := 4) h3.2.2.1 (List.mem_of_getElem? (i := 3) rfl) (by decide)
    have e4 : (nt_I M' (pl 14) 0).toInt = 0 + (1 * r' 15 + (0)) := lw_rd (g := 14) (j := 0) h3.2.2.1 (List.mem_of_getElem? (i := 4) rfl) (by decide)
    have e5 : (nt_I M' (pl 14) 212).toInt = 0 + (1 * r' 16 + (0)) := lw_rd (g := 14) (j := 212) h3.2.2.1 (List.mem_of_getElem? (i := 5) rfl) (by decide)
    have e6 : (nt_I M' (pl 14) 424).toInt = 0 + (1 * r' 17 + (0)) := lw_rd (g := 14) (j := 424) h3.2.2.1 (List.mem_of_getElem? (i := 6) rfl) (by decide)
    have e7 : (nt_I M' (pl 14) 636).toInt = 0 + (1 * r' 18 + (0)) := lw_rd (g := 14) (j := 636) h3.2.2.1 (List.mem_of_getElem? (i := 7) rfl) (by decide)
    have e8 : (nt_I M' (pl 14) 4).toInt = 0 + (1 * r' 19 + (0)) := lw_rd (g := 14) (j := 4) h3.2.2.1 (List.mem_of_getElem? (i := 8) rfl) (by decide)
    have e9 : (nt_I M' (pl 14) 216).toInt = 0 + (1 * r' 20 + (0)) := lw_rd (g := 14) (j := 216) h3.2.2.1 (List.mem_of_getElem? (i := 9) rfl) (by decide)
    have e10 : (nt_I M' (pl 14) 428).toInt = 0 + (1 * r' 21 + (0)) := lw_rd (g := 14) (j := 428) h3.2.2.1 (List.mem_of_getElem? (i := 10) rfl) (by decide)
    have e11 : (nt_I M' (pl 14) 640).toInt = 0 + (1 * r' 22 + (0)) := lw_rd (g := 14) (j := 640) h3.2.2.1 (List.mem_of_getElem? (i := 11) rfl) (by decide)
    have g11 := hr' 11 (by omega)
    rw [h11] at g11
    have g12 := hr' 12 (by omega)
    rw [h12] at g12
    have g13 := hr' 13 (by omega)
    rw [h13] at g13
    have g14 := hr' 14 (by omega)
    rw [h14] at g14
    have g15 := hr' 15 (by omega)
    rw [h15] at g15
    have g16 := hr' 16 (by omega)
    rw [h16] at g16
    have g17 := hr' 17 (by omega)
    rw [h17] at g17
    have g18 := hr' 18 (by omega)
    rw [h18] at g18
    have g19 := hr' 19 (by omega)
    rw [h19] at g19
    have g20 := hr' 20 (by omega)
    rw [h20] at g20
    have g21 := hr' 21 (by omega)
    rw [h21] at g21
    have g22 := hr' 22 (by omega)
    rw [h22] at g22
    exact ⟨y, M', rfl, ⟨e0.trans (lw_s g11), e1.trans (lw_s g12), e2.trans (lw_s g13), e3.trans (lw_s g14), e4.trans (lw_s g15), e5.trans (lw_s g16), e6.trans (lw_s g17), e7.trans (lw_s g18), e8.trans (lw_s g19), e9.trans (lw_s g20), e10.trans (lw_s g21), e11.trans (lw_s g22)⟩⟩
