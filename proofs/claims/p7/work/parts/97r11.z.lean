/-! calls of one state: everything kept -/
theorem ly_fr_tr {pl : Nat → Nat} {M M1 M2 : nt_M} (h1 : ly_fr 66 pl M M1) (h2 : ly_fr 66 pl M1 M2) : ly_fr 66 pl M M2 := by
  obtain ⟨⟨a1, a2, a3, a4⟩, a5, a6⟩ := h1
  obtain ⟨⟨b1, b2, b3, b4⟩, b5, b6⟩ := h2
  exact ⟨⟨b1.trans a1, b2.trans a2, b3.trans a3, b4.trans a4⟩, fun a ha => ⟨fun j => ((b5 a ha).1 j).trans ((a5 a ha).1 j), fun j => ((b5 a ha).2 j).trans ((a5 a ha).2 j)⟩, fun g j hg => (b6 g j hg).trans (a6 g j hg)⟩
theorem zz_5 {P : Nat → Prop} (h : ∀ g, g < 31 → g ≠ 0 → g ≠ 4 → g ≠ 7 → g ≠ 25 → P g) : ∀ g, g = 14 ∨ g = 1 ∨ g = 2 ∨ g = 3 ∨ g = 16 → P g := by
  intro g hg
  exact h g (by omega) (by omega) (by omega) (by omega) (by omega)
theorem zz_x {pl : Nat → Nat} {v : Nat → Int} {M : nt_M} (hB : ly_B pl v M) (hx : v 0 = v 1) : nt_I M (pl 31) 6 = nt_I M (pl 4) 9 := Int32.toInt_inj.mp (by rw [ly_cell (g := 31) (j := 6) (u := 1) hB (by decide) (List.mem_of_getElem? (i := 1) rfl), ly_cell (g := 4) (j := 9) (u := 0) hB (by decide) (List.mem_of_getElem? (i := 0) rfl)]; exact hx.symm)
theorem zz_move2 {X : nt_X} {pl : Nat → Nat} {v v1 mk xi : Nat → Int} {rc : Int} {M M1 M2 : nt_M} {y1 y2 a b : Int32} (hB : ly_B pl v M) (hS : ly_S pl mk xi rc M) (hB1 : ly_B pl v1 M1) (f1 : ly_fr 66 pl M M1) (f2 : ly_fr 66 pl M1 M2) (e1 : nt_ev X 99 109 [.ref (pl 16), .int a, .int b] M (some (.int y1), M1)) (e2 : nt_ev X 99 181 [.ref (pl 0), .int a, .int b] M1 (some (.int y2), M2)) (hZ : zz_E pl M) : y1 = y2 ∧ zz_E pl M2 := by
  have ne := zz_ne hB
  have c1 := xt109 (p := pl) (J := nt_I M) (zz_P hB) (zz_Qn hB) e1
  obtain ⟨y1e, M1e⟩ := lq_out c1
  have i1 : nt_I M1 = (x109 pl a b (nt_I M)).2 := by rw [M1e]; rfl
  have c2 := xt181 (p := pl) (J := nt_I M1) (zz_P hB1) e2
  obtain ⟨y2e, M2e⟩ := lq_out c2
  have i2 : nt_I M2 = (x181 pl a b (nt_I M1)).2 := by rw [M2e]; rfl
  have r1 : ∀ g, g < 66 → g ≠ 31 → g ≠ 45 → nt_I M1 (pl g) = nt_I M (pl g) := fun g hg z0 z1 => by
    rw [i1]
    exact x109_frJ (ne g 31 hg (by omega) z0) (ne g 45 hg (by omega) z1)
  have r2 : ∀ g, g < 66 → g ≠ 4 → nt_I M2 (pl g) = nt_I M1 (pl g) := fun g hg h => by
    rw [i2]
    exact x181_frJ (ne g 4 hg (by omega) h)
  have e4 : nt_I M1 (pl 4) = nt_I M (pl 4) := r1 4 (by omega) (by decide) (by decide)
  obtain ⟨⟨hR, hW, hd, hz⟩, hI⟩ := hZ
  have key := zq_109 (p := pl) (v1 := a) (v2 := b) (Jc := nt_I M) (Jr := nt_I M1) (zz_X hB) (by rw [e4]; exact hR) (by rw [e4]; exact hW)
  obtain ⟨k1, k2, k3, k4⟩ := key
  rw [← i1, ← i2] at k2
  rw [← i2] at k3 k4
  have ag : ∀ i, i < 6 → nt_I M2 (pl 4) i = nt_I M (pl 4) i := fun i hi => by rw [k4 i hi, e4]
  refine ⟨by rw [y1e, y2e]; exact k1, ⟨zR_aj (fun i hi => r2 (31 + i) (by omega) (by omega)) k2, ?_, ?_, ?_⟩, zz_Ifr hS (ly_fr_tr f1 f2) (zz_5 (fun g h1 h2 h3 h4 h5 => (r2 g (by omega) h3).trans (r1 g (by omega) (by omega) (by omega)))) hI⟩
  · rw [ag 4 (by omega)]
    exact k3
  · rw [ag 4 (by omega)]
    exact hd
  · intro c
    rw [ag 0 (by omega)] at c
    have h177 : x177 pl a (nt_I M1) = 0 := by
      unfold x177
      by_cases q1 : a < 0
      · rw [if_pos q1]
        rfl
      · rw [if_neg q1]
        by_cases q2 : nt_I M1 (pl 4) 2 ≤ a
        · rw [if_pos q2]
          rfl
        · exfalso
          rw [e4] at q2
          have b := zn_b hW.w
          have q1' : ¬ a.toInt < 0 := fun h => q1 (Int32.lt_iff_toInt_lt.mpr h)
          have x := zx b.2.2.2.2.2.2.1 (by omega) q2
          have kn := hW.a.kn _ x.1
          rw [c, show (0 : Int32).toInt = 0 from by decide] at kn
          omega
    have u : (x181 pl a b (nt_I M1)).2 = nt_I M1 := by
      unfold x181
      rw [if_pos h177]
    rw [i2, u, e4]
    exact hz c
theorem zz_seed2 {X : nt_X} {pl : Nat → Nat} {v v1 mk xi : Nat → Int} {rc : Int} {M M1 M2 : nt_M} {y1 y2 a : Int32} (hB : ly_B pl v M) (hS : ly_S pl mk xi rc M) (hB1 : ly_B pl v1 M1) (f1 : ly_fr 66 pl M M1) (f2 : ly_fr 66 pl M1 M2) (hx : v 0 = v 1) (e1 : nt_ev X 99 124 [.ref (pl 16), .int a] M (some (.int y1), M1)) (e2 : nt_ev X 99 230 [.ref (pl 0), .int a] M1 (some (.int y2), M2)) (hZ : zz_E pl M) : y1 = y2 ∧ zz_E pl M2 := by
  have ne := zz_ne hB
  have c1 := xt124 (p := pl) (J := nt_I M) (zz_P hB) (zz_Qn hB) e1
  obtain ⟨y1e, M1e⟩ := lq_out c1
  have i1 : nt_I M1 = (x124 pl a (nt_I M)).2 := by rw [M1e]; rfl
  have c2 := xt230 (p := pl) (J := nt_I M1) (zz_P hB1) e2
  obtain ⟨y2e, M2e⟩ := lq_out c2
  have i2 : nt_I M2 = (x230 pl a (nt_I M1)).2 := by rw [M2e]; rfl
  have r1 : ∀ g, g < 66 → g ≠ 31 → nt_I M1 (pl g) = nt_I M (pl g) := fun g hg z0 => by
    rw [i1]
    exact x124_frJ (ne g 31 hg (by omega) z0)
  have r2 : ∀ g, g < 66 → g ≠ 4 → nt_I M2 (pl g) = nt_I M1 (pl g) := fun g hg h => by
    rw [i2]
    exact x230_frJ (ne g 4 hg (by omega) h)
  have e4 : nt_I M1 (pl 4) = nt_I M (pl 4) := r1 4 (by omega) (by decide)
  obtain ⟨⟨hR, hW, hd, hz⟩, hI⟩ := hZ
  have key := zq_124 (p := pl) (v1 := a) (Jc := nt_I M) (Jr := nt_I M1) (zz_X hB) (by rw [e4]; exact hR) (by rw [e4]; exact hW) (by rw [e4]; exact zz_x hB hx)
  obtain ⟨k1, k2, k3, k4⟩ := key
  rw [← i1, ← i2] at k2
  rw [← i2] at k3 k4
  have ag : ∀ i, i < 9 → nt_I M2 (pl 4) i = nt_I M (pl 4) i := fun i hi => by rw [k4 i hi, e4]
  refine ⟨by rw [y1e, y2e]; exact k1, ⟨zR_aj (fun i hi => r2 (31 + i) (by omega) (by omega)) k2, ?_, ?_, ?_⟩, zz_Ifr hS (ly_fr_tr f1 f2) (zz_5 (fun g h1 h2 h3 h4 h5 => (r2 g (by omega) h3).trans (r1 g (by omega) (by omega)))) hI⟩
  · rw [ag 4 (by omega)]
    exact k3
  · rw [ag 4 (by omega)]
    exact hd
  · rw [ag 0 (by omega), ag 5 (by omega), ag 6 (by omega)]
    exact hz
/-- days, both sides -/
def zqD (p : Nat → Nat) (sp : Nat) (Jc Jr : Nat → Nat → Int32) (rc rr : Int32 × (Nat → Nat → Int32) × (Nat → Nat → Int64)) : Prop := rc.1 = rr.1 ∧ zR (fun i => p (31 + i)) rc.2.1 (rr.2.1 (p 4)) ∧ zW (rr.2.1 (p 4)) (rr.2.1 (p 4) 4).toInt ∧ (rr.2.1 (p 4) 4).toInt ≤ 200 ∧ zKp p (fun i => p (31 + i)) sp Jc Jr rc.2.1 rr.2.1
theorem z_i1 {x : Int32} : x < Int32.ofInt 1 ↔ x.toInt < 1 := by
  rw [Int32.lt_iff_toInt_lt, show (Int32.ofInt 1).toInt = 1 from by decide]
theorem z_i0 {x : Int32} : x < 0 ↔ x.toInt < 0 := by
  rw [Int32.lt_iff_toInt_lt, show (0 : Int32).toInt = 0 from by decide]
theorem z_i100 {x : Int32} : Int32.ofInt 100 < x ↔ 100 < x.toInt := by
  rw [Int32.lt_iff_toInt_lt, show (Int32.ofInt 100).toInt = 100 from by decide]
theorem z_j1 : (Int64.ofNat 1).toInt = 1 := by decide
theorem z_j0 : (Int64.ofNat 0).toInt = 0 := by decide
theorem z_j100 : (100 : Int64).toInt = 100 := by decide
theorem zq_110 {p : Nat → Nat} {v1 v2 : Int32} {sp ln T : Nat} {Jc Jr : Nat → Nat → Int32} {Lc Lr : Nat → Nat → Int64} (hsq : ∀ i, i < 17 → sp ≠ p (31 + i)) (ht : v1.toInt = (T : Nat)) (hQ : zRQ p sp ln T Jc Jr) (X : zX p (fun i => p (31 + i))) (hR : zR (fun i => p (31 + i)) Jc (Jr (p 4))) (hW : zW (Jr (p 4)) (Jr (p 4) 4).toInt) (hd : (Jr (p 4) 4).toInt ≤ 200) (h4 : Jc (p 16) 4 = Jr (p 0) 2) (h0 : 0 ≤ (Jr (p 0) 2).toInt) : zqD p sp Jc Jr (x110 p sp ln v1 v2 Jc Lc) (x186 p v1 v2 Jr Lr) := by
  have may := zmay (q := fun i => p (31 + i)) (v1 := v1) hR hW.w h4 h0
  have e4 : Jc (p 31) 2 = Jr (p 4) 4 := zR_4 hR
  have d0 := hW.d.d4
  have same : ∀ y : Int32, zqD p sp Jc Jr (y, Jc, Lc) (y, Jr, Lr) := fun y => ⟨rfl, hR, hW, hd, zKp_r⟩
  unfold x110 x186
  by_cases hm : x187 p v1 Jr = 0
  · rw [if_pos hm]
    by_cases a : Jc (p 31) 1 = 0
    · rw [if_pos a]
      exact same _
    · rw [if_neg a, if_pos (Classical.byContradiction fun c => may.mp ⟨a, c⟩ hm)]
      exact same _
  · obtain ⟨a, b⟩ := may.mpr hm
    have a : ¬ Jc (p 31) 1 = 0 := a
    rw [if_neg hm, if_neg a, if_neg b, z_145, z_j1, z_j100, e4]
    by_cases c1 : v2.toInt < 1
    · rw [if_pos (z_i1.mpr c1), if_pos (show v2.toInt < 1 ∨ 100 < v2.toInt from Or.inl c1), if_pos (show Int32.ofInt 0 = 0 from rfl)]
      exact same _
    · rw [if_neg (fun h => c1 (z_i1.mp h))]
      by_cases c2 : 100 < v2.toInt
      · rw [if_pos (z_i100.mpr c2), if_pos (show v2.toInt < 1 ∨ 100 < v2.toInt from Or.inr c2), if_pos (show Int32.ofInt 0 = 0 from rfl)]
        exact same _
      · rw [if_neg (fun h => c2 (z_i100.mp h)), if_neg (show ¬ (v2.toInt < 1 ∨ 100 < v2.toInt) from by omega), if_neg (show ¬ Int32.ofInt 1 = 0 from by decide)]
        by_cases c3 : Jr (p 4) 4 + v2 ≤ Int32.ofInt 200
        · rw [if_pos c3, if_pos c3]
          have c3' := Int32.le_iff_toInt_le.mp c3
          rw [Int32.toInt_add, show (Int32.ofInt 200).toInt = 200 from by decide, Int.bmod_eq_of_le (by omega) (by omega)] at c3'
          have z0 : (Int32.ofInt 0).toInt = 0 := by decide
          have cl : v2.toInt - (Int32.ofInt 0).toInt ≤ (v2.toNatClampNeg : Nat) := by
            rw [zn_t, z0]
            omega
          have key := zdays_l hsq ht X v2.toNatClampNeg (Int32.ofInt 0) Jc Jr Lc Lr (by decide) cl (by omega) (by omega) hR hW hQ
          exact key
        · rw [if_neg c3, if_neg c3]
          exact same _
theorem zq_110N {p : Nat → Nat} {v1 v2 : Int32} {Jc Jr : Nat → Nat → Int32} {Lc Lr : Nat → Nat → Int64} (hv : v1 < 0) (X : zX p (fun i => p (31 + i))) (hR : zR (fun i => p (31 + i)) Jc (Jr (p 4))) (hW : zW (Jr (p 4)) (Jr (p 4) 4).toInt) (hd : (Jr (p 4) 4).toInt ≤ 200) (h4 : Jc (p 16) 4 = Jr (p 0) 2) (h0 : 0 ≤ (Jr (p 0) 2).toInt) : zqD p 0 Jc Jr ((x110N p v1 v2 Jc).1, (x110N p v1 v2 Jc).2, Lc) (x186 p v1 v2 Jr Lr) := by
  have may := zmay (q := fun i => p (31 + i)) (v1 := v1) hR hW.w h4 h0
  have e4 : Jc (p 31) 2 = Jr (p 4) 4 := zR_4 hR
  have d0 := hW.d.d4
  have same : ∀ y : Int32, zqD p 0 Jc Jr (y, Jc, Lc) (y, Jr, Lr) := fun y => ⟨rfl, hR, hW, hd, zKp_r⟩
  unfold x110N x186
  by_cases hm : x187 p v1 Jr = 0
  · rw [if_pos hm]
    by_cases a : Jc (p 31) 1 = 0
    · rw [if_pos a]
      exact same _
    · rw [if_neg a, if_pos (Classical.byContradiction fun c => may.mp ⟨a, c⟩ hm)]
      exact same _
  · obtain ⟨a, b⟩ := may.mpr hm
    have a : ¬ Jc (p 31) 1 = 0 := a
    rw [if_neg hm, if_neg a, if_neg b, z_145, z_j1, z_j100, e4]
    by_cases c1 : v2.toInt < 1
    · rw [if_pos (z_i1.mpr c1), if_pos (show v2.toInt < 1 ∨ 100 < v2.toInt from Or.inl c1), if_pos (show Int32.ofInt 0 = 0 from rfl)]
      exact same _
    · rw [if_neg (fun h => c1 (z_i1.mp h))]
      by_cases c2 : 100 < v2.toInt
      · rw [if_pos (z_i100.mpr c2), if_pos (show v2.toInt < 1 ∨ 100 < v2.toInt from Or.inr c2), if_pos (show Int32.ofInt 0 = 0 from rfl)]
        exact same _
      · rw [if_neg (fun h => c2 (z_i100.mp h)), if_neg (show ¬ (v2.toInt < 1 ∨ 100 < v2.toInt) from by omega), if_neg (show ¬ Int32.ofInt 1 = 0 from by decide)]
        by_cases c3 : Jr (p 4) 4 + v2 ≤ Int32.ofInt 200
        · rw [if_pos c3, if_pos c3]
          have c3' := Int32.le_iff_toInt_le.mp c3
          rw [Int32.toInt_add, show (Int32.ofInt 200).toInt = 200 from by decide, Int.bmod_eq_of_le (by omega) (by omega)] at c3'
          have z0 : (Int32.ofInt 0).toInt = 0 := by decide
          have cl : v2.toInt - (Int32.ofInt 0).toInt ≤ (v2.toNatClampNeg : Nat) := by
            rw [zn_t, z0]
            omega
          have ev : v1 = Int32.ofInt (-1) := by
            unfold x111 at b
            by_cases g : v1 < Int32.ofInt (-1)
            · rw [if_pos g] at b
              exact absurd rfl b
            · have g1 : ¬ v1.toInt < (Int32.ofInt (-1)).toInt := fun h => g (Int32.lt_iff_toInt_lt.mpr h)
              have g2 := z_i0.mp hv
              rw [show (Int32.ofInt (-1)).toInt = -1 from by decide] at g1
              exact Int32.toInt_inj.mp (by rw [show (Int32.ofInt (-1)).toInt = -1 from by decide]; omega)
          have key := zdaysN_l (v1 := v1) X v2.toNatClampNeg (Int32.ofInt 0) Jc Jr Lr (by decide) cl (by omega) (by omega) hR hW
          rw [← ev] at key
          exact key
        · rw [if_neg c3, if_neg c3]
          exact same _
/-- a rule that is there -/
theorem zz_rule {pl : Nat → Nat} {v mk xi : Nat → Int} {M : nt_M} {a : Int32} (hB : ly_B pl v M) (hS : ly_S pl mk xi (v 2) M) (hZ : zz_E pl M) (h0 : ¬ a < 0) (h1 : ¬ nt_I M (pl 16) 4 ≤ a) : ∃ b, nt_R M (pl 23) a.toNatClampNeg = some b ∧ 66 ≤ b ∧ xs_S M pl b (b + 1) (nt_l M (b + 1)) ∧ a.toInt = (a.toNatClampNeg : Nat) ∧ zRQ pl (b + 1) (nt_l M (b + 1)) a.toNatClampNeg (nt_I M) (nt_I M) := by
  have v2 := ly_vI hB
  have b2 := (ly_ob hB (2, 0, 6) (List.mem_of_getElem? (i := 2) rfl))
  dsimp only at b2
  have h0' : ¬ a.toInt < 0 := fun h => h0 (z_i0.mpr h)
  have h1' : ¬ (nt_I M (pl 16) 4).toInt ≤ a.toInt := fun h => h1 (Int32.le_iff_toInt_le.mpr h)
  have ea : a.toInt = (a.toNatClampNeg : Nat) := z_tn (by omega)
  have hS0 := hS
  obtain ⟨_, _, T, _, hT⟩ := hS
  obtain ⟨b, c1, c2, c3, _, _, c4⟩ := hT a.toNatClampNeg (by omega)
  have hs : nt_n M ≤ nt_sp := hB.2.1.1
  refine ⟨b, c1, c2, ⟨c4.2, fun i hi e => ?_, by omega, rfl⟩, ea, (hZ.2.2 _ b (by omega) c1).2⟩
  have := hS0.1.1 i hi
  omega
theorem zz_days2 {X : nt_X} {pl : Nat → Nat} {v mk xi : Nat → Int} {M M1 M2 : nt_M} {y1 y2 a b : Int32} (hB : ly_B pl v M) (hS : ly_S pl mk xi (v 2) M) (hE : nt_I M (pl 16) 4 = nt_I M (pl 0) 2) (hB1 : ly_B pl v M1) (f1 : ly_fr 66 pl M M1) (f2 : ly_fr 66 pl M1 M2) (e1 : nt_ev X 99 110 [.ref (pl 16), .int a, .int b] M (some (.int y1), M1)) (e2 : nt_ev X 99 186 [.ref (pl 0), .int a, .int b] M1 (some (.int y2), M2)) (hZ : zz_E pl M) : y1 = y2 ∧ zz_E pl M2 := by
  have ne := zz_ne hB
  have hZ0 := hZ
  obtain ⟨⟨hR, hW, hd, hz⟩, hI⟩ := hZ
  have h0 : 0 ≤ (nt_I M (pl 0) 2).toInt := ((hB.2.1.2 0 _ (show ly_E.2.1[0]? = some (11, 0, 0, 9) from rfl)).2.2.2.2 2).1
  have c2 := xt186 (p := pl) (J := nt_I M1) (L := nt_J M1) (zz_P hB1) (zz_W hB1) e2
  obtain ⟨y2e, M2e⟩ := lq_out c2
  have i2 : nt_I M2 = (x186 pl a b (nt_I M1) (nt_J M1)).2.1 := by rw [M2e]; rfl
  have fin : ∀ (sp : Nat) (rc : Int32 × (Nat → Nat → Int32) × (Nat → Nat → Int64)), y1 = rc.1 → nt_I M1 = rc.2.1 → (nt_I M1 (pl 32) = nt_I M (pl 32)) → zqD pl sp (nt_I M) (nt_I M1) rc (x186 pl a b (nt_I M1) (nt_J M1)) → y1 = y2 ∧ zz_E pl M2 := by
    intro sp rc ey i1 e32 hq
    obtain ⟨k1, k2, k3, k4, k5⟩ := hq
    rw [← i1, ← i2] at k2
    rw [← i2] at k3 k4
    rw [← i1, ← i2] at k5
    have r2 : ∀ g, g < 66 → g ≠ 0 → g ≠ 4 → nt_I M2 (pl g) = nt_I M1 (pl g) := fun g hg z0 z4 => k5.r _ (ne g 0 hg (by omega) z0) (ne g 4 hg (by omega) z4)
    have r1 : ∀ g, g < 31 → g ≠ 25 → nt_I M1 (pl g) = nt_I M (pl g) := fun g hg z => k5.c _ (ne g 25 (by omega) (by omega) z) (fun i hi => ne g (31 + i) (by omega) (by omega) (by omega))
    have R2 : zR (fun i => pl (31 + i)) (nt_I M2) (nt_I M2 (pl 4)) := zR_aj (fun i hi => r2 (31 + i) (by omega) (by omega) (by omega)) k2
    refine ⟨by rw [ey, y2e]; exact k1, ⟨R2, k3, k4, ?_⟩, zz_Ifr hS (ly_fr_tr f1 f2) (zz_5 (fun g q1 q2 q3 q4 q5 => (r2 g (by omega) q2 q3).trans (r1 g (by omega) q5))) hI⟩
    intro c
    have e0 : nt_I M2 (pl 4) 0 = nt_I M (pl 4) 0 := by
      have z1 := zR_n R2 (i := 0) (by omega)
      have z2 := zR_n hR (i := 0) (by omega)
      have z1 : nt_I M2 (pl 32) 0 = nt_I M2 (pl 4) 0 := z1
      have z2 : nt_I M (pl 32) 0 = nt_I M (pl 4) 0 := z2
      rw [← z1, r2 32 (by omega) (by decide) (by decide), e32, z2]
    have c0 := c
    rw [e0] at c0
    have hm : x187 pl a (nt_I M1) = 0 := by
      unfold x187 x188
      rw [r1 4 (by omega) (by decide), c0, if_pos (show (0 : Int32) ≤ 0 from by decide)]
      rfl
    have u : (x186 pl a b (nt_I M1) (nt_J M1)).2.1 = nt_I M1 := by
      unfold x186
      rw [if_pos hm]
    rw [i2, u, r1 4 (by omega) (by decide)]
    exact hz c0
  by_cases hn : a < 0
  · have c1 := xt110N (p := pl) (J := nt_I M) (zz_P hB) (zz_Qn hB) hn e1
    obtain ⟨y1e, M1e⟩ := lq_out c1
    have i1 : nt_I M1 = (x110N pl a b (nt_I M)).2 := by rw [M1e]; rfl
    have e4 : nt_I M1 (pl 4) = nt_I M (pl 4) := by rw [i1]; exact x110N_frJ (ne 4 31 (by omega) (by omega) (by decide)) (ne 4 41 (by omega) (by omega) (by decide)) (ne 4 42 (by omega) (by omega) (by decide)) (ne 4 43 (by omega) (by omega) (by decide)) (ne 4 44 (by omega) (by omega) (by decide)) (ne 4 46 (by omega) (by omega) (by decide)) (ne 4 47 (by omega) (by omega) (by decide))
    have e0 : nt_I M1 (pl 0) = nt_I M (pl 0) := by rw [i1]; exact x110N_frJ (ne 0 31 (by omega) (by omega) (by decide)) (ne 0 41 (by omega) (by omega) (by decide)) (ne 0 42 (by omega) (by omega) (by decide)) (ne 0 43 (by omega) (by omega) (by decide)) (ne 0 44 (by omega) (by omega) (by decide)) (ne 0 46 (by omega) (by omega) (by decide)) (ne 0 47 (by omega) (by omega) (by decide))
    exact fin 0 ((x110N pl a b (nt_I M)).1, (x110N pl a b (nt_I M)).2, nt_J M) y1e i1 (by rw [i1]; exact x110N_frJ (ne 32 31 (by omega) (by omega) (by decide)) (ne 32 41 (by omega) (by omega) (by decide)) (ne 32 42 (by omega) (by omega) (by decide)) (ne 32 43 (by omega) (by omega) (by decide)) (ne 32 44 (by omega) (by omega) (by decide)) (ne 32 46 (by omega) (by omega) (by decide)) (ne 32 47 (by omega) (by omega) (by decide))) (zq_110N hn (zz_X hB) (by rw [e4]; exact hR) (by rw [e4]; exact hW) (by rw [e4]; exact hd) (by rw [e0]; exact hE) (by rw [e0]; exact h0))
  · by_cases h1 : nt_I M (pl 16) 4 ≤ a
    · have hx : x111 pl a (nt_I M) = Int32.ofInt 0 := by
        unfold x111
        rw [if_pos h1]
        split <;> rfl
      have c1 := xt110H (p := pl) (J := nt_I M) (zz_P hB) (zz_Qn hB) hx e1
      obtain ⟨y1e, M1e⟩ := lq_out c1
      have M1e : M1 = M := M1e
      have hm : x187 pl a (nt_I M1) = 0 := by
        have may := zmay (q := fun i => pl (31 + i)) (v1 := a) hR hW.w hE h0
        rw [M1e]
        exact Classical.byContradiction fun c => (may.mpr c).2 hx
      have u : x186 pl a b (nt_I M1) (nt_J M1) = (Int32.ofInt (-1), nt_I M1, nt_J M1) := by
        unfold x186
        rw [if_pos hm]
      have y1m : y1 = Int32.ofInt (-1) := by
        rw [y1e]
        unfold x110H
        split <;> rfl
      rw [u] at M2e y2e
      have M2e : M2 = M1 := M2e
      refine ⟨by rw [y1m, y2e], ?_⟩
      rw [M2e, M1e]
      exact hZ0
    · obtain ⟨rb, q1, q2, q3, q4, q5⟩ := zz_rule hB hS hZ0 hn h1
      have c1 := xt110 (p := pl) (J := nt_I M) (L := nt_J M) (zz_P hB) (zz_Qn hB) q3 hn q1 h1 e1
      obtain ⟨y1e, M1e⟩ := lq_out c1
      have i1 : nt_I M1 = (x110 pl (rb + 1) (nt_l M (rb + 1)) a b (nt_I M) (nt_J M)).2.1 := by rw [M1e]; rfl
      have e4 : nt_I M1 (pl 4) = nt_I M (pl 4) := by rw [i1]; exact x110_frJ (ne 4 25 (by omega) (by omega) (by decide)) (ne 4 31 (by omega) (by omega) (by decide)) (ne 4 41 (by omega) (by omega) (by decide)) (ne 4 42 (by omega) (by omega) (by decide)) (ne 4 43 (by omega) (by omega) (by decide)) (ne 4 44 (by omega) (by omega) (by decide)) (ne 4 45 (by omega) (by omega) (by decide)) (ne 4 46 (by omega) (by omega) (by decide)) (ne 4 47 (by omega) (by omega) (by decide))
      have e0 : nt_I M1 (pl 0) = nt_I M (pl 0) := by rw [i1]; exact x110_frJ (ne 0 25 (by omega) (by omega) (by decide)) (ne 0 31 (by omega) (by omega) (by decide)) (ne 0 41 (by omega) (by omega) (by decide)) (ne 0 42 (by omega) (by omega) (by decide)) (ne 0 43 (by omega) (by omega) (by decide)) (ne 0 44 (by omega) (by omega) (by decide)) (ne 0 45 (by omega) (by omega) (by decide)) (ne 0 46 (by omega) (by omega) (by decide)) (ne 0 47 (by omega) (by omega) (by decide))
      have s1 : nt_I M1 (pl 1) = nt_I M (pl 1) := by rw [i1]; exact x110_frJ (ne 1 25 (by omega) (by omega) (by decide)) (ne 1 31 (by omega) (by omega) (by decide)) (ne 1 41 (by omega) (by omega) (by decide)) (ne 1 42 (by omega) (by omega) (by decide)) (ne 1 43 (by omega) (by omega) (by decide)) (ne 1 44 (by omega) (by omega) (by decide)) (ne 1 45 (by omega) (by omega) (by decide)) (ne 1 46 (by omega) (by omega) (by decide)) (ne 1 47 (by omega) (by omega) (by decide))
      have s2 : nt_I M1 (pl 2) = nt_I M (pl 2) := by rw [i1]; exact x110_frJ (ne 2 25 (by omega) (by omega) (by decide)) (ne 2 31 (by omega) (by omega) (by decide)) (ne 2 41 (by omega) (by omega) (by decide)) (ne 2 42 (by omega) (by omega) (by decide)) (ne 2 43 (by omega) (by omega) (by decide)) (ne 2 44 (by omega) (by omega) (by decide)) (ne 2 45 (by omega) (by omega) (by decide)) (ne 2 46 (by omega) (by omega) (by decide)) (ne 2 47 (by omega) (by omega) (by decide))
      have s3 : nt_I M1 (pl 3) = nt_I M (pl 3) := by rw [i1]; exact x110_frJ (ne 3 25 (by omega) (by omega) (by decide)) (ne 3 31 (by omega) (by omega) (by decide)) (ne 3 41 (by omega) (by omega) (by decide)) (ne 3 42 (by omega) (by omega) (by decide)) (ne 3 43 (by omega) (by omega) (by decide)) (ne 3 44 (by omega) (by omega) (by decide)) (ne 3 45 (by omega) (by omega) (by decide)) (ne 3 46 (by omega) (by omega) (by decide)) (ne 3 47 (by omega) (by omega) (by decide))
      exact fin (rb + 1) _ y1e i1 (by rw [i1]; exact x110_frJ (ne 32 25 (by omega) (by omega) (by decide)) (ne 32 31 (by omega) (by omega) (by decide)) (ne 32 41 (by omega) (by omega) (by decide)) (ne 32 42 (by omega) (by omega) (by decide)) (ne 32 43 (by omega) (by omega) (by decide)) (ne 32 44 (by omega) (by omega) (by decide)) (ne 32 45 (by omega) (by omega) (by decide)) (ne 32 46 (by omega) (by omega) (by decide)) (ne 32 47 (by omega) (by omega) (by decide))) (zq_110 (fun i hi => q3.2.1 (31 + i) (by omega)) q4 (zRQ_ag q5 rfl s1 s2 s3) (zz_X hB) (by rw [e4]; exact hR) (by rw [e4]; exact hW) (by rw [e4]; exact hd) (by rw [e0]; exact hE) (by rw [e0]; exact h0))
/-- what is kept is put back -/
theorem zb_226 {p : Nat → Nat} {v1 v2 v3 : Int32} {J : Nat → Nat → Int32} {L : Nat → Nat → Int64} (hp : zpd p) {j : Nat} (hj : j < 212) : (x226 p v1 v2 v3 J L).2.1 (p 4) j = J (p 4) j := by
  have n47 : p 4 ≠ p 7 := hp 4 7 (by omega) (by omega) (by omega)
  have n74 : p 7 ≠ p 4 := hp 7 4 (by omega) (by omega) (by omega)
  have n70 : p 7 ≠ p 0 := hp 7 0 (by omega) (by omega) (by omega)
  unfold x226
  split
  · rfl
  · split
    · rfl
    · split
      · rfl
      · rw [← zkp (J := J) n47 hj]
        refine x226_41_rule (I := fun _ _ J1 _ => J1 (p 7) = x227 p J (p 7)) (Q := fun r => r.2.1 (p 4) j = x227 p J (p 7) j) ?_ ?_ _ _ _ _ rfl
        · intro v4 J1 L1 h
          have fin : ∀ y : Int32, ((y, x229 p J1, L1) : Int32 × (Nat → Nat → Int32) × (Nat → Nat → Int64)).2.1 (p 4) j = x227 p J (p 7) j := fun y => by
            dsimp only
            rw [(zpb n74).1 j hj, h]
          split
          · exact fin _
          · split
            · exact fin _
            · exact fin _
        · intro c v4 J1 L1 h
          have fin : ∀ y : Int32, ((y, x229 p J1, L1) : Int32 × (Nat → Nat → Int32) × (Nat → Nat → Int64)).2.1 (p 4) j = x227 p J (p 7) j := fun y => by
            dsimp only
            rw [(zpb n74).1 j hj, h]
          split
          · split
            · exact fin _
            · split
              · exact fin _
              · exact fin _
          · rw [x190_frJ n70 n74]
            exact h
theorem zb_231 {p : Nat → Nat} {v1 v2 v3 v4 v5 : Int32} {J : Nat → Nat → Int32} {L : Nat → Nat → Int64} (hp : zpd p) {j : Nat} (hj : j < 212) : (x231 p v1 v2 v3 v4 v5 J L).2.1 (p 4) j = J (p 4) j := by
  have n47 : p 4 ≠ p 7 := hp 4 7 (by omega) (by omega) (by omega)
  have n74 : p 7 ≠ p 4 := hp 7 4 (by omega) (by omega) (by omega)
  have n70 : p 7 ≠ p 0 := hp 7 0 (by omega) (by omega) (by omega)
  unfold x231
  split
  · rfl
  · split
    · rfl
    · split
      · rfl
      · split
        · rfl
        · split
          · rfl
          · refine x231_78_rule (I := fun _ _ _ _ J1 _ => J1 (p 7) = x227 p J (p 7) ∧ J1 (p 4) j = J (p 4) j) (Q := fun r => r.2.1 (p 4) j = J (p 4) j) ?_ ?_ _ _ _ _ _ _ ⟨rfl, by rw [x227_frJ n47]⟩
            · intro v6 v8 v9 J1 L1 h
              exact h.2
            · intro c v6 v8 v9 J1 L1 h
              have st : ∀ J2 : Nat → Nat → Int32, J2 (p 7) = J1 (p 7) → x229 p J2 (p 7) = x227 p J (p 7) ∧ x229 p J2 (p 4) j = J (p 4) j := fun J2 e => by
                refine ⟨by rw [x229_frJ n74, e, h.1], ?_⟩
                rw [(zpb n74).1 j hj, e, h.1, zkp n47 hj]
              split
              · exact h.2
              · split
                · exact st _ (x231_87_frJ _ _ _ _ _ n70 n74)
                · exact st _ (x231_87_frJ _ _ _ _ _ n70 n74)
theorem zz_aheadK {X : nt_X} {pl : Nat → Nat} {v mk xi : Nat → Int} {M M1 M2 : nt_M} {y1 y2 a b c : Int32} (hB : ly_B pl v M) (hS : ly_S pl mk xi (v 2) M) (hB1 : ly_B pl v M1) (f1 : ly_fr 66 pl M M1) (f2 : ly_fr 66 pl M1 M2) (e1 : nt_ev X 99 123 [.ref (pl 16), .int a, .int b, .int c] M (some (.int y1), M1)) (e2 : nt_ev X 99 226 [.ref (pl 0), .int a, .int b, .int c] M1 (some (.int y2), M2)) (hZ : zz_E pl M) : zz_E pl M2 := by
  have ne := zz_ne hB
  have c2 := xt226 (p := pl) (J := nt_I M1) (L := nt_J M1) (zz_P hB1) (zz_W hB1) e2
  have M2e := (lq_out c2).2
  have i2 : nt_I M2 = (x226 pl a b c (nt_I M1) (nt_J M1)).2.1 := by rw [M2e]; rfl
  have r1 : ∀ g, g < 48 → g ≠ 25 → nt_I M1 (pl g) = nt_I M (pl g) := by
    intro g hg z
    by_cases hn : a < 0
    · have c1 := xt123N (p := pl) (J := nt_I M) (zz_P hB) (zz_Qn hB) (zz_Qm hB) (zz_Nm hB) hn e1
      rw [(lq_out c1).2]
      exact x123N_frJ (ne g 48 (by omega) (by omega) (by omega)) (ne g 49 (by omega) (by omega) (by omega)) (ne g 50 (by omega) (by omega) (by omega)) (ne g 51 (by omega) (by omega) (by omega)) (ne g 52 (by omega) (by omega) (by omega)) (ne g 53 (by omega) (by omega) (by omega)) (ne g 54 (by omega) (by omega) (by omega)) (ne g 55 (by omega) (by omega) (by omega)) (ne g 56 (by omega) (by omega) (by omega)) (ne g 57 (by omega) (by omega) (by omega)) (ne g 58 (by omega) (by omega) (by omega)) (ne g 59 (by omega) (by omega) (by omega)) (ne g 60 (by omega) (by omega) (by omega)) (ne g 61 (by omega) (by omega) (by omega)) (ne g 62 (by omega) (by omega) (by omega)) (ne g 63 (by omega) (by omega) (by omega)) (ne g 64 (by omega) (by omega) (by omega))
    · by_cases h1 : nt_I M (pl 16) 4 ≤ a
      · have hx : x111 pl a (nt_I M) = Int32.ofInt 0 := by
          unfold x111
          rw [if_pos h1]
          split <;> rfl
        have c1 := xt123H (p := pl) (J := nt_I M) (zz_P hB) (zz_Qn hB) hx e1
        rw [(lq_out c1).2]
        rfl
      · obtain ⟨rb, q1, q2, q3, q4, q5⟩ := zz_rule hB hS hZ hn h1
        have c1 := xt123 (p := pl) (J := nt_I M) (L := nt_J M) (zz_P hB) (zz_Qn hB) (zz_Qm hB) (zz_Nm hB) q3 hn q1 h1 e1
        rw [(lq_out c1).2]
        exact x123_frJ (ne g 25 (by omega) (by omega) (by omega)) (ne g 48 (by omega) (by omega) (by omega)) (ne g 49 (by omega) (by omega) (by omega)) (ne g 50 (by omega) (by omega) (by omega)) (ne g 51 (by omega) (by omega) (by omega)) (ne g 52 (by omega) (by omega) (by omega)) (ne g 53 (by omega) (by omega) (by omega)) (ne g 54 (by omega) (by omega) (by omega)) (ne g 55 (by omega) (by omega) (by omega)) (ne g 56 (by omega) (by omega) (by omega)) (ne g 57 (by omega) (by omega) (by omega)) (ne g 58 (by omega) (by omega) (by omega)) (ne g 59 (by omega) (by omega) (by omega)) (ne g 60 (by omega) (by omega) (by omega)) (ne g 61 (by omega) (by omega) (by omega)) (ne g 62 (by omega) (by omega) (by omega)) (ne g 63 (by omega) (by omega) (by omega)) (ne g 64 (by omega) (by omega) (by omega))
  have r2 : ∀ g, g < 66 → g ≠ 0 → g ≠ 4 → g ≠ 7 → nt_I M2 (pl g) = nt_I M1 (pl g) := fun g hg z0 z4 z7 => by
    rw [i2]
    exact x226_frJ (ne g 0 hg (by omega) z0) (ne g 4 hg (by omega) z4) (ne g 7 hg (by omega) z7)
  have e4 : ∀ j, j < 212 → nt_I M2 (pl 4) j = nt_I M (pl 4) j := fun j hj => by rw [i2, zb_226 ne hj, r1 4 (by omega) (by decide)]
  exact ⟨zz_Rae e4 (zz_Rag (fun i hi => (r2 (31 + i) (by omega) (by omega) (by omega) (by omega)).trans (r1 (31 + i) (by omega) (by omega))) hZ.1), zz_Ifr hS (ly_fr_tr f1 f2) (zz_5 (fun g q1 q2 q3 q4 q5 => (r2 g (by omega) q2 q3 q4).trans (r1 g (by omega) q5))) hZ.2⟩
theorem zz_yearsK {X : nt_X} {pl : Nat → Nat} {v mk xi : Nat → Int} {M M1 M2 : nt_M} {y1 y2 a b c d e : Int32} (hB : ly_B pl v M) (hS : ly_S pl mk xi (v 2) M) (hB1 : ly_B pl v M1) (f1 : ly_fr 66 pl M M1) (f2 : ly_fr 66 pl M1 M2) (e1 : nt_ev X 99 125 [.ref (pl 16), .int a, .int b, .int c, .int d, .int e] M (some (.int y1), M1)) (e2 : nt_ev X 99 231 [.ref (pl 0), .int a, .int b, .int c, .int d, .int e] M1 (some (.int y2), M2)) (hZ : zz_E pl M) : zz_E pl M2 := by
  have ne := zz_ne hB
  have c2 := xt231 (p := pl) (J := nt_I M1) (L := nt_J M1) (zz_P hB1) (zz_W hB1) e2
  have M2e := (lq_out c2).2
  have i2 : nt_I M2 = (x231 pl a b c d e (nt_I M1) (nt_J M1)).2.1 := by rw [M2e]; rfl
  have r1 : ∀ g, g < 48 → g ≠ 25 → nt_I M1 (pl g) = nt_I M (pl g) := by
    intro g hg z
    by_cases hn : a < 0
    · have c1 := xt125N (p := pl) (J := nt_I M) (zz_P hB) (zz_Qn hB) (zz_Qm hB) (zz_Nm hB) hn e1
      rw [(lq_out c1).2]
      exact x125N_frJ (ne g 48 (by omega) (by omega) (by omega)) (ne g 49 (by omega) (by omega) (by omega)) (ne g 50 (by omega) (by omega) (by omega)) (ne g 51 (by omega) (by omega) (by omega)) (ne g 52 (by omega) (by omega) (by omega)) (ne g 53 (by omega) (by omega) (by omega)) (ne g 54 (by omega) (by omega) (by omega)) (ne g 55 (by omega) (by omega) (by omega)) (ne g 56 (by omega) (by omega) (by omega)) (ne g 57 (by omega) (by omega) (by omega)) (ne g 58 (by omega) (by omega) (by omega)) (ne g 59 (by omega) (by omega) (by omega)) (ne g 60 (by omega) (by omega) (by omega)) (ne g 61 (by omega) (by omega) (by omega)) (ne g 62 (by omega) (by omega) (by omega)) (ne g 63 (by omega) (by omega) (by omega)) (ne g 64 (by omega) (by omega) (by omega))
    · by_cases h1 : nt_I M (pl 16) 4 ≤ a
      · have hx : x111 pl a (nt_I M) = Int32.ofInt 0 := by
          unfold x111
          rw [if_pos h1]
          split <;> rfl
        have c1 := xt125H (p := pl) (J := nt_I M) (zz_P hB) (zz_Qn hB) hx e1
        rw [(lq_out c1).2]
        rfl
      · obtain ⟨rb, q1, q2, q3, q4, q5⟩ := zz_rule hB hS hZ hn h1
        have c1 := xt125 (p := pl) (J := nt_I M) (L := nt_J M) (zz_P hB) (zz_Qn hB) (zz_Qm hB) (zz_Nm hB) q3 hn q1 h1 e1
        rw [(lq_out c1).2]
        exact x125_frJ (ne g 25 (by omega) (by omega) (by omega)) (ne g 48 (by omega) (by omega) (by omega)) (ne g 49 (by omega) (by omega) (by omega)) (ne g 50 (by omega) (by omega) (by omega)) (ne g 51 (by omega) (by omega) (by omega)) (ne g 52 (by omega) (by omega) (by omega)) (ne g 53 (by omega) (by omega) (by omega)) (ne g 54 (by omega) (by omega) (by omega)) (ne g 55 (by omega) (by omega) (by omega)) (ne g 56 (by omega) (by omega) (by omega)) (ne g 57 (by omega) (by omega) (by omega)) (ne g 58 (by omega) (by omega) (by omega)) (ne g 59 (by omega) (by omega) (by omega)) (ne g 60 (by omega) (by omega) (by omega)) (ne g 61 (by omega) (by omega) (by omega)) (ne g 62 (by omega) (by omega) (by omega)) (ne g 63 (by omega) (by omega) (by omega)) (ne g 64 (by omega) (by omega) (by omega))
  have r2 : ∀ g, g < 66 → g ≠ 0 → g ≠ 4 → g ≠ 7 → nt_I M2 (pl g) = nt_I M1 (pl g) := fun g hg z0 z4 z7 => by
    rw [i2]
    exact x231_frJ (ne g 0 hg (by omega) z0) (ne g 4 hg (by omega) z4) (ne g 7 hg (by omega) z7)
  have e4 : ∀ j, j < 212 → nt_I M2 (pl 4) j = nt_I M (pl 4) j := fun j hj => by rw [i2, zb_231 ne hj, r1 4 (by omega) (by decide)]
  exact ⟨zz_Rae e4 (zz_Rag (fun i hi => (r2 (31 + i) (by omega) (by omega) (by omega) (by omega)).trans (r1 (31 + i) (by omega) (by omega))) hZ.1), zz_Ifr hS (ly_fr_tr f1 f2) (zz_5 (fun g q1 q2 q3 q4 q5 => (r2 g (by omega) q2 q3 q4).trans (r1 g (by omega) q5))) hZ.2⟩
