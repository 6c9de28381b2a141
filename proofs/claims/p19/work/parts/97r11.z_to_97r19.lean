section
/-! calls of one state: everything kept -/
theorem ly_fr_tr {pl : Nat → Nat} {M M1 M2 : nt_M} (h1 : ly_fr 66 pl M M1) (h2 : ly_fr 66 pl M1 M2) : ly_fr 66 pl M M2 := by
  obtain ⟨⟨a1, a2, a3, a4⟩, a5, a6⟩ := h1
  obtain ⟨⟨b1, b2, b3, b4⟩, b5, b6⟩ := h2
  exact ⟨⟨b1.trans a1, b2.trans a2, b3.trans a3, b4.trans a4⟩, fun a ha => ⟨fun j => ((b5 a ha).1 j).trans ((a5 a ha).1 j), fun j => ((b5 a ha).2 j).trans ((a5 a ha).2 j)⟩, fun g j hg => (b6 g j hg).trans (a6 g j hg)⟩
theorem zz_5 {P : Nat → Prop} (h : ∀ g, g < 31 → g ≠ 0 → g ≠ 4 → g ≠ 7 → g ≠ 25 → P g) : ∀ g, g = 14 ∨ g = 1 ∨ g = 2 ∨ g = 3 ∨ g = 16 → P g := by
  intro g hg
  exact h g (by omega) (by omega) (by omega) (by omega) (by omega)
theorem zz_x {pl : Nat → Nat} {v : Nat → Int} {M : nt_M} (hB : ly_B pl v M) (hx : v 0 = v 1) : nt_I M (pl 31) 6 = nt_I M (pl 4) 9 := Int32.toInt_inj.mp (by rw [ly_cell (g := 31) (j := 6) (u := 1) hB (by decide) (List.mem_of_getElem? (i := 1) rfl), ly_cell (g := 4) (j := 9) (u := 0) hB (by decide) (List.mem_of_getElem? (i := 0) rfl)]; exact hx.symm)
theorem zz_move2 {X : nt_X} {pl : Nat → Nat} {v v1 mk xi : Nat → Int} {rc : Int} {M M1 M2 : nt_M} {y1 y2 a b : Int32} (hB : ly_B pl v M) (hS : ly_S pl mk xi rc M) (hB1 : ly_B pl v1 M1) (f1 : ly_fr 66 pl M M1) (f2 : ly_fr 66 pl M1 M2) (e1 : nt_ev X 99 109 [.ref (pl 16), .int a, .int b] M (some (.int y1), M1)) (e2 : nt_ev X 99 181 [.ref (pl 0), .int a, .int b] M1 (some (.int y2), M2)) (hZ : zz_E pl M) : y1 = y2 ∧ zz_E pl M2 := by
  have ne := zz_ne hB
  have c1 := xt109 (p := pl) (J := nt_I M) (zz_P hB) (zz_Qn hB) e1
  obtain ⟨y1e, M1e⟩ := lq_out c1
  have i1 : nt_I M1 = (x109 pl a b (nt_I M)).2 := by rw [M1e]; rfl
  have c2 := xt181 (p := pl) (J := nt_I M1) (zz_P hB1) e2
  obtain ⟨y2e, M2e⟩ := lq_out c2
  have i2 : nt_I M2 = (x181 pl a b (nt_I M1)).2 := by rw [M2e]; rfl
  have r1 : ∀ g, g < 66 → g ≠ 31 → g ≠ 45 → nt_I M1 (pl g) = nt_I M (pl g) := fun g hg z0 z1 => by
    rw [i1]
    exact x109_frJ (ne g 31 hg (by omega) z0) (ne g 45 hg (by omega) z1)
  have r2 : ∀ g, g < 66 → g ≠ 4 → nt_I M2 (pl g) = nt_I M1 (pl g) := fun g hg h => by
    rw [i2]
    exact x181_frJ (ne g 4 hg (by omega) h)
  have e4 : nt_I M1 (pl 4) = nt_I M (pl 4) := r1 4 (by omega) (by decide) (by decide)
  obtain ⟨⟨hR, hW, hd, hz⟩, hI⟩ := hZ
  have key := zq_109 (p := pl) (v1 := a) (v2 := b) (Jc := nt_I M) (Jr := nt_I M1) (zz_X hB) (by rw [e4]; exact hR) (by rw [e4]; exact hW)
  obtain ⟨k1, k2, k3, k4⟩ := key
  rw [← i1, ← i2] at k2
  rw [← i2] at k3 k4
  have ag : ∀ i, i < 6 → nt_I M2 (pl 4) i = nt_I M (pl 4) i := fun i hi => by rw [k4 i hi, e4]
  refine ⟨by rw [y1e, y2e]; exact k1, ⟨zR_aj (fun i hi => r2 (31 + i) (by omega) (by omega)) k2, ?_, ?_, ?_⟩, zz_Ifr hS (ly_fr_tr f1 f2) (zz_5 (fun g h1 h2 h3 h4 h5 => (r2 g (by omega) h3).trans (r1 g (by omega) (by omega) (by omega)))) hI⟩
  · rw [ag 4 (by omega)]
    exact k3
  · rw [ag 4 (by omega)]
    exact hd
  · intro c
    rw [ag 0 (by omega)] at c
    have h177 : x177 pl a (nt_I M1) = 0 := by
      unfold x177
      by_cases q1 : a < 0
      · rw [if_pos q1]
        rfl
      · rw [if_neg q1]
        by_cases q2 : nt_I M1 (pl 4) 2 ≤ a
        · rw [if_pos q2]
          rfl
        · exfalso
          rw [e4] at q2
          have b := zn_b hW.w
          have q1' : ¬ a.toInt < 0 := fun h => q1 (Int32.lt_iff_toInt_lt.mpr h)
          have x := zx b.2.2.2.2.2.2.1 (by omega) q2
          have kn := hW.a.kn _ x.1
          rw [c, show (0 : Int32).toInt = 0 from by decide] at kn
          omega
    have u : (x181 pl a b (nt_I M1)).2 = nt_I M1 := by
      unfold x181
      rw [if_pos h177]
    rw [i2, u, e4]
    exact hz c
theorem zz_seed2 {X : nt_X} {pl : Nat → Nat} {v v1 mk xi : Nat → Int} {rc : Int} {M M1 M2 : nt_M} {y1 y2 a : Int32} (hB : ly_B pl v M) (hS : ly_S pl mk xi rc M) (hB1 : ly_B pl v1 M1) (f1 : ly_fr 66 pl M M1) (f2 : ly_fr 66 pl M1 M2) (hx : v 0 = v 1) (e1 : nt_ev X 99 124 [.ref (pl 16), .int a] M (some (.int y1), M1)) (e2 : nt_ev X 99 230 [.ref (pl 0), .int a] M1 (some (.int y2), M2)) (hZ : zz_E pl M) : y1 = y2 ∧ zz_E pl M2 := by
  have ne := zz_ne hB
  have c1 := xt124 (p := pl) (J := nt_I M) (zz_P hB) (zz_Qn hB) e1
  obtain ⟨y1e, M1e⟩ := lq_out c1
  have i1 : nt_I M1 = (x124 pl a (nt_I M)).2 := by rw [M1e]; rfl
  have c2 := xt230 (p := pl) (J := nt_I M1) (zz_P hB1) e2
  obtain ⟨y2e, M2e⟩ := lq_out c2
  have i2 : nt_I M2 = (x230 pl a (nt_I M1)).2 := by rw [M2e]; rfl
  have r1 : ∀ g, g < 66 → g ≠ 31 → nt_I M1 (pl g) = nt_I M (pl g) := fun g hg z0 => by
    rw [i1]
    exact x124_frJ (ne g 31 hg (by omega) z0)
  have r2 : ∀ g, g < 66 → g ≠ 4 → nt_I M2 (pl g) = nt_I M1 (pl g) := fun g hg h => by
    rw [i2]
    exact x230_frJ (ne g 4 hg (by omega) h)
  have e4 : nt_I M1 (pl 4) = nt_I M (pl 4) := r1 4 (by omega) (by decide)
  obtain ⟨⟨hR, hW, hd, hz⟩, hI⟩ := hZ
  have key := zq_124 (p := pl) (v1 := a) (Jc := nt_I M) (Jr := nt_I M1) (zz_X hB) (by rw [e4]; exact hR) (by rw [e4]; exact hW) (by rw [e4]; exact zz_x hB hx)
  obtain ⟨k1, k2, k3, k4⟩ := key
  rw [← i1, ← i2] at k2
  rw [← i2] at k3 k4
  have ag : ∀ i, i < 9 → nt_I M2 (pl 4) i = nt_I M (pl 4) i := fun i hi => by rw [k4 i hi, e4]
  refine ⟨by rw [y1e, y2e]; exact k1, ⟨zR_aj (fun i hi => r2 (31 + i) (by omega) (by omega)) k2, ?_, ?_, ?_⟩, zz_Ifr hS (ly_fr_tr f1 f2) (zz_5 (fun g h1 h2 h3 h4 h5 => (r2 g (by omega) h3).trans (r1 g (by omega) (by omega)))) hI⟩
  · rw [ag 4 (by omega)]
    exact k3
  · rw [ag 4 (by omega)]
    exact hd
  · rw [ag 0 (by omega), ag 5 (by omega), ag 6 (by omega)]
    exact hz
/-- days, both sides -/
def zqD (p : Nat → Nat) (sp : Nat) (Jc Jr : Nat → Nat → Int32) (rc rr : Int32 × (Nat → Nat → Int32) × (Nat → Nat → Int64)) : Prop := rc.1 = rr.1 ∧ zR (fun i => p (31 + i)) rc.2.1 (rr.2.1 (p 4)) ∧ zW (rr.2.1 (p 4)) (rr.2.1 (p 4) 4).toInt ∧ (rr.2.1 (p 4) 4).toInt ≤ 200 ∧ zKp p (fun i => p (31 + i)) sp Jc Jr rc.2.1 rr.2.1
theorem z_i1 {x : Int32} : x < Int32.ofInt 1 ↔ x.toInt < 1 := by
  rw [Int32.lt_iff_toInt_lt, show (Int32.ofInt 1).toInt = 1 from by decide]
theorem z_i0 {x : Int32} : x < 0 ↔ x.toInt < 0 := by
  rw [Int32.lt_iff_toInt_lt, show (0 : Int32).toInt = 0 from by decide]
theorem z_i100 {x : Int32} : Int32.ofInt 100 < x ↔ 100 < x.toInt := by
  rw [Int32.lt_iff_toInt_lt, show (Int32.ofInt 100).toInt = 100 from by decide]
theorem z_j1 : (Int64.ofNat 1).toInt = 1 := by decide
theorem z_j0 : (Int64.ofNat 0).toInt = 0 := by decide
theorem z_j100 : (100 : Int64).toInt = 100 := by decide
theorem zq_110 {p : Nat → Nat} {v1 v2 : Int32} {sp ln T : Nat} {Jc Jr : Nat → Nat → Int32} {Lc Lr : Nat → Nat → Int64} (hsq : ∀ i, i < 17 → sp ≠ p (31 + i)) (ht : v1.toInt = (T : Nat)) (hQ : zRQ p sp ln T Jc Jr) (X : zX p (fun i => p (31 + i))) (hR : zR (fun i => p (31 + i)) Jc (Jr (p 4))) (hW : zW (Jr (p 4)) (Jr (p 4) 4).toInt) (hd : (Jr (p 4) 4).toInt ≤ 200) (h4 : Jc (p 16) 4 = Jr (p 0) 2) (h0 : 0 ≤ (Jr (p 0) 2).toInt) : zqD p sp Jc Jr (x110 p sp ln v1 v2 Jc Lc) (x186 p v1 v2 Jr Lr) := by
  have may := zmay (q := fun i => p (31 + i)) (v1 := v1) hR hW.w h4 h0
  have e4 : Jc (p 31) 2 = Jr (p 4) 4 := zR_4 hR
  have d0 := hW.d.d4
  have same : ∀ y : Int32, zqD p sp Jc Jr (y, Jc, Lc) (y, Jr, Lr) := fun y => ⟨rfl, hR, hW, hd, zKp_r⟩
  unfold x110 x186
  by_cases hm : x187 p v1 Jr = 0
  · rw [if_pos hm]
    by_cases a : Jc (p 31) 1 = 0
    · rw [if_pos a]
      exact same _
    · rw [if_neg a, if_pos (Classical.byContradiction fun c => may.mp ⟨a, c⟩ hm)]
      exact same _
  · obtain ⟨a, b⟩ := may.mpr hm
    have a : ¬ Jc (p 31) 1 = 0 := a
    rw [if_neg hm, if_neg a, if_neg b, z_145, z_j1, z_j100, e4]
    by_cases c1 : v2.toInt < 1
    · rw [if_pos (z_i1.mpr c1), if_pos (show v2.toInt < 1 ∨ 100 < v2.toInt from Or.inl c1), if_pos (show Int32.ofInt 0 = 0 from rfl)]
      exact same _
    · rw [if_neg (fun h => c1 (z_i1.mp h))]
      by_cases c2 : 100 < v2.toInt
      · rw [if_pos (z_i100.mpr c2), if_pos (show v2.toInt < 1 ∨ 100 < v2.toInt from Or.inr c2), if_pos (show Int32.ofInt 0 = 0 from rfl)]
        exact same _
      · rw [if_neg (fun h => c2 (z_i100.mp h)), if_neg (show ¬ (v2.toInt < 1 ∨ 100 < v2.toInt) from by omega), if_neg (show ¬ Int32.ofInt 1 = 0 from by decide)]
        by_cases c3 : Jr (p 4) 4 + v2 ≤ Int32.ofInt 200
        · rw [if_pos c3, if_pos c3]
          have c3' := Int32.le_iff_toInt_le.mp c3
          rw [Int32.toInt_add, show (Int32.ofInt 200).toInt = 200 from by decide, Int.bmod_eq_of_le (by omega) (by omega)] at c3'
          have z0 : (Int32.ofInt 0).toInt = 0 := by decide
          have cl : v2.toInt - (Int32.ofInt 0).toInt ≤ (v2.toNatClampNeg : Nat) := by
            rw [zn_t, z0]
            omega
          have key := zdays_l hsq ht X v2.toNatClampNeg (Int32.ofInt 0) Jc Jr Lc Lr (by decide) cl (by omega) (by omega) hR hW hQ
          exact key
        · rw [if_neg c3, if_neg c3]
          exact same _
theorem zq_110N {p : Nat → Nat} {v1 v2 : Int32} {Jc Jr : Nat → Nat → Int32} {Lc Lr : Nat → Nat → Int64} (hv : v1 < 0) (X : zX p (fun i => p (31 + i))) (hR : zR (fun i => p (31 + i)) Jc (Jr (p 4))) (hW : zW (Jr (p 4)) (Jr (p 4) 4).toInt) (hd : (Jr (p 4) 4).toInt ≤ 200) (h4 : Jc (p 16) 4 = Jr (p 0) 2) (h0 : 0 ≤ (Jr (p 0) 2).toInt) : zqD p 0 Jc Jr ((x110N p v1 v2 Jc).1, (x110N p v1 v2 Jc).2, Lc) (x186 p v1 v2 Jr Lr) := by
  have may := zmay (q := fun i => p (31 + i)) (v1 := v1) hR hW.w h4 h0
  have e4 : Jc (p 31) 2 = Jr (p 4) 4 := zR_4 hR
  have d0 := hW.d.d4
  have same : ∀ y : Int32, zqD p 0 Jc Jr (y, Jc, Lc) (y, Jr, Lr) := fun y => ⟨rfl, hR, hW, hd, zKp_r⟩
  unfold x110N x186
  by_cases hm : x187 p v1 Jr = 0
  · rw [if_pos hm]
    by_cases a : Jc (p 31) 1 = 0
    · rw [if_pos a]
      exact same _
    · rw [if_neg a, if_pos (Classical.byContradiction fun c => may.mp ⟨a, c⟩ hm)]
      exact same _
  · obtain ⟨a, b⟩ := may.mpr hm
    have a : ¬ Jc (p 31) 1 = 0 := a
    rw [if_neg hm, if_neg a, if_neg b, z_145, z_j1, z_j100, e4]
    by_cases c1 : v2.toInt < 1
    · rw [if_pos (z_i1.mpr c1), if_pos (show v2.toInt < 1 ∨ 100 < v2.toInt from Or.inl c1), if_pos (show Int32.ofInt 0 = 0 from rfl)]
      exact same _
    · rw [if_neg (fun h => c1 (z_i1.mp h))]
      by_cases c2 : 100 < v2.toInt
      · rw [if_pos (z_i100.mpr c2), if_pos (show v2.toInt < 1 ∨ 100 < v2.toInt from Or.inr c2), if_pos (show Int32.ofInt 0 = 0 from rfl)]
        exact same _
      · rw [if_neg (fun h => c2 (z_i100.mp h)), if_neg (show ¬ (v2.toInt < 1 ∨ 100 < v2.toInt) from by omega), if_neg (show ¬ Int32.ofInt 1 = 0 from by decide)]
        by_cases c3 : Jr (p 4) 4 + v2 ≤ Int32.ofInt 200
        · rw [if_pos c3, if_pos c3]
          have c3' := Int32.le_iff_toInt_le.mp c3
          rw [Int32.toInt_add, show (Int32.ofInt 200).toInt = 200 from by decide, Int.bmod_eq_of_le (by omega) (by omega)] at c3'
          have z0 : (Int32.ofInt 0).toInt = 0 := by decide
          have cl : v2.toInt - (Int32.ofInt 0).toInt ≤ (v2.toNatClampNeg : Nat) := by
            rw [zn_t, z0]
            omega
          have ev : v1 = Int32.ofInt (-1) := by
            unfold x111 at b
            by_cases g : v1 < Int32.ofInt (-1)
            · rw [if_pos g] at b
              exact absurd rfl b
            · have g1 : ¬ v1.toInt < (Int32.ofInt (-1)).toInt := fun h => g (Int32.lt_iff_toInt_lt.mpr h)
              have g2 := z_i0.mp hv
              rw [show (Int32.ofInt (-1)).toInt = -1 from by decide] at g1
              exact Int32.toInt_inj.mp (by rw [show (Int32.ofInt (-1)).toInt = -1 from by decide]; omega)
          have key := zdaysN_l (v1 := v1) X v2.toNatClampNeg (Int32.ofInt 0) Jc Jr Lr (by decide) cl (by omega) (by omega) hR hW
          rw [← ev] at key
          exact key
        · rw [if_neg c3, if_neg c3]
          exact same _
/-- a rule that is there -/
theorem zz_rule {pl : Nat → Nat} {v mk xi : Nat → Int} {M : nt_M} {a : Int32} (hB : ly_B pl v M) (hS : ly_S pl mk xi (v 2) M) (hZ : zz_E pl M) (h0 : ¬ a < 0) (h1 : ¬ nt_I M (pl 16) 4 ≤ a) : ∃ b, nt_R M (pl 23) a.toNatClampNeg = some b ∧ 66 ≤ b ∧ xs_S M pl b (b + 1) (nt_l M (b + 1)) ∧ a.toInt = (a.toNatClampNeg : Nat) ∧ zRQ pl (b + 1) (nt_l M (b + 1)) a.toNatClampNeg (nt_I M) (nt_I M) := by
  have v2 := ly_vI hB
  have b2 := (ly_ob hB (2, 0, 6) (List.mem_of_getElem? (i := 2) rfl))
  dsimp only at b2
  have h0' : ¬ a.toInt < 0 := fun h => h0 (z_i0.mpr h)
  have h1' : ¬ (nt_I M (pl 16) 4).toInt ≤ a.toInt := fun h => h1 (Int32.le_iff_toInt_le.mpr h)
  have ea : a.toInt = (a.toNatClampNeg : Nat) := z_tn (by omega)
  have hS0 := hS
  obtain ⟨_, _, T, _, hT⟩ := hS
  obtain ⟨b, c1, c2, c3, _, _, c4⟩ := hT a.toNatClampNeg (by omega)
  have hs : nt_n M ≤ nt_sp := hB.2.1.1
  refine ⟨b, c1, c2, ⟨c4.2, fun i hi e => ?_, by omega, rfl⟩, ea, (hZ.2.2 _ b (by omega) c1).2⟩
  have := hS0.1.1 i hi
  omega
theorem zz_days2 {X : nt_X} {pl : Nat → Nat} {v mk xi : Nat → Int} {M M1 M2 : nt_M} {y1 y2 a b : Int32} (hB : ly_B pl v M) (hS : ly_S pl mk xi (v 2) M) (hE : nt_I M (pl 16) 4 = nt_I M (pl 0) 2) (hB1 : ly_B pl v M1) (f1 : ly_fr 66 pl M M1) (f2 : ly_fr 66 pl M1 M2) (e1 : nt_ev X 99 110 [.ref (pl 16), .int a, .int b] M (some (.int y1), M1)) (e2 : nt_ev X 99 186 [.ref (pl 0), .int a, .int b] M1 (some (.int y2), M2)) (hZ : zz_E pl M) : y1 = y2 ∧ zz_E pl M2 := by
  have ne := zz_ne hB
  have hZ0 := hZ
  obtain ⟨⟨hR, hW, hd, hz⟩, hI⟩ := hZ
  have h0 : 0 ≤ (nt_I M (pl 0) 2).toInt := ((hB.2.1.2 0 _ (show ly_E.2.1[0]? = some (11, 0, 0, 9) from rfl)).2.2.2.2 2).1
  have c2 := xt186 (p := pl) (J := nt_I M1) (L := nt_J M1) (zz_P hB1) (zz_W hB1) e2
  obtain ⟨y2e, M2e⟩ := lq_out c2
  have i2 : nt_I M2 = (x186 pl a b (nt_I M1) (nt_J M1)).2.1 := by rw [M2e]; rfl
  have fin : ∀ (sp : Nat) (rc : Int32 × (Nat → Nat → Int32) × (Nat → Nat → Int64)), y1 = rc.1 → nt_I M1 = rc.2.1 → (nt_I M1 (pl 32) = nt_I M (pl 32)) → zqD pl sp (nt_I M) (nt_I M1) rc (x186 pl a b (nt_I M1) (nt_J M1)) → y1 = y2 ∧ zz_E pl M2 := by
    intro sp rc ey i1 e32 hq
    obtain ⟨k1, k2, k3, k4, k5⟩ := hq
    rw [← i1, ← i2] at k2
    rw [← i2] at k3 k4
    rw [← i1, ← i2] at k5
    have r2 : ∀ g, g < 66 → g ≠ 0 → g ≠ 4 → nt_I M2 (pl g) = nt_I M1 (pl g) := fun g hg z0 z4 => k5.r _ (ne g 0 hg (by omega) z0) (ne g 4 hg (by omega) z4)
    have r1 : ∀ g, g < 31 → g ≠ 25 → nt_I M1 (pl g) = nt_I M (pl g) := fun g hg z => k5.c _ (ne g 25 (by omega) (by omega) z) (fun i hi => ne g (31 + i) (by omega) (by omega) (by omega))
    have R2 : zR (fun i => pl (31 + i)) (nt_I M2) (nt_I M2 (pl 4)) := zR_aj (fun i hi => r2 (31 + i) (by omega) (by omega) (by omega)) k2
    refine ⟨by rw [ey, y2e]; exact k1, ⟨R2, k3, k4, ?_⟩, zz_Ifr hS (ly_fr_tr f1 f2) (zz_5 (fun g q1 q2 q3 q4 q5 => (r2 g (by omega) q2 q3).trans (r1 g (by omega) q5))) hI⟩
    intro c
    have e0 : nt_I M2 (pl 4) 0 = nt_I M (pl 4) 0 := by
      have z1 := zR_n R2 (i := 0) (by omega)
      have z2 := zR_n hR (i := 0) (by omega)
      have z1 : nt_I M2 (pl 32) 0 = nt_I M2 (pl 4) 0 := z1
      have z2 : nt_I M (pl 32) 0 = nt_I M (pl 4) 0 := z2
      rw [← z1, r2 32 (by omega) (by decide) (by decide), e32, z2]
    have c0 := c
    rw [e0] at c0
    have hm : x187 pl a (nt_I M1) = 0 := by
      unfold x187 x188
      rw [r1 4 (by omega) (by decide), c0, if_pos (show (0 : Int32) ≤ 0 from by decide)]
      rfl
    have u : (x186 pl a b (nt_I M1) (nt_J M1)).2.1 = nt_I M1 := by
      unfold x186
      rw [if_pos hm]
    rw [i2, u, r1 4 (by omega) (by decide)]
    exact hz c0
  by_cases hn : a < 0
  · have c1 := xt110N (p := pl) (J := nt_I M) (zz_P hB) (zz_Qn hB) hn e1
    obtain ⟨y1e, M1e⟩ := lq_out c1
    have i1 : nt_I M1 = (x110N pl a b (nt_I M)).2 := by rw [M1e]; rfl
    have e4 : nt_I M1 (pl 4) = nt_I M (pl 4) := by rw [i1]; exact x110N_frJ (ne 4 31 (by omega) (by omega) (by decide)) (ne 4 41 (by omega) (by omega) (by decide)) (ne 4 42 (by omega) (by omega) (by decide)) (ne 4 43 (by omega) (by omega) (by decide)) (ne 4 44 (by omega) (by omega) (by decide)) (ne 4 46 (by omega) (by omega) (by decide)) (ne 4 47 (by omega) (by omega) (by decide))
    have e0 : nt_I M1 (pl 0) = nt_I M (pl 0) := by rw [i1]; exact x110N_frJ (ne 0 31 (by omega) (by omega) (by decide)) (ne 0 41 (by omega) (by omega) (by decide)) (ne 0 42 (by omega) (by omega) (by decide)) (ne 0 43 (by omega) (by omega) (by decide)) (ne 0 44 (by omega) (by omega) (by decide)) (ne 0 46 (by omega) (by omega) (by decide)) (ne 0 47 (by omega) (by omega) (by decide))
    exact fin 0 ((x110N pl a b (nt_I M)).1, (x110N pl a b (nt_I M)).2, nt_J M) y1e i1 (by rw [i1]; exact x110N_frJ (ne 32 31 (by omega) (by omega) (by decide)) (ne 32 41 (by omega) (by omega) (by decide)) (ne 32 42 (by omega) (by omega) (by decide)) (ne 32 43 (by omega) (by omega) (by decide)) (ne 32 44 (by omega) (by omega) (by decide)) (ne 32 46 (by omega) (by omega) (by decide)) (ne 32 47 (by omega) (by omega) (by decide))) (zq_110N hn (zz_X hB) (by rw [e4]; exact hR) (by rw [e4]; exact hW) (by rw [e4]; exact hd) (by rw [e0]; exact hE) (by rw [e0]; exact h0))
  · by_cases h1 : nt_I M (pl 16) 4 ≤ a
    · have hx : x111 pl a (nt_I M) = Int32.ofInt 0 := by
        unfold x111
        rw [if_pos h1]
        split <;> rfl
      have c1 := xt110H (p := pl) (J := nt_I M) (zz_P hB) (zz_Qn hB) hx e1
      obtain ⟨y1e, M1e⟩ := lq_out c1
      have M1e : M1 = M := M1e
      have hm : x187 pl a (nt_I M1) = 0 := by
        have may := zmay (q := fun i => pl (31 + i)) (v1 := a) hR hW.w hE h0
        rw [M1e]
        exact Classical.byContradiction fun c => (may.mpr c).2 hx
      have u : x186 pl a b (nt_I M1) (nt_J M1) = (Int32.ofInt (-1), nt_I M1, nt_J M1) := by
        unfold x186
        rw [if_pos hm]
      have y1m : y1 = Int32.ofInt (-1) := by
        rw [y1e]
        unfold x110H
        split <;> rfl
      rw [u] at M2e y2e
      have M2e : M2 = M1 := M2e
      refine ⟨by rw [y1m, y2e], ?_⟩
      rw [M2e, M1e]
      exact hZ0
    · obtain ⟨rb, q1, q2, q3, q4, q5⟩ := zz_rule hB hS hZ0 hn h1
      have c1 := xt110 (p := pl) (J := nt_I M) (L := nt_J M) (zz_P hB) (zz_Qn hB) q3 hn q1 h1 e1
      obtain ⟨y1e, M1e⟩ := lq_out c1
      have i1 : nt_I M1 = (x110 pl (rb + 1) (nt_l M (rb + 1)) a b (nt_I M) (nt_J M)).2.1 := by rw [M1e]; rfl
      have e4 : nt_I M1 (pl 4) = nt_I M (pl 4) := by rw [i1]; exact x110_frJ (ne 4 25 (by omega) (by omega) (by decide)) (ne 4 31 (by omega) (by omega) (by decide)) (ne 4 41 (by omega) (by omega) (by decide)) (ne 4 42 (by omega) (by omega) (by decide)) (ne 4 43 (by omega) (by omega) (by decide)) (ne 4 44 (by omega) (by omega) (by decide)) (ne 4 45 (by omega) (by omega) (by decide)) (ne 4 46 (by omega) (by omega) (by decide)) (ne 4 47 (by omega) (by omega) (by decide))
      have e0 : nt_I M1 (pl 0) = nt_I M (pl 0) := by rw [i1]; exact x110_frJ (ne 0 25 (by omega) (by omega) (by decide)) (ne 0 31 (by omega) (by omega) (by decide)) (ne 0 41 (by omega) (by omega) (by decide)) (ne 0 42 (by omega) (by omega) (by decide)) (ne 0 43 (by omega) (by omega) (by decide)) (ne 0 44 (by omega) (by omega) (by decide)) (ne 0 45 (by omega) (by omega) (by decide)) (ne 0 46 (by omega) (by omega) (by decide)) (ne 0 47 (by omega) (by omega) (by decide))
      have s1 : nt_I M1 (pl 1) = nt_I M (pl 1) := by rw [i1]; exact x110_frJ (ne 1 25 (by omega) (by omega) (by decide)) (ne 1 31 (by omega) (by omega) (by decide)) (ne 1 41 (by omega) (by omega) (by decide)) (ne 1 42 (by omega) (by omega) (by decide)) (ne 1 43 (by omega) (by omega) (by decide)) (ne 1 44 (by omega) (by omega) (by decide)) (ne 1 45 (by omega) (by omega) (by decide)) (ne 1 46 (by omega) (by omega) (by decide)) (ne 1 47 (by omega) (by omega) (by decide))
      have s2 : nt_I M1 (pl 2) = nt_I M (pl 2) := by rw [i1]; exact x110_frJ (ne 2 25 (by omega) (by omega) (by decide)) (ne 2 31 (by omega) (by omega) (by decide)) (ne 2 41 (by omega) (by omega) (by decide)) (ne 2 42 (by omega) (by omega) (by decide)) (ne 2 43 (by omega) (by omega) (by decide)) (ne 2 44 (by omega) (by omega) (by decide)) (ne 2 45 (by omega) (by omega) (by decide)) (ne 2 46 (by omega) (by omega) (by decide)) (ne 2 47 (by omega) (by omega) (by decide))
      have s3 : nt_I M1 (pl 3) = nt_I M (pl 3) := by rw [i1]; exact x110_frJ (ne 3 25 (by omega) (by omega) (by decide)) (ne 3 31 (by omega) (by omega) (by decide)) (ne 3 41 (by omega) (by omega) (by decide)) (ne 3 42 (by omega) (by omega) (by decide)) (ne 3 43 (by omega) (by omega) (by decide)) (ne 3 44 (by omega) (by omega) (by decide)) (ne 3 45 (by omega) (by omega) (by decide)) (ne 3 46 (by omega) (by omega) (by decide)) (ne 3 47 (by omega) (by omega) (by decide))
      exact fin (rb + 1) _ y1e i1 (by rw [i1]; exact x110_frJ (ne 32 25 (by omega) (by omega) (by decide)) (ne 32 31 (by omega) (by omega) (by decide)) (ne 32 41 (by omega) (by omega) (by decide)) (ne 32 42 (by omega) (by omega) (by decide)) (ne 32 43 (by omega) (by omega) (by decide)) (ne 32 44 (by omega) (by omega) (by decide)) (ne 32 45 (by omega) (by omega) (by decide)) (ne 32 46 (by omega) (by omega) (by decide)) (ne 32 47 (by omega) (by omega) (by decide))) (zq_110 (fun i hi => q3.2.1 (31 + i) (by omega)) q4 (zRQ_ag q5 rfl s1 s2 s3) (zz_X hB) (by rw [e4]; exact hR) (by rw [e4]; exact hW) (by rw [e4]; exact hd) (by rw [e0]; exact hE) (by rw [e0]; exact h0))
/-- what is kept is put back -/
theorem zb_226 {p : Nat → Nat} {v1 v2 v3 : Int32} {J : Nat → Nat → Int32} {L : Nat → Nat → Int64} (hp : zpd p) {j : Nat} (hj : j < 212) : (x226 p v1 v2 v3 J L).2.1 (p 4) j = J (p 4) j := by
  have n47 : p 4 ≠ p 7 := hp 4 7 (by omega) (by omega) (by omega)
  have n74 : p 7 ≠ p 4 := hp 7 4 (by omega) (by omega) (by omega)
  have n70 : p 7 ≠ p 0 := hp 7 0 (by omega) (by omega) (by omega)
  unfold x226
  split
  · rfl
  · split
    · rfl
    · split
      · rfl
      · rw [← zkp (J := J) n47 hj]
        refine x226_41_rule (I := fun _ _ J1 _ => J1 (p 7) = x227 p J (p 7)) (Q := fun r => r.2.1 (p 4) j = x227 p J (p 7) j) ?_ ?_ _ _ _ _ rfl
        · intro v4 J1 L1 h
          have fin : ∀ y : Int32, ((y, x229 p J1, L1) : Int32 × (Nat → Nat → Int32) × (Nat → Nat → Int64)).2.1 (p 4) j = x227 p J (p 7) j := fun y => by
            dsimp only
            rw [(zpb n74).1 j hj, h]
          split
          · exact fin _
          · split
            · exact fin _
            · exact fin _
        · intro c v4 J1 L1 h
          have fin : ∀ y : Int32, ((y, x229 p J1, L1) : Int32 × (Nat → Nat → Int32) × (Nat → Nat → Int64)).2.1 (p 4) j = x227 p J (p 7) j := fun y => by
            dsimp only
            rw [(zpb n74).1 j hj, h]
          split
          · split
            · exact fin _
            · split
              · exact fin _
              · exact fin _
          · rw [x190_frJ n70 n74]
            exact h
theorem zb_231 {p : Nat → Nat} {v1 v2 v3 v4 v5 : Int32} {J : Nat → Nat → Int32} {L : Nat → Nat → Int64} (hp : zpd p) {j : Nat} (hj : j < 212) : (x231 p v1 v2 v3 v4 v5 J L).2.1 (p 4) j = J (p 4) j := by
  have n47 : p 4 ≠ p 7 := hp 4 7 (by omega) (by omega) (by omega)
  have n74 : p 7 ≠ p 4 := hp 7 4 (by omega) (by omega) (by omega)
  have n70 : p 7 ≠ p 0 := hp 7 0 (by omega) (by omega) (by omega)
  unfold x231
  split
  · rfl
  · split
    · rfl
    · split
      · rfl
      · split
        · rfl
        · split
          · rfl
          · refine x231_78_rule (I := fun _ _ _ _ J1 _ => J1 (p 7) = x227 p J (p 7) ∧ J1 (p 4) j = J (p 4) j) (Q := fun r => r.2.1 (p 4) j = J (p 4) j) ?_ ?_ _ _ _ _ _ _ ⟨rfl, by rw [x227_frJ n47]⟩
            · intro v6 v8 v9 J1 L1 h
              exact h.2
            · intro c v6 v8 v9 J1 L1 h
              have st : ∀ J2 : Nat → Nat → Int32, J2 (p 7) = J1 (p 7) → x229 p J2 (p 7) = x227 p J (p 7) ∧ x229 p J2 (p 4) j = J (p 4) j := fun J2 e => by
                refine ⟨by rw [x229_frJ n74, e, h.1], ?_⟩
                rw [(zpb n74).1 j hj, e, h.1, zkp n47 hj]
              split
              · exact h.2
              · split
                · exact st _ (x231_87_frJ _ _ _ _ _ n70 n74)
                · exact st _ (x231_87_frJ _ _ _ _ _ n70 n74)
theorem zz_aheadK {X : nt_X} {pl : Nat → Nat} {v mk xi : Nat → Int} {M M1 M2 : nt_M} {y1 y2 a b c : Int32} (hB : ly_B pl v M) (hS : ly_S pl mk xi (v 2) M) (hB1 : ly_B pl v M1) (f1 : ly_fr 66 pl M M1) (f2 : ly_fr 66 pl M1 M2) (e1 : nt_ev X 99 123 [.ref (pl 16), .int a, .int b, .int c] M (some (.int y1), M1)) (e2 : nt_ev X 99 226 [.ref (pl 0), .int a, .int b, .int c] M1 (some (.int y2), M2)) (hZ : zz_E pl M) : zz_E pl M2 := by
  have ne := zz_ne hB
  have c2 := xt226 (p := pl) (J := nt_I M1) (L := nt_J M1) (zz_P hB1) (zz_W hB1) e2
  have M2e := (lq_out c2).2
  have i2 : nt_I M2 = (x226 pl a b c (nt_I M1) (nt_J M1)).2.1 := by rw [M2e]; rfl
  have r1 : ∀ g, g < 48 → g ≠ 25 → nt_I M1 (pl g) = nt_I M (pl g) := by
    intro g hg z
    by_cases hn : a < 0
    · have c1 := xt123N (p := pl) (J := nt_I M) (zz_P hB) (zz_Qn hB) (zz_Qm hB) (zz_Nm hB) hn e1
      rw [(lq_out c1).2]
      exact x123N_frJ (ne g 48 (by omega) (by omega) (by omega)) (ne g 49 (by omega) (by omega) (by omega)) (ne g 50 (by omega) (by omega) (by omega)) (ne g 51 (by omega) (by omega) (by omega)) (ne g 52 (by omega) (by omega) (by omega)) (ne g 53 (by omega) (by omega) (by omega)) (ne g 54 (by omega) (by omega) (by omega)) (ne g 55 (by omega) (by omega) (by omega)) (ne g 56 (by omega) (by omega) (by omega)) (ne g 57 (by omega) (by omega) (by omega)) (ne g 58 (by omega) (by omega) (by omega)) (ne g 59 (by omega) (by omega) (by omega)) (ne g 60 (by omega) (by omega) (by omega)) (ne g 61 (by omega) (by omega) (by omega)) (ne g 62 (by omega) (by omega) (by omega)) (ne g 63 (by omega) (by omega) (by omega)) (ne g 64 (by omega) (by omega) (by omega))
    · by_cases h1 : nt_I M (pl 16) 4 ≤ a
      · have hx : x111 pl a (nt_I M) = Int32.ofInt 0 := by
          unfold x111
          rw [if_pos h1]
          split <;> rfl
        have c1 := xt123H (p := pl) (J := nt_I M) (zz_P hB) (zz_Qn hB) hx e1
        rw [(lq_out c1).2]
        rfl
      · obtain ⟨rb, q1, q2, q3, q4, q5⟩ := zz_rule hB hS hZ hn h1
        have c1 := xt123 (p := pl) (J := nt_I M) (L := nt_J M) (zz_P hB) (zz_Qn hB) (zz_Qm hB) (zz_Nm hB) q3 hn q1 h1 e1
        rw [(lq_out c1).2]
        exact x123_frJ (ne g 25 (by omega) (by omega) (by omega)) (ne g 48 (by omega) (by omega) (by omega)) (ne g 49 (by omega) (by omega) (by omega)) (ne g 50 (by omega) (by omega) (by omega)) (ne g 51 (by omega) (by omega) (by omega)) (ne g 52 (by omega) (by omega) (by omega)) (ne g 53 (by omega) (by omega) (by omega)) (ne g 54 (by omega) (by omega) (by omega)) (ne g 55 (by omega) (by omega) (by omega)) (ne g 56 (by omega) (by omega) (by omega)) (ne g 57 (by omega) (by omega) (by omega)) (ne g 58 (by omega) (by omega) (by omega)) (ne g 59 (by omega) (by omega) (by omega)) (ne g 60 (by omega) (by omega) (by omega)) (ne g 61 (by omega) (by omega) (by omega)) (ne g 62 (by omega) (by omega) (by omega)) (ne g 63 (by omega) (by omega) (by omega)) (ne g 64 (by omega) (by omega) (by omega))
  have r2 : ∀ g, g < 66 → g ≠ 0 → g ≠ 4 → g ≠ 7 → nt_I M2 (pl g) = nt_I M1 (pl g) := fun g hg z0 z4 z7 => by
    rw [i2]
    exact x226_frJ (ne g 0 hg (by omega) z0) (ne g 4 hg (by omega) z4) (ne g 7 hg (by omega) z7)
  have e4 : ∀ j, j < 212 → nt_I M2 (pl 4) j = nt_I M (pl 4) j := fun j hj => by rw [i2, zb_226 ne hj, r1 4 (by omega) (by decide)]
  exact ⟨zz_Rae e4 (zz_Rag (fun i hi => (r2 (31 + i) (by omega) (by omega) (by omega) (by omega)).trans (r1 (31 + i) (by omega) (by omega))) hZ.1), zz_Ifr hS (ly_fr_tr f1 f2) (zz_5 (fun g q1 q2 q3 q4 q5 => (r2 g (by omega) q2 q3 q4).trans (r1 g (by omega) q5))) hZ.2⟩
theorem zz_yearsK {X : nt_X} {pl : Nat → Nat} {v mk xi : Nat → Int} {M M1 M2 : nt_M} {y1 y2 a b c d e : Int32} (hB : ly_B pl v M) (hS : ly_S pl mk xi (v 2) M) (hB1 : ly_B pl v M1) (f1 : ly_fr 66 pl M M1) (f2 : ly_fr 66 pl M1 M2) (e1 : nt_ev X 99 125 [.ref (pl 16), .int a, .int b, .int c, .int d, .int e] M (some (.int y1), M1)) (e2 : nt_ev X 99 231 [.ref (pl 0), .int a, .int b, .int c, .int d, .int e] M1 (some (.int y2), M2)) (hZ : zz_E pl M) : zz_E pl M2 := by
  have ne := zz_ne hB
  have c2 := xt231 (p := pl) (J := nt_I M1) (L := nt_J M1) (zz_P hB1) (zz_W hB1) e2
  have M2e := (lq_out c2).2
  have i2 : nt_I M2 = (x231 pl a b c d e (nt_I M1) (nt_J M1)).2.1 := by rw [M2e]; rfl
  have r1 : ∀ g, g < 48 → g ≠ 25 → nt_I M1 (pl g) = nt_I M (pl g) := by
    intro g hg z
    by_cases hn : a < 0
    · have c1 := xt125N (p := pl) (J := nt_I M) (zz_P hB) (zz_Qn hB) (zz_Qm hB) (zz_Nm hB) hn e1
      rw [(lq_out c1).2]
      exact x125N_frJ (ne g 48 (by omega) (by omega) (by omega)) (ne g 49 (by omega) (by omega) (by omega)) (ne g 50 (by omega) (by omega) (by omega)) (ne g 51 (by omega) (by omega) (by omega)) (ne g 52 (by omega) (by omega) (by omega)) (ne g 53 (by omega) (by omega) (by omega)) (ne g 54 (by omega) (by omega) (by omega)) (ne g 55 (by omega) (by omega) (by omega)) (ne g 56 (by omega) (by omega) (by omega)) (ne g 57 (by omega) (by omega) (by omega)) (ne g 58 (by omega) (by omega) (by omega)) (ne g 59 (by omega) (by omega) (by omega)) (ne g 60 (by omega) (by omega) (by omega)) (ne g 61 (by omega) (by omega) (by omega)) (ne g 62 (by omega) (by omega) (by omega)) (ne g 63 (by omega) (by omega) (by omega)) (ne g 64 (by omega) (by omega) (by omega))
    · by_cases h1 : nt_I M (pl 16) 4 ≤ a
      · have hx : x111 pl a (nt_I M) = Int32.ofInt 0 := by
          unfold x111
          rw [if_pos h1]
          split <;> rfl
        have c1 := xt125H (p := pl) (J := nt_I M) (zz_P hB) (zz_Qn hB) hx e1
        rw [(lq_out c1).2]
        rfl
      · obtain ⟨rb, q1, q2, q3, q4, q5⟩ := zz_rule hB hS hZ hn h1
        have c1 := xt125 (p := pl) (J := nt_I M) (L := nt_J M) (zz_P hB) (zz_Qn hB) (zz_Qm hB) (zz_Nm hB) q3 hn q1 h1 e1
        rw [(lq_out c1).2]
        exact x125_frJ (ne g 25 (by omega) (by omega) (by omega)) (ne g 48 (by omega) (by omega) (by omega)) (ne g 49 (by omega) (by omega) (by omega)) (ne g 50 (by omega) (by omega) (by omega)) (ne g 51 (by omega) (by omega) (by omega)) (ne g 52 (by omega) (by omega) (by omega)) (ne g 53 (by omega) (by omega) (by omega)) (ne g 54 (by omega) (by omega) (by omega)) (ne g 55 (by omega) (by omega) (by omega)) (ne g 56 (by omega) (by omega) (by omega)) (ne g 57 (by omega) (by omega) (by omega)) (ne g 58 (by omega) (by omega) (by omega)) (ne g 59 (by omega) (by omega) (by omega)) (ne g 60 (by omega) (by omega) (by omega)) (ne g 61 (by omega) (by omega) (by omega)) (ne g 62 (by omega) (by omega) (by omega)) (ne g 63 (by omega) (by omega) (by omega)) (ne g 64 (by omega) (by omega) (by omega))
  have r2 : ∀ g, g < 66 → g ≠ 0 → g ≠ 4 → g ≠ 7 → nt_I M2 (pl g) = nt_I M1 (pl g) := fun g hg z0 z4 z7 => by
    rw [i2]
    exact x231_frJ (ne g 0 hg (by omega) z0) (ne g 4 hg (by omega) z4) (ne g 7 hg (by omega) z7)
  have e4 : ∀ j, j < 212 → nt_I M2 (pl 4) j = nt_I M (pl 4) j := fun j hj => by rw [i2, zb_231 ne hj, r1 4 (by omega) (by decide)]
  exact ⟨zz_Rae e4 (zz_Rag (fun i hi => (r2 (31 + i) (by omega) (by omega) (by omega) (by omega)).trans (r1 (31 + i) (by omega) (by omega))) hZ.1), zz_Ifr hS (ly_fr_tr f1 f2) (zz_5 (fun g q1 q2 q3 q4 q5 => (r2 g (by omega) q2 q3 q4).trans (r1 g (by omega) q5))) hZ.2⟩
end
section
/-! images: both sides -/
theorem xr127 {X : nt_X} {d a k : Nat} {M : nt_M} {o : Option Value × nt_M} {p : Nat → Nat} {J : Nat → Nat → Int32} (hp : xs_P M p) (hq : xs_Q M (fun i => a + i)) (hr : xs_Q M (fun i => p (31 + i))) (hd : ∀ i j, i < 17 → j < 17 → a + i ≠ p (31 + j)) (hl : xs_N M (fun i => a + i)) (hk : k < 4) (hR : nt_R M (p 65) k = some a) (kk : nt_ev X d 127 [.ref (p 16), .int (nI k)] (me_w M J) o) : o = (some (.int (J (p 31) 2)), me_w M (x80 (fun i => a + i) (fun i => p (31 + i)) J)) := by
  have k1 : nt_rn X d 127 (0, [(0, .ref (p 16)), (1, .int (nI k))], [], me_w M J) o := kk
  have k1 := ly_revb 2 (c' := (if nI k < 0 then 9 else 4, [(0, .ref (p 16)), (1, .int (nI k))], [], me_w M J)) rfl k1
  rw [if_neg (nI_pos (by omega))] at k1
  have k1 := ly_revb 3 (c' := (if nI k < Int32.ofInt 4 then 11 else 9, [(0, .ref (p 16)), (1, .int (nI k))], [], me_w M J)) rfl k1
  rw [if_pos (show nI k < Int32.ofInt 4 from nI_lt (b := 4) hk (by omega))] at k1
  have k1 := ly_revb 1 (c' := (12, [(0, .ref (p 16)), (1, .int (nI k))], [.ref (p 16)], me_w M J)) rfl k1
  have k1 := lz_get (a := (p 16)) (g := 1009) (M := me_w M J) (v := .ref (p 65)) rfl (nt_gfR rfl (hp.1 (16, 9, 65) (by decide))) k1
  have k1 := ly_revb 1 (c' := (16, [(0, .ref (p 16)), (1, .int (nI k))], [.int (nI k), .ref (p 65)], me_w M J)) rfl k1
  have k1 := mx_aald rfl k1
  rw [show nt_R (me_w M J) (p 65) (nI k).toNatClampNeg = some a from by rw [nI_clamp (by omega)]; exact hR] at k1
  have k1 := ly_revb 1 (c' := (33, [(0, .ref (p 16)), (1, .int (nI k))], [], me_w M J)) rfl k1
  have k1 := ly_revb 1 (c' := (34, [(0, .ref (p 16)), (1, .int (nI k))], [.ref (p 16)], me_w M J)) rfl k1
  have k1 := lz_get (a := (p 16)) (g := 1009) (M := me_w M J) (v := .ref (p 65)) rfl (nt_gfR rfl (hp.1 (16, 9, 65) (by decide))) k1
  have k1 := ly_revb 1 (c' := (38, [(0, .ref (p 16)), (1, .int (nI k))], [.int (nI k), .ref (p 65)], me_w M J)) rfl k1
  have k1 := mx_aald rfl k1
  rw [show nt_R (me_w M J) (p 65) (nI k).toNatClampNeg = some a from by rw [nI_clamp (by omega)]; exact hR] at k1
  have k1 := ly_revb 1 (c' := (40, [(0, .ref (p 16)), (1, .int (nI k))], [.ref (p 16), .ref a], me_w M J)) rfl k1
  have k1 := lz_get (a := (p 16)) (g := 1007) (M := me_w M J) (v := .ref (p 31)) rfl (nt_gfR rfl (hp.1 (16, 7, 31) (by decide))) k1
  obtain ⟨d1, o1, ed, kc, k1⟩ := lz_c (g := 80) (q := 1) (vs := [.ref a, .ref (p 31)]) (rest := []) rfl rfl (by decide) (Or.inr (Or.inl ⟨_, rfl, rfl⟩)) rfl k1
  have e1 := xt80 (q := fun i => a + i) (r := fun i => p (31 + i)) hq hr hd hl kc
  subst e1
  have k1 : nt_rn X _ 127 (46, [(0, .ref (p 16)), (1, .int (nI k))], [], me_w M (x80 (fun i => a + i) (fun i => p (31 + i)) J)) _ := k1
  have k1 := ly_revb 1 (c' := (47, [(0, .ref (p 16)), (1, .int (nI k))], [.ref (p 16)], me_w M (x80 (fun i => a + i) (fun i => p (31 + i)) J))) rfl k1
  have k1 := lz_get (a := (p 16)) (g := 1007) (M := me_w M (x80 (fun i => a + i) (fun i => p (31 + i)) J)) (v := .ref (p 31)) rfl (nt_gfR rfl (hp.1 (16, 7, 31) (by decide))) k1
  have k1 := lz_get (a := (p 31)) (g := 602) (M := me_w M (x80 (fun i => a + i) (fun i => p (31 + i)) J)) (v := .int (J (p 31) 2)) rfl (congrArg Value.int (congrFun (x80_frJ (Ne.symm (hd 0 0 (by omega) (by omega))) (Ne.symm (hd 1 0 (by omega) (by omega))) (Ne.symm (hd 2 0 (by omega) (by omega))) (Ne.symm (hd 3 0 (by omega) (by omega))) (Ne.symm (hd 4 0 (by omega) (by omega))) (Ne.symm (hd 5 0 (by omega) (by omega))) (Ne.symm (hd 6 0 (by omega) (by omega))) (Ne.symm (hd 7 0 (by omega) (by omega))) (Ne.symm (hd 8 0 (by omega) (by omega))) (Ne.symm (hd 9 0 (by omega) (by omega))) (Ne.symm (hd 10 0 (by omega) (by omega))) (Ne.symm (hd 11 0 (by omega) (by omega))) (Ne.symm (hd 12 0 (by omega) (by omega))) (Ne.symm (hd 13 0 (by omega) (by omega))) (Ne.symm (hd 14 0 (by omega) (by omega))) (Ne.symm (hd 15 0 (by omega) (by omega))) (Ne.symm (hd 16 0 (by omega) (by omega)))) 2)) k1
  exact lz_ri rfl (by decide) k1
theorem xr128 {X : nt_X} {d a k : Nat} {M : nt_M} {o : Option Value × nt_M} {p : Nat → Nat} {J : Nat → Nat → Int32} (hp : xs_P M p) (hq : xs_Q M (fun i => p (31 + i))) (hr : xs_Q M (fun i => a + i)) (hd : ∀ i j, i < 17 → j < 17 → p (31 + i) ≠ a + j) (hl : xs_N M (fun i => p (31 + i))) (hk : k < 4) (hR : nt_R M (p 65) k = some a) (kk : nt_ev X d 128 [.ref (p 16), .int (nI k)] (me_w M J) o) : o = (some (.int (x80 (fun i => p (31 + i)) (fun i => a + i) J (p 31) 2)), me_w M (x80 (fun i => p (31 + i)) (fun i => a + i) J)) := by
  have k1 : nt_rn X d 128 (0, [(0, .ref (p 16)), (1, .int (nI k))], [], me_w M J) o := kk
  have k1 := ly_revb 2 (c' := (if nI k < 0 then 18 else 4, [(0, .ref (p 16)), (1, .int (nI k))], [], me_w M J)) rfl k1
  rw [if_neg (nI_pos (by omega))] at k1
  have k1 := ly_revb 3 (c' := (if Int32.ofInt 4 ≤ nI k then 18 else 9, [(0, .ref (p 16)), (1, .int (nI k))], [], me_w M J)) rfl k1
  rw [if_neg (show ¬ Int32.ofInt 4 ≤ nI k from nI_ge (b := 4) hk (by omega))] at k1
  have k1 := ly_revb 1 (c' := (10, [(0, .ref (p 16)), (1, .int (nI k))], [.ref (p 16)], me_w M J)) rfl k1
  have k1 := lz_get (a := (p 16)) (g := 1009) (M := me_w M J) (v := .ref (p 65)) rfl (nt_gfR rfl (hp.1 (16, 9, 65) (by decide))) k1
  have k1 := ly_revb 1 (c' := (14, [(0, .ref (p 16)), (1, .int (nI k))], [.int (nI k), .ref (p 65)], me_w M J)) rfl k1
  have k1 := mx_aald rfl k1
  rw [show nt_R (me_w M J) (p 65) (nI k).toNatClampNeg = some a from by rw [nI_clamp (by omega)]; exact hR] at k1
  have k1 := ly_revb 1 (c' := (20, [(0, .ref (p 16)), (1, .int (nI k))], [], me_w M J)) rfl k1
  have k1 := ly_revb 1 (c' := (21, [(0, .ref (p 16)), (1, .int (nI k))], [.ref (p 16)], me_w M J)) rfl k1
  have k1 := lz_get (a := (p 16)) (g := 1007) (M := me_w M J) (v := .ref (p 31)) rfl (nt_gfR rfl (hp.1 (16, 7, 31) (by decide))) k1
  have k1 := ly_revb 1 (c' := (25, [(0, .ref (p 16)), (1, .int (nI k))], [.ref (p 16), .ref (p 31)], me_w M J)) rfl k1
  have k1 := lz_get (a := (p 16)) (g := 1009) (M := me_w M J) (v := .ref (p 65)) rfl (nt_gfR rfl (hp.1 (16, 9, 65) (by decide))) k1
  have k1 := ly_revb 1 (c' := (29, [(0, .ref (p 16)), (1, .int (nI k))], [.int (nI k), .ref (p 65), .ref (p 31)], me_w M J)) rfl k1
  have k1 := mx_aald rfl k1
  rw [show nt_R (me_w M J) (p 65) (nI k).toNatClampNeg = some a from by rw [nI_clamp (by omega)]; exact hR] at k1
  have k1 : nt_rn X d 128 (30, [(0, .ref (p 16)), (1, .int (nI k))], [.ref a, .ref (p 31)], me_w M J) o := k1
  obtain ⟨d1, o1, ed, kc, k1⟩ := lz_c (g := 80) (q := 1) (vs := [.ref (p 31), .ref a]) (rest := []) rfl rfl (by decide) (Or.inr (Or.inl ⟨_, rfl, rfl⟩)) rfl k1
  have e1 := xt80 (q := fun i => p (31 + i)) (r := fun i => a + i) hq hr hd hl kc
  subst e1
  have k1 : nt_rn X _ 128 (33, [(0, .ref (p 16)), (1, .int (nI k))], [], me_w M (x80 (fun i => p (31 + i)) (fun i => a + i) J)) _ := k1
  have k1 := ly_revb 1 (c' := (34, [(0, .ref (p 16)), (1, .int (nI k))], [.ref (p 16)], me_w M (x80 (fun i => p (31 + i)) (fun i => a + i) J))) rfl k1
  have k1 := lz_get (a := (p 16)) (g := 1007) (M := me_w M (x80 (fun i => p (31 + i)) (fun i => a + i) J)) (v := .ref (p 31)) rfl (nt_gfR rfl (hp.1 (16, 7, 31) (by decide))) k1
  have k1 := lz_get (a := (p 31)) (g := 602) (M := me_w M (x80 (fun i => p (31 + i)) (fun i => a + i) J)) (v := .int (x80 (fun i => p (31 + i)) (fun i => a + i) J (p 31) 2)) rfl rfl k1
  exact lz_ri rfl (by decide) k1
theorem xr128N {X : nt_X} {d k : Nat} {M : nt_M} {o : Option Value × nt_M} {p : Nat → Nat} {J : Nat → Nat → Int32} (hp : xs_P M p) (hk : k < 4) (hR : nt_R M (p 65) k = none) (kk : nt_ev X d 128 [.ref (p 16), .int (nI k)] (me_w M J) o) : o = (some (.int (Int32.ofInt (-1))), me_w M J) := by
  have k1 : nt_rn X d 128 (0, [(0, .ref (p 16)), (1, .int (nI k))], [], me_w M J) o := kk
  have k1 := ly_revb 2 (c' := (if nI k < 0 then 18 else 4, [(0, .ref (p 16)), (1, .int (nI k))], [], me_w M J)) rfl k1
  rw [if_neg (nI_pos (by omega))] at k1
  have k1 := ly_revb 3 (c' := (if Int32.ofInt 4 ≤ nI k then 18 else 9, [(0, .ref (p 16)), (1, .int (nI k))], [], me_w M J)) rfl k1
  rw [if_neg (show ¬ Int32.ofInt 4 ≤ nI k from nI_ge (b := 4) hk (by omega))] at k1
  have k1 := ly_revb 1 (c' := (10, [(0, .ref (p 16)), (1, .int (nI k))], [.ref (p 16)], me_w M J)) rfl k1
  have k1 := lz_get (a := (p 16)) (g := 1009) (M := me_w M J) (v := .ref (p 65)) rfl (nt_gfR rfl (hp.1 (16, 9, 65) (by decide))) k1
  have k1 := ly_revb 1 (c' := (14, [(0, .ref (p 16)), (1, .int (nI k))], [.int (nI k), .ref (p 65)], me_w M J)) rfl k1
  have k1 := mx_aald rfl k1
  rw [show nt_R (me_w M J) (p 65) (nI k).toNatClampNeg = none from by rw [nI_clamp (by omega)]; exact hR] at k1
  have k1 := ly_revb 2 (c' := (19, [(0, .ref (p 16)), (1, .int (nI k))], [.int (Int32.ofInt (-1))], me_w M J)) rfl k1
  exact lz_ri rfl (by decide) k1
/-- the other side's rows -/
theorem zi_ix {k : Nat} {i : Int32} (hk : k < 4) (h0 : 0 ≤ i.toInt) (h1 : i.toInt < 212) : ((Int32.ofInt 212 * nI k) + i).toNatClampNeg = 212 * k + i.toNatClampNeg := by
  have a : (nI k).toInt = k := nI_toInt (by omega)
  have c : (Int32.ofInt 212).toInt = 212 := by decide
  have m : (Int32.ofInt 212 * nI k).toInt = 212 * k := by rw [Int32.toInt_mul, a, c, Int.bmod_eq_of_le (by omega) (by omega)]
  have s : (Int32.ofInt 212 * nI k + i).toInt = 212 * k + i.toInt := by rw [Int32.toInt_add, m, Int.bmod_eq_of_le (by omega) (by omega)]
  rw [zn_t, zn_t, s]
  omega
theorem zim_l {p : Nat → Nat} {k : Nat} (hk : k < 4) (hn : p 4 ≠ p 14) : ∀ (c : Nat) (i : Int32) (J : Nat → Nat → Int32), 0 ≤ i.toInt → 212 - i.toInt ≤ c → (x234_23 p (nI k) c i J).1 = J (p 4) 4 ∧ (∀ j, i.toNatClampNeg ≤ j → j < 212 → (x234_23 p (nI k) c i J).2 (p 14) (212 * k + j) = J (p 4) j) ∧ (∀ j, j < 212 * k + i.toNatClampNeg ∨ 212 * k + 212 ≤ j → (x234_23 p (nI k) c i J).2 (p 14) j = J (p 14) j) := by
  intro c
  induction c with
  | zero =>
    intro i J h hc
    have t := z_tn h
    exact ⟨rfl, fun j a b => by omega, fun j a => rfl⟩
  | succ c ih =>
    intro i J h hc
    have t := z_tn h
    rw [x234_23]
    by_cases h1 : Int32.ofInt 212 ≤ i
    · rw [if_pos h1]
      have h1 := z_ge.mp h1
      rw [show (Int32.ofInt 212).toInt = 212 from by decide] at h1
      exact ⟨rfl, fun j a b => by omega, fun j a => rfl⟩
    · rw [if_neg h1]
      have l := z_lt h1
      rw [show (Int32.ofInt 212).toInt = 212 from by decide] at l
      have hc' : (Int32.ofInt 212).toInt - i.toInt ≤ (c + 1 : Nat) := by
        rw [show (Int32.ofInt 212).toInt = 212 from by decide]
        exact hc
      have d := lx_dec h1 hc'
      rw [show (Int32.ofInt 212).toInt = 212 from by decide] at d
      rw [zi_ix hk h l]
      have z := ih (i + Int32.ofInt 1) (nt_u J (p 14) (212 * k + i.toNatClampNeg) (J (p 4) i.toNatClampNeg)) (xi_nn h1 h) d
      have i1 : (i + Int32.ofInt 1).toNatClampNeg = i.toNatClampNeg + 1 := by
        rw [zn_t, zn_t, lx_inc h1]
        omega
      rw [i1, me_uo hn] at z
      refine ⟨z.1, fun j a b => ?_, fun j a => ?_⟩
      · by_cases e : j = i.toNatClampNeg
        · rw [e, z.2.2 _ (by omega), me_us]
        · exact z.2.1 j (by omega) b
      · rw [z.2.2 j (by omega), me_uk (by omega)]
theorem zi_01 {k : Nat} (hk : k < 4) : ¬ x145 (nI k).toInt64 (Int64.ofNat 0) 3 = 0 := by
  have a : (nI k).toInt = k := nI_toInt (by omega)
  rw [z_145, a, if_neg (by rw [show (Int64.ofNat 0).toInt = 0 from by decide, show (3 : Int64).toInt = 3 from by decide]; omega)]
  decide
theorem zimR {p : Nat → Nat} {k : Nat} {J : Nat → Nat → Int32} (hk : k < 4) (hn : p 4 ≠ p 14) (h5 : p 4 ≠ p 15) (h45 : p 14 ≠ p 15) : (x234 p (nI k) J).1 = J (p 4) 4 ∧ (∀ j, j < 212 → (x234 p (nI k) J).2 (p 14) (212 * k + j) = J (p 4) j) ∧ (∀ j, j < 212 * k ∨ 212 * k + 212 ≤ j → (x234 p (nI k) J).2 (p 14) j = J (p 14) j) := by
  unfold x234
  rw [if_neg (zi_01 hk)]
  have z := zim_l hk hn ((Int32.ofInt 212).toNatClampNeg) (Int32.ofInt 0) (nt_u J (p 15) (nI k).toNatClampNeg (vp_nar .boolean (Int32.ofInt 1))) (by decide) (by decide)
  rw [me_uo h5, me_uo h45, show (Int32.ofInt 0).toNatClampNeg = 0 from rfl] at z
  exact ⟨z.1, fun j hj => z.2.1 j (Nat.zero_le _) hj, fun j hj => z.2.2 j hj⟩
theorem zbk_l {p : Nat → Nat} {k : Nat} (hk : k < 4) (hn : p 14 ≠ p 4) : ∀ (c : Nat) (i : Int32) (J : Nat → Nat → Int32), 0 ≤ i.toInt → 212 - i.toInt ≤ c → (x235_25 p (nI k) c i J).1 = (x235_25 p (nI k) c i J).2 (p 4) 4 ∧ (∀ j, i.toNatClampNeg ≤ j → j < 212 → (x235_25 p (nI k) c i J).2 (p 4) j = J (p 14) (212 * k + j)) ∧ (∀ j, j < i.toNatClampNeg ∨ 212 ≤ j → (x235_25 p (nI k) c i J).2 (p 4) j = J (p 4) j) := by
  intro c
  induction c with
  | zero =>
    intro i J h hc
    have t := z_tn h
    exact ⟨rfl, fun j a b => by omega, fun j a => rfl⟩
  | succ c ih =>
    intro i J h hc
    have t := z_tn h
    rw [x235_25]
    by_cases h1 : Int32.ofInt 212 ≤ i
    · rw [if_pos h1]
      have h1 := z_ge.mp h1
      rw [show (Int32.ofInt 212).toInt = 212 from by decide] at h1
      exact ⟨rfl, fun j a b => by omega, fun j a => rfl⟩
    · rw [if_neg h1]
      have l := z_lt h1
      rw [show (Int32.ofInt 212).toInt = 212 from by decide] at l
      have hc' : (Int32.ofInt 212).toInt - i.toInt ≤ (c + 1 : Nat) := by
        rw [show (Int32.ofInt 212).toInt = 212 from by decide]
        exact hc
      have d := lx_dec h1 hc'
      rw [show (Int32.ofInt 212).toInt = 212 from by decide] at d
      rw [zi_ix hk h l]
      have z := ih (i + Int32.ofInt 1) (nt_u J (p 4) i.toNatClampNeg (J (p 14) (212 * k + i.toNatClampNeg))) (xi_nn h1 h) d
      have i1 : (i + Int32.ofInt 1).toNatClampNeg = i.toNatClampNeg + 1 := by
        rw [zn_t, zn_t, lx_inc h1]
        omega
      rw [i1, me_uo hn] at z
      refine ⟨z.1, fun j a b => ?_, fun j a => ?_⟩
      · by_cases e : j = i.toNatClampNeg
        · rw [e, z.2.2 _ (by omega), me_us]
        · exact z.2.1 j (by omega) b
      · rw [z.2.2 j (by omega), me_uk (by omega)]
theorem zbkR {p : Nat → Nat} {k : Nat} {J : Nat → Nat → Int32} (hk : k < 4) (hn : p 14 ≠ p 4) (hm : ¬ J (p 15) k = 0) : (x235 p (nI k) J).1 = J (p 14) (212 * k + 4) ∧ (∀ j, j < 212 → (x235 p (nI k) J).2 (p 4) j = J (p 14) (212 * k + j)) := by
  unfold x235
  rw [if_neg (zi_01 hk), nI_clamp (by omega), if_neg hm]
  have z := zbk_l hk hn ((Int32.ofInt 212).toNatClampNeg) (Int32.ofInt 0) J (by decide) (by decide)
  exact ⟨z.1.trans (z.2.1 4 (by decide) (by omega)), fun j hj => z.2.1 j (Nat.zero_le _) hj⟩
/-- an image is made -/
theorem zz_img2 {X : nt_X} {pl : Nat → Nat} {v mk xi mk1 xi1 : Nat → Int} {rc : Int} {M M1 M2 : nt_M} {y1 y2 : Int32} {k : Nat} (hk : k < 4) (hB : ly_B pl v M) (hS : ly_S pl mk xi rc M) (hI : lq_I X pl v 99 k y1 M M1) (hB1 : ly_B pl v M1) (hS1 : ly_S pl mk1 xi1 (v 2) M1) (f2 : ly_fr 66 pl M1 M2) (e2 : nt_ev X 99 234 [.ref (pl 0), .int (nI k)] M1 (some (.int y2), M2)) (hZ : zz_E pl M) : y1 = y2 ∧ zz_E pl M2 := by
  have ne := zz_ne hB
  obtain ⟨N, a, x, hN, r65, a66, im, eN, same, r65', hJ, j1, j2, j3, j4⟩ := hI
  have p66 := hS.1.1
  have da : ∀ i g, g < 66 → a + i ≠ pl g := fun i g hg e => by have := p66 g hg; omega
  have c1 := xr127 (p := pl) (J := nt_I N) (zz_P hN) (zz_Qi hN.2.1.1 im) (zz_Qn hN) (fun i j _ hj => da i _ (by omega)) (zz_Ni im) hk r65 eN
  obtain ⟨y1e, M1e⟩ := lq_out c1
  have i1 : nt_I M1 = x80 (fun i => a + i) (fun i => pl (31 + i)) (nt_I N) := by rw [M1e]; rfl
  have n1 : nt_n M1 = nt_n N := by rw [M1e]; rfl
  have l1 : nt_l M1 = nt_l N := by rw [M1e]; rfl
  have R1 : ∀ g j, nt_R M1 g j = nt_R N g j := fun g j => by rw [M1e]; rfl
  have fr1 : ∀ b, (∀ i, i < 17 → b ≠ a + i) → nt_I M1 b = nt_I N b := fun b hb => by
    rw [i1]
    exact x80_frJ (hb 0 (by omega)) (hb 1 (by omega)) (hb 2 (by omega)) (hb 3 (by omega)) (hb 4 (by omega)) (hb 5 (by omega)) (hb 6 (by omega)) (hb 7 (by omega)) (hb 8 (by omega)) (hb 9 (by omega)) (hb 10 (by omega)) (hb 11 (by omega)) (hb 12 (by omega)) (hb 13 (by omega)) (hb 14 (by omega)) (hb 15 (by omega)) (hb 16 (by omega))
  have g1 : ∀ g, g < 66 → nt_I M1 (pl g) = nt_I M (pl g) := fun g hg => (fr1 _ (fun i _ => (da i g hg).symm)).trans (funext (fun j => same g j hg))
  have c2 := xt234 (p := pl) (J := nt_I M1) (zz_P hB1) (hB1.2.1.2 15 _ (show ly_E.2.1[15]? = some (15, 4, 4, 0) from rfl)).2.1 e2
  obtain ⟨y2e, M2e⟩ := lq_out c2
  have i2 : nt_I M2 = (x234 pl (nI k) (nt_I M1)).2 := by rw [M2e]; rfl
  have n2 : nt_n M2 = nt_n M1 := by rw [M2e]; rfl
  have l2 : nt_l M2 = nt_l M1 := by rw [M2e]; rfl
  have R2 : ∀ g j, nt_R M2 g j = nt_R M1 g j := fun g j => by rw [M2e]; rfl
  have z := zimR (p := pl) (J := nt_I M1) hk (ne 4 14 (by omega) (by omega) (by decide)) (ne 4 15 (by omega) (by omega) (by decide)) (ne 14 15 (by omega) (by omega) (by decide))
  rw [← i2] at z
  have fr2 : ∀ b, b ≠ pl 14 → b ≠ pl 15 → nt_I M2 b = nt_I M1 b := fun b h1 h2 => by
    rw [i2]
    exact x234_frJ h1 h2
  have g2 : ∀ g, g < 66 → g ≠ 14 → g ≠ 15 → nt_I M2 (pl g) = nt_I M (pl g) := fun g hg h1 h2 => (fr2 _ (ne g 14 hg (by omega) h1) (ne g 15 hg (by omega) h2)).trans (g1 g hg)
  have o2 : ∀ b, 66 ≤ b → nt_I M2 b = nt_I M1 b := fun b hb => fr2 b (fun e => by have := p66 14 (by omega); omega) (fun e => by have := p66 15 (by omega); omega)
  have vn : (nt_I M (pl 16) 4).toInt = v 2 := ly_vI hB
  obtain ⟨_, _, T, t1, t2⟩ := hS1
  have Ta : ∀ i, i < 17 → T (a + i) = k := by
    rcases t1 k hk with ⟨c, _⟩ | ⟨a', c, _, _, _, c5, _⟩
    · rw [r65'] at c
      cases c
    · rw [r65'] at c
      cases c
      exact c5
  have hZ0 := hZ
  obtain ⟨⟨hR, hW, hd, hz⟩, hI1, hI2⟩ := hZ
  refine ⟨?_, ?_, fun k' hk' a' ha' => ?_, fun u b hu hb => ?_⟩
  · rw [y1e, y2e, z.1, g1 4 (by omega)]
    have e31 : nt_I N (pl 31) 2 = nt_I M (pl 31) 2 := same 31 2 (by omega)
    rw [e31]
    exact zR_4 hR
  · rw [g2 4 (by omega) (by decide) (by decide)]
    exact zz_Rag (fun i hi => g2 (31 + i) (by omega) (by omega) (by omega)) hZ0.1
  · rw [R2] at ha'
    by_cases e : k' = k
    · subst e
      rw [r65'] at ha'
      cases ha'
      have i16 := (im.1 16 _ (show ly_ED[16]? = some (13, 8, 8, 0) from rfl)).1
      refine ⟨⟨a66, by omega⟩, ?_⟩
      have cp : zz_R (fun i => a + i) (nt_I M2) (nt_I M (pl 4)) := by
        refine ⟨zR_aj (fun i hi => o2 _ (by omega)) (J := nt_I M1) ?_, hW, hd, hz⟩
        rw [i1]
        exact zR_copy (fun i j _ _ hij e => hij (Nat.add_left_cancel e)) (zR_aj (fun i hi => funext (fun j => same (31 + i) j (by omega))) hR)
      refine zz_Rae (fun j hj => ?_) cp
      unfold zim
      rw [if_pos hj, z.2.1 j hj, g1 4 (by omega)]
    · have ha0 := ha'
      rw [R1, j3 k' e] at ha'
      obtain ⟨⟨b1, b2⟩, b3⟩ := hI1 k' hk' a' ha'
      refine ⟨⟨b1, by omega⟩, ?_⟩
      have Ta' : ∀ i, i < 17 → T (a' + i) = k' := by
        rcases t1 k' hk' with ⟨c, _⟩ | ⟨a2, c, _, _, _, c5, _⟩
        · rw [ha0] at c
          cases c
        · rw [ha0] at c
          cases c
          exact c5
      refine zz_Rae (e := zim (nt_I M) (pl 14) k') (fun j hj => ?_) (zz_Rag (fun i hi => ?_) b3)
      · unfold zim
        rw [if_pos hj, if_pos hj, z.2.2 _ (by omega), g1 14 (by omega)]
      · rw [o2 _ (by omega), fr1 _ (fun i' hi' e' => e (by rw [← Ta' i hi, e', Ta i' hi'])), (j1 _ (by omega)).1]
  · rw [R2] at hb
    have hb0 := hb
    rw [R1, j4 u] at hb
    obtain ⟨⟨b1, b2, b3⟩, b4⟩ := hI2 u b hu hb
    have Tb : T (b + 1) = 4 + u := by
      obtain ⟨b', c, _, _, _, c5, _⟩ := t2 u (by omega)
      rw [hb0] at c
      cases c
      exact c5
    refine ⟨⟨b1, by omega, by rw [g2 16 (by omega) (by decide) (by decide)]; exact b3⟩, ?_⟩
    rw [l2, l1, (j1 (b + 1) (by omega)).2]
    exact zRQ_ag b4 (by rw [o2 _ (by omega), fr1 _ (fun i' hi' e' => by have := Ta i' hi'; rw [← e'] at this; omega), (j1 _ (by omega)).1]) (g2 1 (by omega) (by decide) (by decide)) (g2 2 (by omega) (by decide) (by decide)) (g2 3 (by omega) (by decide) (by decide))
/-- an image is gone back to -/
theorem zz_back2 {X : nt_X} {pl : Nat → Nat} {v v1 mk xi : Nat → Int} {rc : Int} {M M1 M2 : nt_M} {y1 y2 : Int32} {k : Nat} (hk : k < 4) (hB : ly_B pl v M) (hS : ly_S pl mk xi rc M) (hm : mk k = 1) (hB1 : ly_B pl v1 M1) (h15 : ¬ nt_I M (pl 15) k = 0) (e1 : nt_ev X 99 128 [.ref (pl 16), .int (nI k)] M (some (.int y1), M1)) (e2 : nt_ev X 99 235 [.ref (pl 0), .int (nI k)] M1 (some (.int y2), M2)) (hZ : zz_E pl M) : y1 = y2 ∧ zz_E pl M2 := by
  have ne := zz_ne hB
  have p66 := hS.1.1
  obtain ⟨a, r65, a66, im⟩ : ∃ a, nt_R M (pl 65) k = some a ∧ 66 ≤ a ∧ ly_im a (xi k) M := by
    obtain ⟨_, _, T, t1, _⟩ := hS
    rcases t1 k hk with ⟨_, c⟩ | ⟨a, c1, _, c3, _, _, c6⟩
    · omega
    · exact ⟨a, c1, c3, c6⟩
  have da : ∀ g j, g < 66 → pl g ≠ a + j := fun g j hg e => by have := p66 g hg; omega
  have c1 := xr128 (p := pl) (J := nt_I M) (zz_P hB) (zz_Qn hB) (zz_Qi hB.2.1.1 im) (fun i j hi _ => da _ j (by omega)) (zz_Nn hB) hk r65 e1
  obtain ⟨y1e, M1e⟩ := lq_out c1
  have i1 : nt_I M1 = x80 (fun i => pl (31 + i)) (fun i => a + i) (nt_I M) := by rw [M1e]; rfl
  have n1 : nt_n M1 = nt_n M := by rw [M1e]; rfl
  have l1 : nt_l M1 = nt_l M := by rw [M1e]; rfl
  have R1 : ∀ g j, nt_R M1 g j = nt_R M g j := fun g j => by rw [M1e]; rfl
  have fr1 : ∀ b, (∀ i, i < 17 → b ≠ pl (31 + i)) → nt_I M1 b = nt_I M b := fun b hb => by
    rw [i1]
    exact x80_frJ (hb 0 (by omega)) (hb 1 (by omega)) (hb 2 (by omega)) (hb 3 (by omega)) (hb 4 (by omega)) (hb 5 (by omega)) (hb 6 (by omega)) (hb 7 (by omega)) (hb 8 (by omega)) (hb 9 (by omega)) (hb 10 (by omega)) (hb 11 (by omega)) (hb 12 (by omega)) (hb 13 (by omega)) (hb 14 (by omega)) (hb 15 (by omega)) (hb 16 (by omega))
  have g1 : ∀ g, g < 31 → nt_I M1 (pl g) = nt_I M (pl g) := fun g hg => fr1 _ (fun i hi => ne g (31 + i) (by omega) (by omega) (by omega))
  have o1 : ∀ b, 66 ≤ b → nt_I M1 b = nt_I M b := fun b hb => fr1 b (fun i hi e => by have := p66 (31 + i) (by omega); omega)
  have c2 := xt235 (p := pl) (J := nt_I M1) (zz_P hB1) e2
  obtain ⟨y2e, M2e⟩ := lq_out c2
  have i2 : nt_I M2 = (x235 pl (nI k) (nt_I M1)).2 := by rw [M2e]; rfl
  have n2 : nt_n M2 = nt_n M1 := by rw [M2e]; rfl
  have l2 : nt_l M2 = nt_l M1 := by rw [M2e]; rfl
  have R2 : ∀ g j, nt_R M2 g j = nt_R M1 g j := fun g j => by rw [M2e]; rfl
  have z := zbkR (p := pl) (J := nt_I M1) hk (ne 14 4 (by omega) (by omega) (by decide)) (by rw [g1 15 (by omega)]; exact h15)
  rw [← i2] at z
  have fr2 : ∀ b, b ≠ pl 4 → nt_I M2 b = nt_I M1 b := fun b h1 => by
    rw [i2]
    exact x235_frJ h1
  have g2 : ∀ g, g < 31 → g ≠ 4 → nt_I M2 (pl g) = nt_I M (pl g) := fun g hg h1 => (fr2 _ (ne g 4 (by omega) (by omega) h1)).trans (g1 g hg)
  have o2 : ∀ b, 66 ≤ b → nt_I M2 b = nt_I M b := fun b hb => (fr2 b (fun e => by have := p66 4 (by omega); omega)).trans (o1 b hb)
  obtain ⟨_, hI1, hI2⟩ := hZ
  obtain ⟨⟨b1, b2⟩, b3⟩ := hI1 k hk a r65
  have rw4 : ∀ j, j < 212 → nt_I M2 (pl 4) j = zim (nt_I M) (pl 14) k j := fun j hj => by
    unfold zim
    rw [if_pos hj, z.2 j hj, g1 14 (by omega)]
  have cp : zz_R (fun i => pl (31 + i)) (nt_I M2) (zim (nt_I M) (pl 14) k) := by
    refine ⟨zR_aj (fun i hi => fr2 _ (ne (31 + i) 4 (by omega) (by omega) (by omega))) (J := nt_I M1) ?_, b3.2⟩
    rw [i1]
    exact zR_copy (fun i j hi hj hij e => ne (31 + i) (31 + j) (by omega) (by omega) (by omega) e) b3.1
  refine ⟨?_, zz_Rae rw4 cp, fun k' hk' a' ha' => ?_, fun u b hu hb => ?_⟩
  · rw [y1e, y2e, z.1, xc80_0_2 (q := fun i => pl (31 + i)) (fun i j hi hj hij e => ne (31 + i) (31 + j) (by omega) (by omega) (by omega) e), g1 14 (by omega)]
    have := zR_4 b3.1
    rw [show zim (nt_I M) (pl 14) k 4 = nt_I M (pl 14) (212 * k + 4) from if_pos (by omega)] at this
    exact this
  · rw [R2, R1] at ha'
    obtain ⟨⟨d1, d2⟩, d3⟩ := hI1 k' hk' a' ha'
    refine ⟨⟨d1, by omega⟩, zz_Rae (e := zim (nt_I M) (pl 14) k') (fun j hj => ?_) (zz_Rag (fun i hi => o2 _ (by omega)) d3)⟩
    unfold zim
    rw [if_pos hj, if_pos hj, g2 14 (by omega) (by decide)]
  · rw [R2, R1] at hb
    obtain ⟨⟨d1, d2, d3⟩, d4⟩ := hI2 u b hu hb
    refine ⟨⟨d1, by omega, by rw [g2 16 (by omega) (by decide)]; exact d3⟩, ?_⟩
    rw [l2, l1]
    exact zRQ_ag d4 (o2 _ (by omega)) (g2 1 (by omega) (by decide)) (g2 2 (by omega) (by decide)) (g2 3 (by omega) (by decide))
theorem zz_back2N {X : nt_X} {pl : Nat → Nat} {v v1 : Nat → Int} {M M1 M2 : nt_M} {y1 y2 : Int32} {k : Nat} (hk : k < 4) (hB : ly_B pl v M) (hn : nt_R M (pl 65) k = none) (hB1 : ly_B pl v1 M1) (h15 : nt_I M (pl 15) k = 0) (e1 : nt_ev X 99 128 [.ref (pl 16), .int (nI k)] M (some (.int y1), M1)) (e2 : nt_ev X 99 235 [.ref (pl 0), .int (nI k)] M1 (some (.int y2), M2)) (hZ : zz_E pl M) : y1 = y2 ∧ zz_E pl M2 := by
  have c1 := xr128N (p := pl) (J := nt_I M) (zz_P hB) hk hn e1
  obtain ⟨y1e, M1e⟩ := lq_out c1
  have M1e : M1 = M := M1e
  subst M1e
  have c2 := xt235 (p := pl) (J := nt_I M1) (zz_P hB1) e2
  obtain ⟨y2e, M2e⟩ := lq_out c2
  have u : x235 pl (nI k) (nt_I M1) = (Int32.ofInt (-1), nt_I M1) := by
    unfold x235
    rw [if_neg (zi_01 hk), nI_clamp (by omega), if_pos h15]
  rw [u] at M2e y2e
  have M2e : M2 = M1 := M2e
  subst M2e
  exact ⟨by rw [y1e, y2e], hZ⟩
end
section
/-! answers alike; what holds at the start -/
theorem zz_keep2 {pl : Nat → Nat} {mk xi : Nat → Int} {rc : Int} {M M1 M2 : nt_M} (hS : ly_S pl mk xi rc M) (f1 : ly_fr 66 pl M M1) (f2 : ly_fr 66 pl M1 M2) (t1 : zz_T zz_ok pl M M1) (t2 : zz_T zz_ok pl M1 M2) (h : zz_E pl M) : zz_E pl M2 := zz_keep (ly_S_fr f1 hS) f2 t2 (zz_keep hS f1 t1 h)
theorem zz_16 {pl : Nat → Nat} {M : nt_M} (h : lq_E pl M) : nt_I M (pl 16) 4 = nt_I M (pl 0) 2 := by
  obtain ⟨t, n, _, _, _, _, _, _, a, b⟩ := h
  rw [a, b]
theorem zz_17 {pl : Nat → Nat} {M : nt_M} (h : lq_E pl M) : nt_I M (pl 17) 1 = nt_I M (pl 0) 1 := by
  obtain ⟨t, n, _, _, a, b, _⟩ := h
  rw [a, b]
theorem zz_o1 {X : nt_X} {K : sx_K} {ok : Nat → Bool} {pl : Nat → Nat} {v : Nat → Int} {M : nt_M} {o : Option Value × nt_M} {d g dl rv : Nat} {lo hi : Int} {mo : List (Nat × Int × Int)} {rm : List (Nat × Nat)} (a : Int32) (h1 : lo ≤ a.toInt) (h2 : a.toInt ≤ hi) (hK : sx_KOK X (sx_tbs, sx_gps) K) (hKe : K = (g, dl, ly_D ++ [], (mo, rm), [(2, rv, (0, [])), (0, 0, (0, [(11, 1)]))], (ly_C ++ [], ly_R ++ [], (ly_b ++ [(11, lo, hi)], []), 12), [(some (0, 0, (0, [(12, 1)])), (ly_C, ly_R, ([(12, -2147483648, 2147483647)], []), 12 + 1))])) (hmo : mo.all (fun q => !ok q.1) = true) (hd : dl ≤ d) (hB : ly_B pl v M) (k : nt_ev X d g [.ref (pl rv), .int a] M o) : zz_T ok pl M o.2 := by
  obtain ⟨r, hr, h11⟩ : ∃ r : Nat → Int, (∀ s, s < 11 → r s = v s) ∧ r 11 = a.toInt := ⟨fun s => if s = 11 then a.toInt else v s, fun s hs => by dsimp only; rw [if_neg (by omega)], rfl⟩
  exact zz_gen (vs := [.ref (pl rv), .int a]) (ec := []) (r := r) hK hKe hmo hd hB hr ⟨rfl, ⟨a, rfl, (ly_e1 h11).symm⟩, trivial⟩ (fun q hq => by cases hq) (ly_oba (ly_obr hr (ly_ob hB)) (ly_ob1 (by omega))) ly_oc0 k
theorem zz_mk {pl : Nat → Nat} {v : Nat → Int} {M : nt_M} {k : Nat} (hB : ly_B pl v M) (hk : k < 4) : (nt_I M (pl 15) k).toInt = v (3 + k) := by
  rcases (by omega : k = 0 ∨ k = 1 ∨ k = 2 ∨ k = 3) with rfl | rfl | rfl | rfl
  · exact ly_cell (g := 15) (j := 0) (u := 3) hB (by decide) (List.mem_of_getElem? (i := 3) rfl)
  · exact ly_cell (g := 15) (j := 1) (u := 4) hB (by decide) (List.mem_of_getElem? (i := 4) rfl)
  · exact ly_cell (g := 15) (j := 2) (u := 5) hB (by decide) (List.mem_of_getElem? (i := 5) rfl)
  · exact ly_cell (g := 15) (j := 3) (u := 6) hB (by decide) (List.mem_of_getElem? (i := 6) rfl)
theorem zz_15 {pl : Nat → Nat} {v : Nat → Int} {M : nt_M} {k : Nat} (hB : ly_B pl v M) (hk : k < 4) (h : v (3 + k) = 1) : ¬ nt_I M (pl 15) k = 0 := fun e => by
  have q := zz_mk hB hk
  rw [e, h] at q
  exact absurd q (by decide)
theorem zz_15N {pl : Nat → Nat} {v : Nat → Int} {M : nt_M} {k : Nat} (hB : ly_B pl v M) (hk : k < 4) (h : v (3 + k) = 0) : nt_I M (pl 15) k = 0 := Int32.toInt_inj.mp (by rw [zz_mk hB hk, h]; decide)
theorem zz_a_plank {X : nt_X} {pl : Nat → Nat} {v v1 : Nat → Int} {M M1 M2 : nt_M} {y1 y2 a b : Int32} (hB : ly_B pl v M) (hB1 : ly_B pl v1 M1) (e1 : nt_ev X 99 107 [.ref (pl 16), .int a, .int b] M (some (.int y1), M1)) (e2 : nt_ev X 99 176 [.ref (pl 0), .int a, .int b] M1 (some (.int y2), M2)) (hZ : zz_E pl M) : y1 = y2 := by
  obtain ⟨y1e, M1e⟩ := lq_out (xt107 (p := pl) (J := nt_I M) (zz_P hB) (zz_Qn hB) e1)
  have i1 : nt_I M1 = nt_I M := by rw [M1e]; rfl
  obtain ⟨y2e, _⟩ := lq_out (xt176 (p := pl) (J := nt_I M1) (zz_P hB1) e2)
  rw [y1e, y2e, i1]
  exact zq_107 hZ.1.1 hZ.1.2.1
theorem zz_a_voyage {X : nt_X} {pl : Nat → Nat} {v v1 : Nat → Int} {M M1 M2 : nt_M} {y1 y2 a b : Int32} (hB : ly_B pl v M) (hB1 : ly_B pl v1 M1) (e1 : nt_ev X 99 108 [.ref (pl 16), .int a, .int b] M (some (.int y1), M1)) (e2 : nt_ev X 99 178 [.ref (pl 0), .int a, .int b] M1 (some (.int y2), M2)) (hZ : zz_E pl M) : y1 = y2 := by
  obtain ⟨y1e, M1e⟩ := lq_out (xt108 (p := pl) (J := nt_I M) (zz_P hB) (zz_Qn hB) e1)
  have i1 : nt_I M1 = nt_I M := by rw [M1e]; rfl
  obtain ⟨y2e, _⟩ := lq_out (xt178 (p := pl) (J := nt_I M1) (zz_P hB1) e2)
  rw [y1e, y2e, i1]
  exact zq_108 hZ.1.1 hZ.1.2.1
theorem zz_a_count {X : nt_X} {pl : Nat → Nat} {v v1 : Nat → Int} {M M1 M2 : nt_M} {y1 y2 a : Int32} (hB : ly_B pl v M) (hB1 : ly_B pl v1 M1) (hx : v 0 = v 1) (hE : lq_E pl M) (e1 : nt_ev X 99 126 [.ref (pl 16), .int a] M (some (.int y1), M1)) (e2 : nt_ev X 99 233 [.ref (pl 0), .int a] M1 (some (.int y2), M2)) (hZ : zz_E pl M) : y1 = y2 := by
  obtain ⟨y1e, M1e⟩ := lq_out (xt126 (p := pl) (J := nt_I M) (zz_P hB) (zz_Qn hB) e1)
  have i1 : nt_I M1 = nt_I M := by rw [M1e]; rfl
  obtain ⟨y2e, _⟩ := lq_out (xt233 (p := pl) (J := nt_I M1) (zz_P hB1) e2)
  rw [y1e, y2e, i1]
  exact zq_126 hZ.1.1 hZ.1.2.1 hZ.1.2.2.2 (zz_16 hE) (zz_17 hE) (zz_x hB hx)
theorem zz_a_same {X : nt_X} {pl : Nat → Nat} {v v1 : Nat → Int} {M M1 M2 : nt_M} {y1 y2 a b : Int32} (hB : ly_B pl v M) (hB1 : ly_B pl v1 M1) (e1 : nt_ev X 99 119 [.ref (pl 16), .int a, .int b] M (some (.int y1), M1)) (e2 : nt_ev X 99 217 [.ref (pl 0), .int a, .int b] M1 (some (.int y2), M2)) (hZ : zz_E pl M) : y1 = y2 := by
  obtain ⟨y1e, M1e⟩ := lq_out (xt119 (p := pl) (J := nt_I M) (zz_P hB) (zz_Qn hB) e1)
  have i1 : nt_I M1 = nt_I M := by rw [M1e]; rfl
  obtain ⟨y2e, _⟩ := lq_out (xt217 (p := pl) (J := nt_I M1) (zz_P hB1) e2)
  rw [y1e, y2e, i1]
  exact zq_119 hZ.1.1 hZ.1.2.1
theorem zz_a_unlike {X : nt_X} {pl : Nat → Nat} {v v1 : Nat → Int} {M M1 M2 : nt_M} {y1 y2 : Int32} (hB : ly_B pl v M) (hB1 : ly_B pl v1 M1) (e1 : nt_ev X 99 120 [.ref (pl 16)] M (some (.int y1), M1)) (e2 : nt_ev X 99 221 [.ref (pl 0)] M1 (some (.int y2), M2)) (hZ : zz_E pl M) : y1 = y2 := by
  obtain ⟨y1e, M1e⟩ := lq_out (xt120 (p := pl) (J := nt_I M) (zz_P hB) (zz_Qn hB) e1)
  have i1 : nt_I M1 = nt_I M := by rw [M1e]; rfl
  obtain ⟨y2e, _⟩ := lq_out (xt221 (p := pl) (J := nt_I M1) (zz_P hB1) e2)
  rw [y1e, y2e, i1]
  exact zq_120 hZ.1.1 hZ.1.2.1
/-- the start -/
theorem zz_io_n : (List.range 6).all (fun k => (match ly_rl ly_io 7 k with | some _ => false | none => true)) = true := by decide +kernel
theorem zz_E0 {M : nt_M} (hM : M = ly_fo 0 nt_M0 ly_io) (hB : ly_B ly_p0 (fun _ => 0) M) (hS : ly_S ly_p0 (fun _ => 0) (fun _ => 0) 0 M) : zz_E ly_p0 M := by
  have h0 : nt_n nt_M0 = 0 := rfl
  have z : ∀ i j, i < 66 → nt_I M i j = 0 := fun i j hi => by
    have := ly_fo_I (n := 0) (M := nt_M0) (i := i) h0 ly_io (by rw [ly_io_c]; exact hi) j
    rw [Nat.zero_add, ← hM] at this
    exact this
  have lt : ∀ g, g < 66 → ly_p0 g < 66 := fun g hg => Nat.blt_eq.mp (List.all_eq_true.mp ly_p0_lt g (List.mem_range.mpr hg))
  have z4 : ∀ j, nt_I M (ly_p0 4) j = 0 := fun j => z _ j (lt 4 (by omega))
  have n0 : ∀ i, zn (nt_I M (ly_p0 4)) i = 0 := fun i => by
    unfold zn
    rw [z4]
    rfl
  have t0 : (0 : Int32).toInt = 0 := by decide
  refine ⟨⟨⟨fun j hj => ?_, ?_⟩, ⟨zz_W hB, ⟨?_, fun s hs => ?_, fun s hs => ?_, fun s hs => ?_, fun s hs => ?_⟩, ⟨fun s hs => ?_, fun s hs => ?_⟩, ⟨fun s hs => ?_, fun s hs => ?_, fun s hs => ?_, fun s hs => ?_⟩, ⟨?_, ?_, fun s hs => ?_⟩⟩, ?_, ?_⟩, fun k hk a ha => ?_, fun u b hu hb => ?_⟩
  · have := zc_17 j (zv_lt hj)
    dsimp only
    rw [z4, z _ _ (lt _ (by omega))]
  · dsimp only
    rw [z4, z _ _ (lt _ (by omega)), if_pos rfl]
  · rw [z4, t0]
    omega
  · rw [n0] at hs
    omega
  · rw [n0] at hs
    omega
  · rw [n0] at hs
    omega
  · rw [n0] at hs
    omega
  · rw [n0] at hs
    omega
  · rw [n0] at hs
    omega
  · rw [n0] at hs
    omega
  · rw [n0] at hs
    omega
  · rw [n0] at hs
    omega
  · rw [n0] at hs
    omega
  · rw [z4, z4, t0]
    omega
  · rw [z4, t0]
    omega
  · rw [n0] at hs
    omega
  · rw [z4, t0]
    omega
  · intro _
    rw [z4, z4]
  · exfalso
    obtain ⟨_, _, T, t1, _⟩ := hS
    rcases t1 k hk with ⟨c, _⟩ | ⟨_, _, c, _⟩
    · rw [ha] at c
      cases c
    · exact absurd (show (0 : Int) = 1 from c) (by decide)
  · exfalso
    have r := ly_fo_R (n := 0) (M := nt_M0) (i := 7) h0 ly_io (by rw [ly_io_c]; decide) u
    rw [Nat.zero_add, ← hM] at r
    have l := List.all_eq_true.mp zz_io_n u (List.mem_range.mpr hu)
    have hb : nt_R M 7 u = some b := hb
    rw [hb] at r
    cases hr : ly_rl ly_io 7 u with
    | none => rw [hr] at r; cases r
    | some b => rw [hr] at l; cases l
end
section
/-! sets, told as bits -/
theorem zb_t : ∀ n, n < 256 → x236 (nI n) = x214 (nI n) := by decide +kernel
theorem zb_or : ∀ n, n < 64 → ∀ i, i < 6 → nI n ||| (Int32.ofInt 1 <<< (nI i &&& 31)) = nI (n ||| (1 <<< i)) ∧ n ||| (1 <<< i) < 64 := by decide +kernel
end
section
/-! plans, both sides -/
def xs_V (M : nt_M) (p : Nat → Nat) : Prop := nt_R M (p 28) 0 = some (p 31) ∧ nt_R M (p 28) 1 = some (p 32) ∧ nt_l M (p 29) = 4 ∧ nt_l M (p 30) = 4
/-! $Plans.has -/
def x14 (v0 : Int32) (v1 : Int32) : Int32 := if ((v0 >>> (v1 &&& 31)) &&& (Int32.ofInt 1)) = 0 then (Int32.ofInt 0)
  else (Int32.ofInt 1)
theorem xt14 {X : nt_X} {d : Nat} {M : nt_M} {o : Option Value × nt_M} {v0 : Int32} {v1 : Int32} {J : Nat → Nat → Int32}  (k : nt_ev X d 14 [.int v0, .int v1] (me_w M J) o) : o = (some (.int (x14 v0 v1)), me_w M J) := by
  have k : nt_rn X d 14 (0, [(0, .int v0), (1, .int v1)], [], me_w M J) o := k
  have k := ly_revb 6 (c' := (if ((v0 >>> (v1 &&& 31)) &&& (Int32.ofInt 1)) = 0 then 12 else 8, [(0, .int v0), (1, .int v1)], [], me_w M J)) rfl k
  by_cases h5 : ((v0 >>> (v1 &&& 31)) &&& (Int32.ofInt 1)) = 0
  · rw [if_pos h5] at k
    have k := ly_revb 1 (c' := (13, [(0, .int v0), (1, .int v1)], [.int (Int32.ofInt 0)], me_w M J)) rfl k
    have k := lz_ri rfl (by decide) k
    rw [k, x14, if_pos h5]
  · rw [if_neg h5] at k
    have k := ly_revb 2 (c' := (13, [(0, .int v0), (1, .int v1)], [.int (Int32.ofInt 1)], me_w M J)) rfl k
    have k := lz_ri rfl (by decide) k
    rw [k, x14, if_neg h5]
/-! $Plans.isBetter -/
def x21 (v0 : Int32) (v1 : Int32) (v2 : Int32) (v3 : Int32) : Int32 := if v2 < v0 then (Int32.ofInt 1)
  else if v0 = v2 then if (x236 v3) ≤ (x236 v1) then (Int32.ofInt 0)
      else (Int32.ofInt 1)
    else (Int32.ofInt 0)
theorem xt21 {X : nt_X} {d : Nat} {M : nt_M} {o : Option Value × nt_M} {v0 : Int32} {v1 : Int32} {v2 : Int32} {v3 : Int32} {J : Nat → Nat → Int32}  (k : nt_ev X d 21 [.int v0, .int v1, .int v2, .int v3] (me_w M J) o) : o = (some (.int (x21 v0 v1 v2 v3)), me_w M J) := by
  have k : nt_rn X d 21 (0, [(0, .int v0), (1, .int v1), (2, .int v2), (3, .int v3)], [], me_w M J) o := k
  have k := ly_revb 3 (c' := (if v2 < v0 then 21 else 5, [(0, .int v0), (1, .int v1), (2, .int v2), (3, .int v3)], [], me_w M J)) rfl k
  by_cases h2 : v2 < v0
  · rw [if_pos h2] at k
    have k := ly_revb 2 (c' := (26, [(0, .int v0), (1, .int v1), (2, .int v2), (3, .int v3)], [.int (Int32.ofInt 1)], me_w M J)) rfl k
    have k := lz_ri rfl (by decide) k
    rw [k, x21, if_pos h2]
  · rw [if_neg h2] at k
    have k := ly_revb 3 (c' := (if v0 = v2 then 10 else 25, [(0, .int v0), (1, .int v1), (2, .int v2), (3, .int v3)], [], me_w M J)) rfl k
    by_cases h7 : v0 = v2
    · rw [if_pos h7] at k
      have k := ly_revb 1 (c' := (11, [(0, .int v0), (1, .int v1), (2, .int v2), (3, .int v3)], [.int v1], me_w M J)) rfl k
      obtain ⟨d1, o1, ed, kc, k⟩ := lz_c (g := 236) (q := 0) (vs := [.int v1]) (rest := []) rfl rfl (by decide) (Or.inl ⟨_, rfl, rfl⟩) rfl k
      have e1 := xt236  kc
      subst e1
      have k : nt_rn X _ 21 (14, [(0, .int v0), (1, .int v1), (2, .int v2), (3, .int v3)], [.int (x236 v1)], me_w M J) _ := k
      have k := ly_revb 1 (c' := (15, [(0, .int v0), (1, .int v1), (2, .int v2), (3, .int v3)], [.int v3, .int (x236 v1)], me_w M J)) rfl k
      obtain ⟨d1, o1, ed, kc, k⟩ := lz_c (g := 236) (q := 0) (vs := [.int v3]) (rest := [.int (x236 v1)]) rfl rfl (by decide) (Or.inl ⟨_, rfl, rfl⟩) rfl k
      have e1 := xt236  kc
      subst e1
      have k : nt_rn X _ 21 (18, [(0, .int v0), (1, .int v1), (2, .int v2), (3, .int v3)], [.int (x236 v3), .int (x236 v1)], me_w M J) _ := k
      have k := ly_revb 1 (c' := (if (x236 v3) ≤ (x236 v1) then 25 else 21, [(0, .int v0), (1, .int v1), (2, .int v2), (3, .int v3)], [], me_w M J)) rfl k
      by_cases h18 : (x236 v3) ≤ (x236 v1)
      · rw [if_pos h18] at k
        have k := ly_revb 1 (c' := (26, [(0, .int v0), (1, .int v1), (2, .int v2), (3, .int v3)], [.int (Int32.ofInt 0)], me_w M J)) rfl k
        have k := lz_ri rfl (by decide) k
        rw [k, x21, if_neg h2, if_pos h7, if_pos h18]
      · rw [if_neg h18] at k
        have k := ly_revb 2 (c' := (26, [(0, .int v0), (1, .int v1), (2, .int v2), (3, .int v3)], [.int (Int32.ofInt 1)], me_w M J)) rfl k
        have k := lz_ri rfl (by decide) k
        rw [k, x21, if_neg h2, if_pos h7, if_neg h18]
    · rw [if_neg h7] at k
      have k := ly_revb 1 (c' := (26, [(0, .int v0), (1, .int v1), (2, .int v2), (3, .int v3)], [.int (Int32.ofInt 0)], me_w M J)) rfl k
      have k := lz_ri rfl (by decide) k
      rw [k, x21, if_neg h2, if_neg h7]
/-! java/util/Arrays.fill -/
def x238K_5 (p : Nat → Nat) (v1 : Int32) (v3 : Int32) : Nat → Int32 → (Nat → Nat → Int32) → (Nat → Nat → Int32)
  | 0, v2, J => J
  | c + 1, v2, J => if v3 ≤ v2 then J
    else (x238K_5 p v1 v3 c (v2 + (Int32.ofInt 1)) (nt_u J (p 29) v2.toNatClampNeg v1))
theorem xt238K_5 {X : nt_X} {d : Nat} {M : nt_M} {o : Option Value × nt_M} {p : Nat → Nat} {v1 : Int32} {v3 : Int32} (hp : xs_P M p) (hv : xs_V M p) : ∀ (c : Nat) (v2 : Int32) (J : Nat → Nat → Int32), v3.toInt - v2.toInt ≤ c → nt_rn X d 238 (5, [(0, .ref (p 29)), (1, .int v1), (2, .int v2), (3, .int v3)], [], me_w M J) o → o = (none, me_w M (x238K_5 p v1 v3 c v2 J)) := by
  intro c
  induction c with
  | zero =>
    intro v2 J hc k
    have k := ly_revb 3 (c' := (if v3 ≤ v2 then 20 else 10, [(0, .ref (p 29)), (1, .int v1), (2, .int v2), (3, .int v3)], [], me_w M J)) rfl k
    have h7 : v3 ≤ v2 := lx_end hc
    rw [if_pos h7] at k
    have k := lz_rv rfl rfl k
    rw [k, x238K_5]
  | succ c ih =>
    intro v2 J hc k
    have k := ly_revb 3 (c' := (if v3 ≤ v2 then 20 else 10, [(0, .ref (p 29)), (1, .int v1), (2, .int v2), (3, .int v3)], [], me_w M J)) rfl k
    by_cases h7 : v3 ≤ v2
    · rw [if_pos h7] at k
      have k := lz_rv rfl rfl k
      rw [k, x238K_5, if_pos h7]
    · rw [if_neg h7] at k
      have k := ly_revb 3 (c' := (13, [(0, .ref (p 29)), (1, .int v1), (2, .int v2), (3, .int v3)], [.int v1, .int v2, .ref (p 29)], me_w M J)) rfl k
      have k := mx_iast (q := v2.toNatClampNeg) rfl rfl k
      have k : nt_rn X _ 238 (14, [(0, .ref (p 29)), (1, .int v1), (2, .int v2), (3, .int v3)], [], me_w M (nt_u J (p 29) v2.toNatClampNeg v1)) _ := k
      have k := ly_revb 2 (c' := (5, [(2, .int (v2 + (Int32.ofInt 1))), (0, .ref (p 29)), (1, .int v1), (3, .int v3)], [], me_w M (nt_u J (p 29) v2.toNatClampNeg v1))) rfl k
      have k := nt_rn_w (a := [(2, .int (v2 + (Int32.ofInt 1))), (0, .ref (p 29)), (1, .int v1), (3, .int v3)]) (b := [(0, .ref (p 29)), (1, .int v1), (2, .int (v2 + (Int32.ofInt 1))), (3, .int v3)]) ⟨rfl, rfl, rfl, rfl, trivial⟩ rfl k
      have k := ih (v2 + (Int32.ofInt 1)) (nt_u J (p 29) v2.toNatClampNeg v1) (lx_dec h7 hc) k
      rw [k, x238K_5, if_neg h7]
def x238K (p : Nat → Nat) (v1 : Int32) (J : Nat → Nat → Int32) : (Nat → Nat → Int32) := (x238K_5 p v1 (Int32.ofNat 4) ((Int32.ofNat 4).toNatClampNeg) (Int32.ofInt 0) J)
theorem xt238K {X : nt_X} {d : Nat} {M : nt_M} {o : Option Value × nt_M} {p : Nat → Nat} {v1 : Int32} {J : Nat → Nat → Int32} (hp : xs_P M p) (hv : xs_V M p) (k : nt_ev X d 238 [.ref (p 29), .int v1] (me_w M J) o) : o = (none, me_w M (x238K p v1 J)) := by
  have k : nt_rn X d 238 (0, [(0, .ref (p 29)), (1, .int v1)], [], me_w M J) o := k
  have k := ly_revb 3 (c' := (3, [(2, .int (Int32.ofInt 0)), (0, .ref (p 29)), (1, .int v1)], [.ref (p 29)], me_w M J)) rfl k
  have k := lz_len rfl (hp.2.2.1 29 (by omega)) k
  rw [show nt_l (me_w M J) (p 29) = 4 from hv.2.2.1] at k
  have k : nt_rn X _ 238 (4, [(2, .int (Int32.ofInt 0)), (0, .ref (p 29)), (1, .int v1)], [.int (Int32.ofNat 4)], me_w M J) _ := k
  have k := ly_revb 1 (c' := (5, [(3, .int (Int32.ofNat 4)), (2, .int (Int32.ofInt 0)), (0, .ref (p 29)), (1, .int v1)], [], me_w M J)) rfl k
  have k := nt_rn_w (a := [(3, .int (Int32.ofNat 4)), (2, .int (Int32.ofInt 0)), (0, .ref (p 29)), (1, .int v1)]) (b := [(0, .ref (p 29)), (1, .int v1), (2, .int (Int32.ofInt 0)), (3, .int (Int32.ofNat 4))]) ⟨rfl, rfl, rfl, rfl, trivial⟩ rfl k
  have k := xt238K_5 hp hv  ((Int32.ofNat 4).toNatClampNeg) (Int32.ofInt 0) J (lx_beg (by decide)) k
  rw [k, x238K]
theorem x238K_5_frJ {p : Nat → Nat} {v1 : Int32} {v3 : Int32} {b : Nat} : ∀ (c : Nat) (v2 : Int32) (J : Nat → Nat → Int32), b ≠ p 29 → x238K_5 p v1 v3 c v2 J b = J b := by
  intro c
  induction c with
  | zero =>
    intro v2 J n0
    rw [x238K_5]
    all_goals first | (dsimp only; exact (show J b = J b from rfl)) | exact (show J b = J b from rfl)
  | succ c ih =>
    intro v2 J n0
    rw [x238K_5]
    by_cases h : v3 ≤ v2
    · rw [if_pos h]
      all_goals first | (dsimp only; exact (show J b = J b from rfl)) | exact (show J b = J b from rfl)
    · rw [if_neg h]
      exact (ih _ _ n0).trans (mu_o n0)
theorem x238K_frJ {p : Nat → Nat} {v1 : Int32} {J : Nat → Nat → Int32} {b : Nat} (n0 : b ≠ p 29) : x238K p v1 J b = J b := by
  unfold x238K
  exact (x238K_5_frJ _ _ _ n0).trans (rfl)
/-! java/util/Arrays.fill -/
def x238S_5 (p : Nat → Nat) (v1 : Int32) (v3 : Int32) : Nat → Int32 → (Nat → Nat → Int32) → (Nat → Nat → Int32)
  | 0, v2, J => J
  | c + 1, v2, J => if v3 ≤ v2 then J
    else (x238S_5 p v1 v3 c (v2 + (Int32.ofInt 1)) (nt_u J (p 30) v2.toNatClampNeg v1))
theorem xt238S_5 {X : nt_X} {d : Nat} {M : nt_M} {o : Option Value × nt_M} {p : Nat → Nat} {v1 : Int32} {v3 : Int32} (hp : xs_P M p) (hv : xs_V M p) : ∀ (c : Nat) (v2 : Int32) (J : Nat → Nat → Int32), v3.toInt - v2.toInt ≤ c → nt_rn X d 238 (5, [(0, .ref (p 30)), (1, .int v1), (2, .int v2), (3, .int v3)], [], me_w M J) o → o = (none, me_w M (x238S_5 p v1 v3 c v2 J)) := by
  intro c
  induction c with
  | zero =>
    intro v2 J hc k
    have k := ly_revb 3 (c' := (if v3 ≤ v2 then 20 else 10, [(0, .ref (p 30)), (1, .int v1), (2, .int v2), (3, .int v3)], [], me_w M J)) rfl k
    have h7 : v3 ≤ v2 := lx_end hc
    rw [if_pos h7] at k
    have k := lz_rv rfl rfl k
    rw [k, x238S_5]
  | succ c ih =>
    intro v2 J hc k
    have k := ly_revb 3 (c' := (if v3 ≤ v2 then 20 else 10, [(0, .ref (p 30)), (1, .int v1), (2, .int v2), (3, .int v3)], [], me_w M J)) rfl k
    by_cases h7 : v3 ≤ v2
    · rw [if_pos h7] at k
      have k := lz_rv rfl rfl k
      rw [k, x238S_5, if_pos h7]
    · rw [if_neg h7] at k
      have k := ly_revb 3 (c' := (13, [(0, .ref (p 30)), (1, .int v1), (2, .int v2), (3, .int v3)], [.int v1, .int v2, .ref (p 30)], me_w M J)) rfl k
      have k := mx_iast (q := v2.toNatClampNeg) rfl rfl k
      have k : nt_rn X _ 238 (14, [(0, .ref (p 30)), (1, .int v1), (2, .int v2), (3, .int v3)], [], me_w M (nt_u J (p 30) v2.toNatClampNeg v1)) _ := k
      have k := ly_revb 2 (c' := (5, [(2, .int (v2 + (Int32.ofInt 1))), (0, .ref (p 30)), (1, .int v1), (3, .int v3)], [], me_w M (nt_u J (p 30) v2.toNatClampNeg v1))) rfl k
      have k := nt_rn_w (a := [(2, .int (v2 + (Int32.ofInt 1))), (0, .ref (p 30)), (1, .int v1), (3, .int v3)]) (b := [(0, .ref (p 30)), (1, .int v1), (2, .int (v2 + (Int32.ofInt 1))), (3, .int v3)]) ⟨rfl, rfl, rfl, rfl, trivial⟩ rfl k
      have k := ih (v2 + (Int32.ofInt 1)) (nt_u J (p 30) v2.toNatClampNeg v1) (lx_dec h7 hc) k
      rw [k, x238S_5, if_neg h7]
def x238S (p : Nat → Nat) (v1 : Int32) (J : Nat → Nat → Int32) : (Nat → Nat → Int32) := (x238S_5 p v1 (Int32.ofNat 4) ((Int32.ofNat 4).toNatClampNeg) (Int32.ofInt 0) J)
theorem xt238S {X : nt_X} {d : Nat} {M : nt_M} {o : Option Value × nt_M} {p : Nat → Nat} {v1 : Int32} {J : Nat → Nat → Int32} (hp : xs_P M p) (hv : xs_V M p) (k : nt_ev X d 238 [.ref (p 30), .int v1] (me_w M J) o) : o = (none, me_w M (x238S p v1 J)) := by
  have k : nt_rn X d 238 (0, [(0, .ref (p 30)), (1, .int v1)], [], me_w M J) o := k
  have k := ly_revb 3 (c' := (3, [(2, .int (Int32.ofInt 0)), (0, .ref (p 30)), (1, .int v1)], [.ref (p 30)], me_w M J)) rfl k
  have k := lz_len rfl (hp.2.2.1 30 (by omega)) k
  rw [show nt_l (me_w M J) (p 30) = 4 from hv.2.2.2] at k
  have k : nt_rn X _ 238 (4, [(2, .int (Int32.ofInt 0)), (0, .ref (p 30)), (1, .int v1)], [.int (Int32.ofNat 4)], me_w M J) _ := k
  have k := ly_revb 1 (c' := (5, [(3, .int (Int32.ofNat 4)), (2, .int (Int32.ofInt 0)), (0, .ref (p 30)), (1, .int v1)], [], me_w M J)) rfl k
  have k := nt_rn_w (a := [(3, .int (Int32.ofNat 4)), (2, .int (Int32.ofInt 0)), (0, .ref (p 30)), (1, .int v1)]) (b := [(0, .ref (p 30)), (1, .int v1), (2, .int (Int32.ofInt 0)), (3, .int (Int32.ofNat 4))]) ⟨rfl, rfl, rfl, rfl, trivial⟩ rfl k
  have k := xt238S_5 hp hv  ((Int32.ofNat 4).toNatClampNeg) (Int32.ofInt 0) J (lx_beg (by decide)) k
  rw [k, x238S]
theorem x238S_5_frJ {p : Nat → Nat} {v1 : Int32} {v3 : Int32} {b : Nat} : ∀ (c : Nat) (v2 : Int32) (J : Nat → Nat → Int32), b ≠ p 30 → x238S_5 p v1 v3 c v2 J b = J b := by
  intro c
  induction c with
  | zero =>
    intro v2 J n0
    rw [x238S_5]
    all_goals first | (dsimp only; exact (show J b = J b from rfl)) | exact (show J b = J b from rfl)
  | succ c ih =>
    intro v2 J n0
    rw [x238S_5]
    by_cases h : v3 ≤ v2
    · rw [if_pos h]
      all_goals first | (dsimp only; exact (show J b = J b from rfl)) | exact (show J b = J b from rfl)
    · rw [if_neg h]
      exact (ih _ _ n0).trans (mu_o n0)
theorem x238S_frJ {p : Nat → Nat} {v1 : Int32} {J : Nat → Nat → Int32} {b : Nat} (n0 : b ≠ p 30) : x238S p v1 J b = J b := by
  unfold x238S
  exact (x238S_5_frJ _ _ _ n0).trans (rfl)
/-! $Plans.look -/
def x12F_31 (p : Nat → Nat) : Nat → Int32 → (Nat → Nat → Int32) → (Nat → Nat → Int32)
  | 0, v2, J => J
  | c + 1, v2, J => if (J (p 32) 2) ≤ v2 then J
    else if (J (p 46) v2.toNatClampNeg) = 0 then if (J (p 44) v2.toNatClampNeg) ≤ 0 then (x12F_31 p c (v2 + (Int32.ofInt 1)) (nt_u (nt_u J (p 29) ((J (p 34) v2.toNatClampNeg).toNatClampNeg) ((J (p 29) ((J (p 34) v2.toNatClampNeg).toNatClampNeg)) + (Int32.ofInt 1))) (p 30) ((J (p 34) v2.toNatClampNeg).toNatClampNeg) ((J (p 30) ((J (p 34) v2.toNatClampNeg).toNatClampNeg)) + (Int32.ofInt 0))))
        else (x12F_31 p c (v2 + (Int32.ofInt 1)) (nt_u (nt_u J (p 29) ((J (p 34) v2.toNatClampNeg).toNatClampNeg) ((J (p 29) ((J (p 34) v2.toNatClampNeg).toNatClampNeg)) + (Int32.ofInt 1))) (p 30) ((J (p 34) v2.toNatClampNeg).toNatClampNeg) ((J (p 30) ((J (p 34) v2.toNatClampNeg).toNatClampNeg)) + (Int32.ofInt 1))))
      else (x12F_31 p c (v2 + (Int32.ofInt 1)) J)
theorem xt12F_31 {X : nt_X} {d : Nat} {M : nt_M} {o : Option Value × nt_M} {p : Nat → Nat} (hp : xs_P M p) (hn : xs_Q M (fun i => p (31 + i))) (hv : xs_V M p) : ∀ (c : Nat) (v2 : Int32) (v3 : Int32) (J : Nat → Nat → Int32), (J (p 32) 2).toInt - v2.toInt ≤ c → nt_rn X d 12 (31, [(0, .ref (p 28)), (1, .ref (p 31)), (2, .int v2), (3, .int v3)], [], me_w M J) o → o = (none, me_w M (x12F_31 p c v2 J)) := by
  intro c
  induction c with
  | zero =>
    intro v2 v3 J hc k
    have k := ly_revb 2 (c' := (33, [(0, .ref (p 28)), (1, .ref (p 31)), (2, .int v2), (3, .int v3)], [.ref (p 28), .int v2], me_w M J)) rfl k
    have k := lz_get (a := (p 28)) (g := 101) (M := me_w M J) (v := .ref (p 32)) rfl (nt_gfR rfl hv.2.1) k
    have k := lz_get (a := (p 32)) (g := 802) (M := me_w M J) (v := .int (J (p 32) 2)) rfl (congrArg Value.int (rfl)) k
    have k := ly_revb 1 (c' := (if (J (p 32) 2) ≤ v2 then 106 else 42, [(0, .ref (p 28)), (1, .ref (p 31)), (2, .int v2), (3, .int v3)], [], me_w M J)) rfl k
    have h39 : (J (p 32) 2) ≤ v2 := lx_end hc
    rw [if_pos h39] at k
    have k := lz_rv rfl rfl k
    rw [k, x12F_31]
  | succ c ih =>
    intro v2 v3 J hc k
    have k := ly_revb 2 (c' := (33, [(0, .ref (p 28)), (1, .ref (p 31)), (2, .int v2), (3, .int v3)], [.ref (p 28), .int v2], me_w M J)) rfl k
    have k := lz_get (a := (p 28)) (g := 101) (M := me_w M J) (v := .ref (p 32)) rfl (nt_gfR rfl hv.2.1) k
    have k := lz_get (a := (p 32)) (g := 802) (M := me_w M J) (v := .int (J (p 32) 2)) rfl (congrArg Value.int (rfl)) k
    have k := ly_revb 1 (c' := (if (J (p 32) 2) ≤ v2 then 106 else 42, [(0, .ref (p 28)), (1, .ref (p 31)), (2, .int v2), (3, .int v3)], [], me_w M J)) rfl k
    by_cases h39 : (J (p 32) 2) ≤ v2
    · rw [if_pos h39] at k
      have k := lz_rv rfl rfl k
      rw [k, x12F_31, if_pos h39]
    · rw [if_neg h39] at k
      have k := ly_revb 1 (c' := (43, [(0, .ref (p 28)), (1, .ref (p 31)), (2, .int v2), (3, .int v3)], [.ref (p 28)], me_w M J)) rfl k
      have k := lz_get (a := (p 28)) (g := 101) (M := me_w M J) (v := .ref (p 32)) rfl (nt_gfR rfl hv.2.1) k
      have k := lz_get (a := (p 32)) (g := 806) (M := me_w M J) (v := .ref (p 34)) rfl (nt_gfR rfl (hn.1 (1, 6, 3) (by decide))) k
      have k := ly_revb 1 (c' := (50, [(0, .ref (p 28)), (1, .ref (p 31)), (2, .int v2), (3, .int v3)], [.int v2, .ref (p 34)], me_w M J)) rfl k
      have k := mx_iald (v := J (p 34) v2.toNatClampNeg) rfl (hp.2.2.1 34 (by omega)) (rfl) k
      have k := ly_revb 2 (c' := (53, [(3, .int (J (p 34) v2.toNatClampNeg)), (0, .ref (p 28)), (1, .ref (p 31)), (2, .int v2)], [.ref (p 28)], me_w M J)) rfl k
      have k := lz_get (a := (p 28)) (g := 100) (M := me_w M J) (v := .ref (p 31)) rfl (nt_gfR rfl hv.1) k
      have k := lz_get (a := (p 31)) (g := 612) (M := me_w M J) (v := .ref (p 46)) rfl (nt_gfR rfl (hn.1 (0, 12, 15) (by decide))) k
      have k := ly_revb 1 (c' := (60, [(3, .int (J (p 34) v2.toNatClampNeg)), (0, .ref (p 28)), (1, .ref (p 31)), (2, .int v2)], [.int v2, .ref (p 46)], me_w M J)) rfl k
      have k := mx_bald (v := J (p 46) v2.toNatClampNeg) rfl (rfl) k
      have k := ly_revb 1 (c' := (if (J (p 46) v2.toNatClampNeg) = 0 then 64 else 100, [(3, .int (J (p 34) v2.toNatClampNeg)), (0, .ref (p 28)), (1, .ref (p 31)), (2, .int v2)], [], me_w M J)) rfl k
      by_cases h61 : (J (p 46) v2.toNatClampNeg) = 0
      · rw [if_pos h61] at k
        have k := ly_revb 1 (c' := (65, [(3, .int (J (p 34) v2.toNatClampNeg)), (0, .ref (p 28)), (1, .ref (p 31)), (2, .int v2)], [.ref (p 28)], me_w M J)) rfl k
        have k := lz_get (a := (p 28)) (g := 102) (M := me_w M J) (v := .ref (p 29)) rfl (nt_gfR rfl (hp.1 (28, 2, 29) (by decide))) k
        have k := ly_revb 2 (c' := (70, [(3, .int (J (p 34) v2.toNatClampNeg)), (0, .ref (p 28)), (1, .ref (p 31)), (2, .int v2)], [.int (J (p 34) v2.toNatClampNeg), .ref (p 29), .int (J (p 34) v2.toNatClampNeg), .ref (p 29)], me_w M J)) rfl k
        have k := mx_iald (v := J (p 29) ((J (p 34) v2.toNatClampNeg).toNatClampNeg)) rfl (hp.2.2.1 29 (by omega)) (rfl) k
        have k := ly_revb 2 (c' := (73, [(3, .int (J (p 34) v2.toNatClampNeg)), (0, .ref (p 28)), (1, .ref (p 31)), (2, .int v2)], [.int ((J (p 29) ((J (p 34) v2.toNatClampNeg).toNatClampNeg)) + (Int32.ofInt 1)), .int (J (p 34) v2.toNatClampNeg), .ref (p 29)], me_w M J)) rfl k
        have k := mx_iast (q := (J (p 34) v2.toNatClampNeg).toNatClampNeg) rfl rfl k
        have k : nt_rn X _ 12 (74, [(3, .int (J (p 34) v2.toNatClampNeg)), (0, .ref (p 28)), (1, .ref (p 31)), (2, .int v2)], [], me_w M (nt_u J (p 29) ((J (p 34) v2.toNatClampNeg).toNatClampNeg) ((J (p 29) ((J (p 34) v2.toNatClampNeg).toNatClampNeg)) + (Int32.ofInt 1)))) _ := k
        have k := ly_revb 1 (c' := (75, [(3, .int (J (p 34) v2.toNatClampNeg)), (0, .ref (p 28)), (1, .ref (p 31)), (2, .int v2)], [.ref (p 28)], me_w M (nt_u J (p 29) ((J (p 34) v2.toNatClampNeg).toNatClampNeg) ((J (p 29) ((J (p 34) v2.toNatClampNeg).toNatClampNeg)) + (Int32.ofInt 1))))) rfl k
        have k := lz_get (a := (p 28)) (g := 103) (M := me_w M (nt_u J (p 29) ((J (p 34) v2.toNatClampNeg).toNatClampNeg) ((J (p 29) ((J (p 34) v2.toNatClampNeg).toNatClampNeg)) + (Int32.ofInt 1)))) (v := .ref (p 30)) rfl (nt_gfR rfl (hp.1 (28, 3, 30) (by decide))) k
        have k := ly_revb 2 (c' := (80, [(3, .int (J (p 34) v2.toNatClampNeg)), (0, .ref (p 28)), (1, .ref (p 31)), (2, .int v2)], [.int (J (p 34) v2.toNatClampNeg), .ref (p 30), .int (J (p 34) v2.toNatClampNeg), .ref (p 30)], me_w M (nt_u J (p 29) ((J (p 34) v2.toNatClampNeg).toNatClampNeg) ((J (p 29) ((J (p 34) v2.toNatClampNeg).toNatClampNeg)) + (Int32.ofInt 1))))) rfl k
        have k := mx_iald (v := J (p 30) ((J (p 34) v2.toNatClampNeg).toNatClampNeg)) rfl (hp.2.2.1 30 (by omega)) (mu_j (hp.2.1 30 29 (by omega) (by omega) (by decide))) k
        have k := ly_revb 1 (c' := (82, [(3, .int (J (p 34) v2.toNatClampNeg)), (0, .ref (p 28)), (1, .ref (p 31)), (2, .int v2)], [.ref (p 28), .int (J (p 30) ((J (p 34) v2.toNatClampNeg).toNatClampNeg)), .int (J (p 34) v2.toNatClampNeg), .ref (p 30)], me_w M (nt_u J (p 29) ((J (p 34) v2.toNatClampNeg).toNatClampNeg) ((J (p 29) ((J (p 34) v2.toNatClampNeg).toNatClampNeg)) + (Int32.ofInt 1))))) rfl k
        have k := lz_get (a := (p 28)) (g := 100) (M := me_w M (nt_u J (p 29) ((J (p 34) v2.toNatClampNeg).toNatClampNeg) ((J (p 29) ((J (p 34) v2.toNatClampNeg).toNatClampNeg)) + (Int32.ofInt 1)))) (v := .ref (p 31)) rfl (nt_gfR rfl hv.1) k
        have k := lz_get (a := (p 31)) (g := 610) (M := me_w M (nt_u J (p 29) ((J (p 34) v2.toNatClampNeg).toNatClampNeg) ((J (p 29) ((J (p 34) v2.toNatClampNeg).toNatClampNeg)) + (Int32.ofInt 1)))) (v := .ref (p 44)) rfl (nt_gfR rfl (hn.1 (0, 10, 13) (by decide))) k
        have k := ly_revb 1 (c' := (89, [(3, .int (J (p 34) v2.toNatClampNeg)), (0, .ref (p 28)), (1, .ref (p 31)), (2, .int v2)], [.int v2, .ref (p 44), .int (J (p 30) ((J (p 34) v2.toNatClampNeg).toNatClampNeg)), .int (J (p 34) v2.toNatClampNeg), .ref (p 30)], me_w M (nt_u J (p 29) ((J (p 34) v2.toNatClampNeg).toNatClampNeg) ((J (p 29) ((J (p 34) v2.toNatClampNeg).toNatClampNeg)) + (Int32.ofInt 1))))) rfl k
        have k := mx_iald (v := J (p 44) v2.toNatClampNeg) rfl (hp.2.2.1 44 (by omega)) (mu_j (hp.2.1 44 29 (by omega) (by omega) (by decide))) k
        have k := ly_revb 1 (c' := (if (J (p 44) v2.toNatClampNeg) ≤ 0 then 97 else 93, [(3, .int (J (p 34) v2.toNatClampNeg)), (0, .ref (p 28)), (1, .ref (p 31)), (2, .int v2)], [.int (J (p 30) ((J (p 34) v2.toNatClampNeg).toNatClampNeg)), .int (J (p 34) v2.toNatClampNeg), .ref (p 30)], me_w M (nt_u J (p 29) ((J (p 34) v2.toNatClampNeg).toNatClampNeg) ((J (p 29) ((J (p 34) v2.toNatClampNeg).toNatClampNeg)) + (Int32.ofInt 1))))) rfl k
        by_cases h90 : (J (p 44) v2.toNatClampNeg) ≤ 0
        · rw [if_pos h90] at k
          have k := ly_revb 2 (c' := (99, [(3, .int (J (p 34) v2.toNatClampNeg)), (0, .ref (p 28)), (1, .ref (p 31)), (2, .int v2)], [.int ((J (p 30) ((J (p 34) v2.toNatClampNeg).toNatClampNeg)) + (Int32.ofInt 0)), .int (J (p 34) v2.toNatClampNeg), .ref (p 30)], me_w M (nt_u J (p 29) ((J (p 34) v2.toNatClampNeg).toNatClampNeg) ((J (p 29) ((J (p 34) v2.toNatClampNeg).toNatClampNeg)) + (Int32.ofInt 1))))) rfl k
          have k := mx_iast (q := (J (p 34) v2.toNatClampNeg).toNatClampNeg) rfl rfl k
          have k : nt_rn X _ 12 (100, [(3, .int (J (p 34) v2.toNatClampNeg)), (0, .ref (p 28)), (1, .ref (p 31)), (2, .int v2)], [], me_w M (nt_u (nt_u J (p 29) ((J (p 34) v2.toNatClampNeg).toNatClampNeg) ((J (p 29) ((J (p 34) v2.toNatClampNeg).toNatClampNeg)) + (Int32.ofInt 1))) (p 30) ((J (p 34) v2.toNatClampNeg).toNatClampNeg) ((J (p 30) ((J (p 34) v2.toNatClampNeg).toNatClampNeg)) + (Int32.ofInt 0)))) _ := k
          have k := ly_revb 2 (c' := (31, [(2, .int (v2 + (Int32.ofInt 1))), (3, .int (J (p 34) v2.toNatClampNeg)), (0, .ref (p 28)), (1, .ref (p 31))], [], me_w M (nt_u (nt_u J (p 29) ((J (p 34) v2.toNatClampNeg).toNatClampNeg) ((J (p 29) ((J (p 34) v2.toNatClampNeg).toNatClampNeg)) + (Int32.ofInt 1))) (p 30) ((J (p 34) v2.toNatClampNeg).toNatClampNeg) ((J (p 30) ((J (p 34) v2.toNatClampNeg).toNatClampNeg)) + (Int32.ofInt 0))))) rfl k
          have k := nt_rn_w (a := [(2, .int (v2 + (Int32.ofInt 1))), (3, .int (J (p 34) v2.toNatClampNeg)), (0, .ref (p 28)), (1, .ref (p 31))]) (b := [(0, .ref (p 28)), (1, .ref (p 31)), (2, .int (v2 + (Int32.ofInt 1))), (3, .int (J (p 34) v2.toNatClampNeg))]) ⟨rfl, rfl, rfl, rfl, trivial⟩ rfl k
          have k := ih (v2 + (Int32.ofInt 1)) (J (p 34) v2.toNatClampNeg) (nt_u (nt_u J (p 29) ((J (p 34) v2.toNatClampNeg).toNatClampNeg) ((J (p 29) ((J (p 34) v2.toNatClampNeg).toNatClampNeg)) + (Int32.ofInt 1))) (p 30) ((J (p 34) v2.toNatClampNeg).toNatClampNeg) ((J (p 30) ((J (p 34) v2.toNatClampNeg).toNatClampNeg)) + (Int32.ofInt 0))) (by rw [show (nt_u (nt_u J (p 29) ((J (p 34) v2.toNatClampNeg).toNatClampNeg) ((J (p 29) ((J (p 34) v2.toNatClampNeg).toNatClampNeg)) + (Int32.ofInt 1))) (p 30) ((J (p 34) v2.toNatClampNeg).toNatClampNeg) ((J (p 30) ((J (p 34) v2.toNatClampNeg).toNatClampNeg)) + (Int32.ofInt 0))) (p 32) 2 = J (p 32) 2 from (mu_j (hp.2.1 32 30 (by omega) (by omega) (by decide))).trans (mu_j (hp.2.1 32 29 (by omega) (by omega) (by decide)))]; exact lx_dec h39 hc) k
          rw [k, x12F_31, if_neg h39, if_pos h61, if_pos h90]
        · rw [if_neg h90] at k
          have k := ly_revb 3 (c' := (99, [(3, .int (J (p 34) v2.toNatClampNeg)), (0, .ref (p 28)), (1, .ref (p 31)), (2, .int v2)], [.int ((J (p 30) ((J (p 34) v2.toNatClampNeg).toNatClampNeg)) + (Int32.ofInt 1)), .int (J (p 34) v2.toNatClampNeg), .ref (p 30)], me_w M (nt_u J (p 29) ((J (p 34) v2.toNatClampNeg).toNatClampNeg) ((J (p 29) ((J (p 34) v2.toNatClampNeg).toNatClampNeg)) + (Int32.ofInt 1))))) rfl k
          have k := mx_iast (q := (J (p 34) v2.toNatClampNeg).toNatClampNeg) rfl rfl k
          have k : nt_rn X _ 12 (100, [(3, .int (J (p 34) v2.toNatClampNeg)), (0, .ref (p 28)), (1, .ref (p 31)), (2, .int v2)], [], me_w M (nt_u (nt_u J (p 29) ((J (p 34) v2.toNatClampNeg).toNatClampNeg) ((J (p 29) ((J (p 34) v2.toNatClampNeg).toNatClampNeg)) + (Int32.ofInt 1))) (p 30) ((J (p 34) v2.toNatClampNeg).toNatClampNeg) ((J (p 30) ((J (p 34) v2.toNatClampNeg).toNatClampNeg)) + (Int32.ofInt 1)))) _ := k
          have k := ly_revb 2 (c' := (31, [(2, .int (v2 + (Int32.ofInt 1))), (3, .int (J (p 34) v2.toNatClampNeg)), (0, .ref (p 28)), (1, .ref (p 31))], [], me_w M (nt_u (nt_u J (p 29) ((J (p 34) v2.toNatClampNeg).toNatClampNeg) ((J (p 29) ((J (p 34) v2.toNatClampNeg).toNatClampNeg)) + (Int32.ofInt 1))) (p 30) ((J (p 34) v2.toNatClampNeg).toNatClampNeg) ((J (p 30) ((J (p 34) v2.toNatClampNeg).toNatClampNeg)) + (Int32.ofInt 1))))) rfl k
          have k := nt_rn_w (a := [(2, .int (v2 + (Int32.ofInt 1))), (3, .int (J (p 34) v2.toNatClampNeg)), (0, .ref (p 28)), (1, .ref (p 31))]) (b := [(0, .ref (p 28)), (1, .ref (p 31)), (2, .int (v2 + (Int32.ofInt 1))), (3, .int (J (p 34) v2.toNatClampNeg))]) ⟨rfl, rfl, rfl, rfl, trivial⟩ rfl k
          have k := ih (v2 + (Int32.ofInt 1)) (J (p 34) v2.toNatClampNeg) (nt_u (nt_u J (p 29) ((J (p 34) v2.toNatClampNeg).toNatClampNeg) ((J (p 29) ((J (p 34) v2.toNatClampNeg).toNatClampNeg)) + (Int32.ofInt 1))) (p 30) ((J (p 34) v2.toNatClampNeg).toNatClampNeg) ((J (p 30) ((J (p 34) v2.toNatClampNeg).toNatClampNeg)) + (Int32.ofInt 1))) (by rw [show (nt_u (nt_u J (p 29) ((J (p 34) v2.toNatClampNeg).toNatClampNeg) ((J (p 29) ((J (p 34) v2.toNatClampNeg).toNatClampNeg)) + (Int32.ofInt 1))) (p 30) ((J (p 34) v2.toNatClampNeg).toNatClampNeg) ((J (p 30) ((J (p 34) v2.toNatClampNeg).toNatClampNeg)) + (Int32.ofInt 1))) (p 32) 2 = J (p 32) 2 from (mu_j (hp.2.1 32 30 (by omega) (by omega) (by decide))).trans (mu_j (hp.2.1 32 29 (by omega) (by omega) (by decide)))]; exact lx_dec h39 hc) k
          rw [k, x12F_31, if_neg h39, if_pos h61, if_neg h90]
      · rw [if_neg h61] at k
        have k := ly_revb 2 (c' := (31, [(2, .int (v2 + (Int32.ofInt 1))), (3, .int (J (p 34) v2.toNatClampNeg)), (0, .ref (p 28)), (1, .ref (p 31))], [], me_w M J)) rfl k
        have k := nt_rn_w (a := [(2, .int (v2 + (Int32.ofInt 1))), (3, .int (J (p 34) v2.toNatClampNeg)), (0, .ref (p 28)), (1, .ref (p 31))]) (b := [(0, .ref (p 28)), (1, .ref (p 31)), (2, .int (v2 + (Int32.ofInt 1))), (3, .int (J (p 34) v2.toNatClampNeg))]) ⟨rfl, rfl, rfl, rfl, trivial⟩ rfl k
        have k := ih (v2 + (Int32.ofInt 1)) (J (p 34) v2.toNatClampNeg) J (lx_dec h39 hc) k
        rw [k, x12F_31, if_neg h39, if_neg h61]
def x12F (p : Nat → Nat) (J : Nat → Nat → Int32) : (Nat → Nat → Int32) := (x12F_31 p (((x238S p (Int32.ofInt 0) (x238K p (Int32.ofInt 0) J)) (p 32) 2).toNatClampNeg) (Int32.ofInt 0) (x238S p (Int32.ofInt 0) (x238K p (Int32.ofInt 0) J)))
theorem xt12F {X : nt_X} {d : Nat} {M : nt_M} {o : Option Value × nt_M} {p : Nat → Nat} {J : Nat → Nat → Int32} (hp : xs_P M p) (hn : xs_Q M (fun i => p (31 + i))) (hv : xs_V M p) (k : nt_rn X d 12 (13, [(0, .ref (p 28)), (1, .ref (p 31))], [], me_w M J) o) : o = (none, me_w M (x12F p J)) := by
  have k : nt_rn X d 12 (13, [(0, .ref (p 28)), (1, .ref (p 31))], [], me_w M J) o := k
  have k := ly_revb 1 (c' := (14, [(0, .ref (p 28)), (1, .ref (p 31))], [.ref (p 28)], me_w M J)) rfl k
  have k := lz_get (a := (p 28)) (g := 102) (M := me_w M J) (v := .ref (p 29)) rfl (nt_gfR rfl (hp.1 (28, 2, 29) (by decide))) k
  have k := ly_revb 1 (c' := (18, [(0, .ref (p 28)), (1, .ref (p 31))], [.int (Int32.ofInt 0), .ref (p 29)], me_w M J)) rfl k
  obtain ⟨d1, o1, ed, kc, k⟩ := lz_c (g := 238) (q := 0) (vs := [.ref (p 29), .int (Int32.ofInt 0)]) (rest := []) rfl rfl (by decide) (Or.inl ⟨_, rfl, rfl⟩) rfl k
  have e1 := xt238K hp hv kc
  subst e1
  have k : nt_rn X _ 12 (21, [(0, .ref (p 28)), (1, .ref (p 31))], [], me_w M (x238K p (Int32.ofInt 0) J)) _ := k
  have k := ly_revb 1 (c' := (22, [(0, .ref (p 28)), (1, .ref (p 31))], [.ref (p 28)], me_w M (x238K p (Int32.ofInt 0) J))) rfl k
  have k := lz_get (a := (p 28)) (g := 103) (M := me_w M (x238K p (Int32.ofInt 0) J)) (v := .ref (p 30)) rfl (nt_gfR rfl (hp.1 (28, 3, 30) (by decide))) k
  have k := ly_revb 1 (c' := (26, [(0, .ref (p 28)), (1, .ref (p 31))], [.int (Int32.ofInt 0), .ref (p 30)], me_w M (x238K p (Int32.ofInt 0) J))) rfl k
  obtain ⟨d1, o1, ed, kc, k⟩ := lz_c (g := 238) (q := 0) (vs := [.ref (p 30), .int (Int32.ofInt 0)]) (rest := []) rfl rfl (by decide) (Or.inl ⟨_, rfl, rfl⟩) rfl k
  have e1 := xt238S hp hv kc
  subst e1
  have k : nt_rn X _ 12 (29, [(0, .ref (p 28)), (1, .ref (p 31))], [], me_w M (x238S p (Int32.ofInt 0) (x238K p (Int32.ofInt 0) J))) _ := k
  have k := ly_revb 2 (c' := (31, [(2, .int (Int32.ofInt 0)), (0, .ref (p 28)), (1, .ref (p 31))], [], me_w M (x238S p (Int32.ofInt 0) (x238K p (Int32.ofInt 0) J)))) rfl k
  have k := nt_rn_w (a := [(2, .int (Int32.ofInt 0)), (0, .ref (p 28)), (1, .ref (p 31))]) (b := [(0, .ref (p 28)), (1, .ref (p 31)), (2, .int (Int32.ofInt 0)), (3, .int (Int32.ofInt 0))]) ⟨rfl, rfl, rfl, trivial⟩ rfl k
  have k := xt12F_31 hp hn hv  (((x238S p (Int32.ofInt 0) (x238K p (Int32.ofInt 0) J)) (p 32) 2).toNatClampNeg) (Int32.ofInt 0) (Int32.ofInt 0) (x238S p (Int32.ofInt 0) (x238K p (Int32.ofInt 0) J)) (lx_beg (by decide)) k
  rw [k, x12F]
theorem x12F_31_frJ {p : Nat → Nat} {b : Nat} : ∀ (c : Nat) (v2 : Int32) (J : Nat → Nat → Int32), b ≠ p 29 → b ≠ p 30 → x12F_31 p c v2 J b = J b := by
  intro c
  induction c with
  | zero =>
    intro v2 J n0 n1
    rw [x12F_31]
    all_goals first | (dsimp only; exact (show J b = J b from rfl)) | exact (show J b = J b from rfl)
  | succ c ih =>
    intro v2 J n0 n1
    rw [x12F_31]
    by_cases h : (J (p 32) 2) ≤ v2
    · rw [if_pos h]
      all_goals first | (dsimp only; exact (show J b = J b from rfl)) | exact (show J b = J b from rfl)
    · rw [if_neg h]
      by_cases h : (J (p 46) v2.toNatClampNeg) = 0
      · rw [if_pos h]
        by_cases h : (J (p 44) v2.toNatClampNeg) ≤ 0
        · rw [if_pos h]
          exact (ih _ _ n0 n1).trans ((mu_o n1).trans (mu_o n0))
        · rw [if_neg h]
          exact (ih _ _ n0 n1).trans ((mu_o n1).trans (mu_o n0))
      · rw [if_neg h]
        exact (ih _ _ n0 n1).trans (rfl)
theorem x12F_frJ {p : Nat → Nat} {J : Nat → Nat → Int32} {b : Nat} (n0 : b ≠ p 29) (n1 : b ≠ p 30) : x12F p J b = J b := by
  unfold x12F
  exact (x12F_31_frJ _ _ _ n0 n1).trans ((x238S_frJ  n1).trans (x238K_frJ  n0))
/-! $Plans.payOfVoyages -/
/-! $Plans.underWay -/
/-! $Plans.wanted -/
/-! $Plans.isOnTwo -/
/-! $Plans.failure -/
/-! $Plans.failingDay -/
/-! $Plans.bestVoyages -/
/-! $Plans.payOfShips -/
def x25_4 (p : Nat → Nat) (v1 : Int32) (J : Nat → Nat → Int32) : Nat → Int32 → Int32 → Int32
  | 0, v2, v3 => v2
  | c + 1, v2, v3 => if (J (p 32) 3) ≤ v3 then v2
    else if (x14 v1 (J (p 37) v3.toNatClampNeg)) = 0 then (x25_4 p v1 J c v2 (v3 + (Int32.ofInt 1)))
      else if (J (p 38) v3.toNatClampNeg) < (J (p 31) 2) then (x25_4 p v1 J c v2 (v3 + (Int32.ofInt 1)))
        else (x25_4 p v1 J c (v2 + (J (p 40) v3.toNatClampNeg)) (v3 + (Int32.ofInt 1)))
theorem xt25_4 {X : nt_X} {d : Nat} {M : nt_M} {o : Option Value × nt_M} {p : Nat → Nat} {v1 : Int32} {J : Nat → Nat → Int32} (hp : xs_P M p) (hn : xs_Q M (fun i => p (31 + i))) (hv : xs_V M p) : ∀ (c : Nat) (v2 : Int32) (v3 : Int32), (J (p 32) 3).toInt - v3.toInt ≤ c → nt_rn X d 25 (4, [(0, .ref (p 28)), (1, .int v1), (2, .int v2), (3, .int v3)], [], me_w M J) o → o = (some (.int (x25_4 p v1 J c v2 v3)), me_w M J) := by
  intro c
  induction c with
  | zero =>
    intro v2 v3 hc k
    have k := ly_revb 2 (c' := (6, [(0, .ref (p 28)), (1, .int v1), (2, .int v2), (3, .int v3)], [.ref (p 28), .int v3], me_w M J)) rfl k
    have k := lz_get (a := (p 28)) (g := 101) (M := me_w M J) (v := .ref (p 32)) rfl (nt_gfR rfl hv.2.1) k
    have k := lz_get (a := (p 32)) (g := 803) (M := me_w M J) (v := .int (J (p 32) 3)) rfl (congrArg Value.int (rfl)) k
    have k := ly_revb 1 (c' := (if (J (p 32) 3) ≤ v3 then 68 else 15, [(0, .ref (p 28)), (1, .int v1), (2, .int v2), (3, .int v3)], [], me_w M J)) rfl k
    have h12 : (J (p 32) 3) ≤ v3 := lx_end hc
    rw [if_pos h12] at k
    have k := ly_revb 1 (c' := (69, [(0, .ref (p 28)), (1, .int v1), (2, .int v2), (3, .int v3)], [.int v2], me_w M J)) rfl k
    have k := lz_ri rfl (by decide) k
    rw [k, x25_4]
  | succ c ih =>
    intro v2 v3 hc k
    have k := ly_revb 2 (c' := (6, [(0, .ref (p 28)), (1, .int v1), (2, .int v2), (3, .int v3)], [.ref (p 28), .int v3], me_w M J)) rfl k
    have k := lz_get (a := (p 28)) (g := 101) (M := me_w M J) (v := .ref (p 32)) rfl (nt_gfR rfl hv.2.1) k
    have k := lz_get (a := (p 32)) (g := 803) (M := me_w M J) (v := .int (J (p 32) 3)) rfl (congrArg Value.int (rfl)) k
    have k := ly_revb 1 (c' := (if (J (p 32) 3) ≤ v3 then 68 else 15, [(0, .ref (p 28)), (1, .int v1), (2, .int v2), (3, .int v3)], [], me_w M J)) rfl k
    by_cases h12 : (J (p 32) 3) ≤ v3
    · rw [if_pos h12] at k
      have k := ly_revb 1 (c' := (69, [(0, .ref (p 28)), (1, .int v1), (2, .int v2), (3, .int v3)], [.int v2], me_w M J)) rfl k
      have k := lz_ri rfl (by decide) k
      rw [k, x25_4, if_pos h12]
    · rw [if_neg h12] at k
      have k := ly_revb 2 (c' := (17, [(0, .ref (p 28)), (1, .int v1), (2, .int v2), (3, .int v3)], [.ref (p 28), .int v1], me_w M J)) rfl k
      have k := lz_get (a := (p 28)) (g := 101) (M := me_w M J) (v := .ref (p 32)) rfl (nt_gfR rfl hv.2.1) k
      have k := lz_get (a := (p 32)) (g := 809) (M := me_w M J) (v := .ref (p 37)) rfl (nt_gfR rfl (hn.1 (1, 9, 6) (by decide))) k
      have k := ly_revb 1 (c' := (24, [(0, .ref (p 28)), (1, .int v1), (2, .int v2), (3, .int v3)], [.int v3, .ref (p 37), .int v1], me_w M J)) rfl k
      have k := mx_iald (v := J (p 37) v3.toNatClampNeg) rfl (hp.2.2.1 37 (by omega)) (rfl) k
      obtain ⟨d1, o1, ed, kc, k⟩ := lz_c (g := 14) (q := 0) (vs := [.int v1, .int (J (p 37) v3.toNatClampNeg)]) (rest := []) rfl rfl (by decide) (Or.inl ⟨_, rfl, rfl⟩) rfl k
      have e1 := xt14  kc
      subst e1
      have k : nt_rn X _ 25 (28, [(0, .ref (p 28)), (1, .int v1), (2, .int v2), (3, .int v3)], [.int (x14 v1 (J (p 37) v3.toNatClampNeg))], me_w M J) _ := k
      have k := ly_revb 1 (c' := (if (x14 v1 (J (p 37) v3.toNatClampNeg)) = 0 then 62 else 31, [(0, .ref (p 28)), (1, .int v1), (2, .int v2), (3, .int v3)], [], me_w M J)) rfl k
      by_cases h28 : (x14 v1 (J (p 37) v3.toNatClampNeg)) = 0
      · rw [if_pos h28] at k
        have k := ly_revb 2 (c' := (4, [(3, .int (v3 + (Int32.ofInt 1))), (0, .ref (p 28)), (1, .int v1), (2, .int v2)], [], me_w M J)) rfl k
        have k := nt_rn_w (a := [(3, .int (v3 + (Int32.ofInt 1))), (0, .ref (p 28)), (1, .int v1), (2, .int v2)]) (b := [(0, .ref (p 28)), (1, .int v1), (2, .int v2), (3, .int (v3 + (Int32.ofInt 1)))]) ⟨rfl, rfl, rfl, rfl, trivial⟩ rfl k
        have k := ih v2 (v3 + (Int32.ofInt 1)) (lx_dec h12 hc) k
        rw [k, x25_4, if_neg h12, if_pos h28]
      · rw [if_neg h28] at k
        have k := ly_revb 1 (c' := (32, [(0, .ref (p 28)), (1, .int v1), (2, .int v2), (3, .int v3)], [.ref (p 28)], me_w M J)) rfl k
        have k := lz_get (a := (p 28)) (g := 101) (M := me_w M J) (v := .ref (p 32)) rfl (nt_gfR rfl hv.2.1) k
        have k := lz_get (a := (p 32)) (g := 810) (M := me_w M J) (v := .ref (p 38)) rfl (nt_gfR rfl (hn.1 (1, 10, 7) (by decide))) k
        have k := ly_revb 1 (c' := (39, [(0, .ref (p 28)), (1, .int v1), (2, .int v2), (3, .int v3)], [.int v3, .ref (p 38)], me_w M J)) rfl k
        have k := mx_iald (v := J (p 38) v3.toNatClampNeg) rfl (hp.2.2.1 38 (by omega)) (rfl) k
        have k := ly_revb 1 (c' := (41, [(0, .ref (p 28)), (1, .int v1), (2, .int v2), (3, .int v3)], [.ref (p 28), .int (J (p 38) v3.toNatClampNeg)], me_w M J)) rfl k
        have k := lz_get (a := (p 28)) (g := 100) (M := me_w M J) (v := .ref (p 31)) rfl (nt_gfR rfl hv.1) k
        have k := lz_get (a := (p 31)) (g := 602) (M := me_w M J) (v := .int (J (p 31) 2)) rfl (congrArg Value.int (rfl)) k
        have k := ly_revb 1 (c' := (if (J (p 38) v3.toNatClampNeg) < (J (p 31) 2) then 62 else 50, [(0, .ref (p 28)), (1, .int v1), (2, .int v2), (3, .int v3)], [], me_w M J)) rfl k
        by_cases h47 : (J (p 38) v3.toNatClampNeg) < (J (p 31) 2)
        · rw [if_pos h47] at k
          have k := ly_revb 2 (c' := (4, [(3, .int (v3 + (Int32.ofInt 1))), (0, .ref (p 28)), (1, .int v1), (2, .int v2)], [], me_w M J)) rfl k
          have k := nt_rn_w (a := [(3, .int (v3 + (Int32.ofInt 1))), (0, .ref (p 28)), (1, .int v1), (2, .int v2)]) (b := [(0, .ref (p 28)), (1, .int v1), (2, .int v2), (3, .int (v3 + (Int32.ofInt 1)))]) ⟨rfl, rfl, rfl, rfl, trivial⟩ rfl k
          have k := ih v2 (v3 + (Int32.ofInt 1)) (lx_dec h12 hc) k
          rw [k, x25_4, if_neg h12, if_neg h28, if_pos h47]
        · rw [if_neg h47] at k
          have k := ly_revb 2 (c' := (52, [(0, .ref (p 28)), (1, .int v1), (2, .int v2), (3, .int v3)], [.ref (p 28), .int v2], me_w M J)) rfl k
          have k := lz_get (a := (p 28)) (g := 101) (M := me_w M J) (v := .ref (p 32)) rfl (nt_gfR rfl hv.2.1) k
          have k := lz_get (a := (p 32)) (g := 812) (M := me_w M J) (v := .ref (p 40)) rfl (nt_gfR rfl (hn.1 (1, 12, 9) (by decide))) k
          have k := ly_revb 1 (c' := (59, [(0, .ref (p 28)), (1, .int v1), (2, .int v2), (3, .int v3)], [.int v3, .ref (p 40), .int v2], me_w M J)) rfl k
          have k := mx_iald (v := J (p 40) v3.toNatClampNeg) rfl (hp.2.2.1 40 (by omega)) (rfl) k
          have k := ly_revb 4 (c' := (4, [(3, .int (v3 + (Int32.ofInt 1))), (2, .int (v2 + (J (p 40) v3.toNatClampNeg))), (0, .ref (p 28)), (1, .int v1)], [], me_w M J)) rfl k
          have k := nt_rn_w (a := [(3, .int (v3 + (Int32.ofInt 1))), (2, .int (v2 + (J (p 40) v3.toNatClampNeg))), (0, .ref (p 28)), (1, .int v1)]) (b := [(0, .ref (p 28)), (1, .int v1), (2, .int (v2 + (J (p 40) v3.toNatClampNeg))), (3, .int (v3 + (Int32.ofInt 1)))]) ⟨rfl, rfl, rfl, rfl, trivial⟩ rfl k
          have k := ih (v2 + (J (p 40) v3.toNatClampNeg)) (v3 + (Int32.ofInt 1)) (lx_dec h12 hc) k
          rw [k, x25_4, if_neg h12, if_neg h28, if_neg h47]
def x25 (p : Nat → Nat) (v1 : Int32) (J : Nat → Nat → Int32) : Int32 := (x25_4 p v1 J ((J (p 32) 3).toNatClampNeg) (Int32.ofInt 0) (Int32.ofInt 0))
theorem xt25 {X : nt_X} {d : Nat} {M : nt_M} {o : Option Value × nt_M} {p : Nat → Nat} {v1 : Int32} {J : Nat → Nat → Int32} (hp : xs_P M p) (hn : xs_Q M (fun i => p (31 + i))) (hv : xs_V M p) (k : nt_ev X d 25 [.ref (p 28), .int v1] (me_w M J) o) : o = (some (.int (x25 p v1 J)), me_w M J) := by
  have k : nt_rn X d 25 (0, [(0, .ref (p 28)), (1, .int v1)], [], me_w M J) o := k
  have k := ly_revb 4 (c' := (4, [(3, .int (Int32.ofInt 0)), (2, .int (Int32.ofInt 0)), (0, .ref (p 28)), (1, .int v1)], [], me_w M J)) rfl k
  have k := nt_rn_w (a := [(3, .int (Int32.ofInt 0)), (2, .int (Int32.ofInt 0)), (0, .ref (p 28)), (1, .int v1)]) (b := [(0, .ref (p 28)), (1, .int v1), (2, .int (Int32.ofInt 0)), (3, .int (Int32.ofInt 0))]) ⟨rfl, rfl, rfl, rfl, trivial⟩ rfl k
  have k := xt25_4 hp hn hv  ((J (p 32) 3).toNatClampNeg) (Int32.ofInt 0) (Int32.ofInt 0) (lx_beg (by decide)) k
  rw [k, x25]
/-! $Plans.canBeWhole -/
def x26_23 (p : Nat → Nat) (v1 : Int32) (v2 : Int32) (J : Nat → Nat → Int32) : Nat → Int32 → Int32 → Int32
  | 0, v3, v4 => v3
  | c + 1, v3, v4 => if (J (p 32) 1) ≤ v4 then v3
    else if (x14 v1 v4) = 0 then (x26_23 p v1 v2 J c (v3 - (Int32.ofInt 0)) (v4 + (Int32.ofInt 1)))
      else (x26_23 p v1 v2 J c (v3 - (x87 (fun i => p (31 + i)) v4 v2 J)) (v4 + (Int32.ofInt 1)))
theorem xt26_23 {X : nt_X} {d : Nat} {M : nt_M} {o : Option Value × nt_M} {p : Nat → Nat} {v1 : Int32} {v2 : Int32} {J : Nat → Nat → Int32} (hp : xs_P M p) (hn : xs_Q M (fun i => p (31 + i))) (hv : xs_V M p) : ∀ (c : Nat) (v3 : Int32) (v4 : Int32), (J (p 32) 1).toInt - v4.toInt ≤ c → nt_rn X d 26 (23, [(0, .ref (p 28)), (1, .int v1), (2, .int v2), (3, .int v3), (4, .int v4)], [], me_w M J) o → ∃ (w4 : Int32), nt_rn X d 26 (67, [(0, .ref (p 28)), (1, .int v1), (2, .int v2), (3, .int (x26_23 p v1 v2 J c v3 v4)), (4, .int w4)], [], me_w M J) o := by
  intro c
  induction c with
  | zero =>
    intro v3 v4 hc k
    have k := ly_revb 2 (c' := (26, [(0, .ref (p 28)), (1, .int v1), (2, .int v2), (3, .int v3), (4, .int v4)], [.ref (p 28), .int v4], me_w M J)) rfl k
    have k := lz_get (a := (p 28)) (g := 101) (M := me_w M J) (v := .ref (p 32)) rfl (nt_gfR rfl hv.2.1) k
    have k := lz_get (a := (p 32)) (g := 801) (M := me_w M J) (v := .int (J (p 32) 1)) rfl (congrArg Value.int (rfl)) k
    have k := ly_revb 1 (c' := (if (J (p 32) 1) ≤ v4 then 67 else 35, [(0, .ref (p 28)), (1, .int v1), (2, .int v2), (3, .int v3), (4, .int v4)], [], me_w M J)) rfl k
    have h32 : (J (p 32) 1) ≤ v4 := lx_end hc
    rw [if_pos h32] at k
    have k := nt_rn_w (a := [(0, .ref (p 28)), (1, .int v1), (2, .int v2), (3, .int v3), (4, .int v4)]) (b := [(0, .ref (p 28)), (1, .int v1), (2, .int v2), (3, .int v3), (4, .int v4)]) ⟨rfl, rfl, rfl, rfl, rfl, trivial⟩ rfl k
    rw [x26_23]
    exact ⟨_, k⟩
  | succ c ih =>
    intro v3 v4 hc k
    have k := ly_revb 2 (c' := (26, [(0, .ref (p 28)), (1, .int v1), (2, .int v2), (3, .int v3), (4, .int v4)], [.ref (p 28), .int v4], me_w M J)) rfl k
    have k := lz_get (a := (p 28)) (g := 101) (M := me_w M J) (v := .ref (p 32)) rfl (nt_gfR rfl hv.2.1) k
    have k := lz_get (a := (p 32)) (g := 801) (M := me_w M J) (v := .int (J (p 32) 1)) rfl (congrArg Value.int (rfl)) k
    have k := ly_revb 1 (c' := (if (J (p 32) 1) ≤ v4 then 67 else 35, [(0, .ref (p 28)), (1, .int v1), (2, .int v2), (3, .int v3), (4, .int v4)], [], me_w M J)) rfl k
    by_cases h32 : (J (p 32) 1) ≤ v4
    · rw [if_pos h32] at k
      have k := nt_rn_w (a := [(0, .ref (p 28)), (1, .int v1), (2, .int v2), (3, .int v3), (4, .int v4)]) (b := [(0, .ref (p 28)), (1, .int v1), (2, .int v2), (3, .int v3), (4, .int v4)]) ⟨rfl, rfl, rfl, rfl, rfl, trivial⟩ rfl k
      rw [x26_23, if_pos h32]
      exact ⟨_, k⟩
    · rw [if_neg h32] at k
      have k := ly_revb 3 (c' := (39, [(0, .ref (p 28)), (1, .int v1), (2, .int v2), (3, .int v3), (4, .int v4)], [.int v4, .int v1, .int v3], me_w M J)) rfl k
      obtain ⟨d1, o1, ed, kc, k⟩ := lz_c (g := 14) (q := 0) (vs := [.int v1, .int v4]) (rest := [.int v3]) rfl rfl (by decide) (Or.inl ⟨_, rfl, rfl⟩) rfl k
      have e1 := xt14  kc
      subst e1
      have k : nt_rn X _ 26 (42, [(0, .ref (p 28)), (1, .int v1), (2, .int v2), (3, .int v3), (4, .int v4)], [.int (x14 v1 v4), .int v3], me_w M J) _ := k
      have k := ly_revb 1 (c' := (if (x14 v1 v4) = 0 then 58 else 45, [(0, .ref (p 28)), (1, .int v1), (2, .int v2), (3, .int v3), (4, .int v4)], [.int v3], me_w M J)) rfl k
      by_cases h42 : (x14 v1 v4) = 0
      · rw [if_pos h42] at k
        have k := ly_revb 5 (c' := (23, [(4, .int (v4 + (Int32.ofInt 1))), (3, .int (v3 - (Int32.ofInt 0))), (0, .ref (p 28)), (1, .int v1), (2, .int v2)], [], me_w M J)) rfl k
        have k := nt_rn_w (a := [(4, .int (v4 + (Int32.ofInt 1))), (3, .int (v3 - (Int32.ofInt 0))), (0, .ref (p 28)), (1, .int v1), (2, .int v2)]) (b := [(0, .ref (p 28)), (1, .int v1), (2, .int v2), (3, .int (v3 - (Int32.ofInt 0))), (4, .int (v4 + (Int32.ofInt 1)))]) ⟨rfl, rfl, rfl, rfl, rfl, trivial⟩ rfl k
        have k := ih (v3 - (Int32.ofInt 0)) (v4 + (Int32.ofInt 1)) (lx_dec h32 hc) k
        rw [x26_23, if_neg h32, if_pos h42]
        exact k
      · rw [if_neg h42] at k
        have k := ly_revb 1 (c' := (46, [(0, .ref (p 28)), (1, .int v1), (2, .int v2), (3, .int v3), (4, .int v4)], [.ref (p 28), .int v3], me_w M J)) rfl k
        have k := lz_get (a := (p 28)) (g := 101) (M := me_w M J) (v := .ref (p 32)) rfl (nt_gfR rfl hv.2.1) k
        have k := ly_revb 2 (c' := (52, [(0, .ref (p 28)), (1, .int v1), (2, .int v2), (3, .int v3), (4, .int v4)], [.int v2, .int v4, .ref (p 32), .int v3], me_w M J)) rfl k
        obtain ⟨d1, o1, ed, kc, k⟩ := lz_c (g := 87) (q := 1) (vs := [.ref (p 32), .int v4, .int v2]) (rest := [.int v3]) rfl rfl (by decide) (Or.inr (Or.inl ⟨_, rfl, rfl⟩)) rfl k
        have e1 := xt87 hn kc
        subst e1
        have k : nt_rn X _ 26 (55, [(0, .ref (p 28)), (1, .int v1), (2, .int v2), (3, .int v3), (4, .int v4)], [.int (x87 (fun i => p (31 + i)) v4 v2 J), .int v3], me_w M J) _ := k
        have k := ly_revb 5 (c' := (23, [(4, .int (v4 + (Int32.ofInt 1))), (3, .int (v3 - (x87 (fun i => p (31 + i)) v4 v2 J))), (0, .ref (p 28)), (1, .int v1), (2, .int v2)], [], me_w M J)) rfl k
        have k := nt_rn_w (a := [(4, .int (v4 + (Int32.ofInt 1))), (3, .int (v3 - (x87 (fun i => p (31 + i)) v4 v2 J))), (0, .ref (p 28)), (1, .int v1), (2, .int v2)]) (b := [(0, .ref (p 28)), (1, .int v1), (2, .int v2), (3, .int (v3 - (x87 (fun i => p (31 + i)) v4 v2 J))), (4, .int (v4 + (Int32.ofInt 1)))]) ⟨rfl, rfl, rfl, rfl, rfl, trivial⟩ rfl k
        have k := ih (v3 - (x87 (fun i => p (31 + i)) v4 v2 J)) (v4 + (Int32.ofInt 1)) (lx_dec h32 hc) k
        rw [x26_23, if_neg h32, if_neg h42]
        exact k
def x26_2 (p : Nat → Nat) (v1 : Int32) (J : Nat → Nat → Int32) : Nat → Int32 → Int32
  | 0, v2 => (Int32.ofInt 1)
  | c + 1, v2 => if (J (p 32) 0) ≤ v2 then (Int32.ofInt 1)
    else if 0 ≤ (x26_23 p v1 v2 J ((J (p 32) 1).toNatClampNeg) (J (p 30) v2.toNatClampNeg) (Int32.ofInt 0)) then (x26_2 p v1 J c (v2 + (Int32.ofInt 1)))
      else (Int32.ofInt 0)
theorem xt26_2 {X : nt_X} {d : Nat} {M : nt_M} {o : Option Value × nt_M} {p : Nat → Nat} {v1 : Int32} {J : Nat → Nat → Int32} (hp : xs_P M p) (hn : xs_Q M (fun i => p (31 + i))) (hv : xs_V M p) : ∀ (c : Nat) (v2 : Int32) (v3 : Int32) (v4 : Int32), (J (p 32) 0).toInt - v2.toInt ≤ c → nt_rn X d 26 (2, [(0, .ref (p 28)), (1, .int v1), (2, .int v2), (3, .int v3), (4, .int v4)], [], me_w M J) o → o = (some (.int (x26_2 p v1 J c v2)), me_w M J) := by
  intro c
  induction c with
  | zero =>
    intro v2 v3 v4 hc k
    have k := ly_revb 2 (c' := (4, [(0, .ref (p 28)), (1, .int v1), (2, .int v2), (3, .int v3), (4, .int v4)], [.ref (p 28), .int v2], me_w M J)) rfl k
    have k := lz_get (a := (p 28)) (g := 101) (M := me_w M J) (v := .ref (p 32)) rfl (nt_gfR rfl hv.2.1) k
    have k := lz_get (a := (p 32)) (g := 800) (M := me_w M J) (v := .int (J (p 32) 0)) rfl (congrArg Value.int (rfl)) k
    have k := ly_revb 1 (c' := (if (J (p 32) 0) ≤ v2 then 79 else 13, [(0, .ref (p 28)), (1, .int v1), (2, .int v2), (3, .int v3), (4, .int v4)], [], me_w M J)) rfl k
    have h10 : (J (p 32) 0) ≤ v2 := lx_end hc
    rw [if_pos h10] at k
    have k := ly_revb 1 (c' := (80, [(0, .ref (p 28)), (1, .int v1), (2, .int v2), (3, .int v3), (4, .int v4)], [.int (Int32.ofInt 1)], me_w M J)) rfl k
    have k := lz_ri rfl (by decide) k
    rw [k, x26_2]
  | succ c ih =>
    intro v2 v3 v4 hc k
    have k := ly_revb 2 (c' := (4, [(0, .ref (p 28)), (1, .int v1), (2, .int v2), (3, .int v3), (4, .int v4)], [.ref (p 28), .int v2], me_w M J)) rfl k
    have k := lz_get (a := (p 28)) (g := 101) (M := me_w M J) (v := .ref (p 32)) rfl (nt_gfR rfl hv.2.1) k
    have k := lz_get (a := (p 32)) (g := 800) (M := me_w M J) (v := .int (J (p 32) 0)) rfl (congrArg Value.int (rfl)) k
    have k := ly_revb 1 (c' := (if (J (p 32) 0) ≤ v2 then 79 else 13, [(0, .ref (p 28)), (1, .int v1), (2, .int v2), (3, .int v3), (4, .int v4)], [], me_w M J)) rfl k
    by_cases h10 : (J (p 32) 0) ≤ v2
    · rw [if_pos h10] at k
      have k := ly_revb 1 (c' := (80, [(0, .ref (p 28)), (1, .int v1), (2, .int v2), (3, .int v3), (4, .int v4)], [.int (Int32.ofInt 1)], me_w M J)) rfl k
      have k := lz_ri rfl (by decide) k
      rw [k, x26_2, if_pos h10]
    · rw [if_neg h10] at k
      have k := ly_revb 1 (c' := (14, [(0, .ref (p 28)), (1, .int v1), (2, .int v2), (3, .int v3), (4, .int v4)], [.ref (p 28)], me_w M J)) rfl k
      have k := lz_get (a := (p 28)) (g := 103) (M := me_w M J) (v := .ref (p 30)) rfl (nt_gfR rfl (hp.1 (28, 3, 30) (by decide))) k
      have k := ly_revb 1 (c' := (18, [(0, .ref (p 28)), (1, .int v1), (2, .int v2), (3, .int v3), (4, .int v4)], [.int v2, .ref (p 30)], me_w M J)) rfl k
      have k := mx_iald (v := J (p 30) v2.toNatClampNeg) rfl (hp.2.2.1 30 (by omega)) (rfl) k
      have k := ly_revb 3 (c' := (23, [(4, .int (Int32.ofInt 0)), (3, .int (J (p 30) v2.toNatClampNeg)), (0, .ref (p 28)), (1, .int v1), (2, .int v2)], [], me_w M J)) rfl k
      have k := nt_rn_w (a := [(4, .int (Int32.ofInt 0)), (3, .int (J (p 30) v2.toNatClampNeg)), (0, .ref (p 28)), (1, .int v1), (2, .int v2)]) (b := [(0, .ref (p 28)), (1, .int v1), (2, .int v2), (3, .int (J (p 30) v2.toNatClampNeg)), (4, .int (Int32.ofInt 0))]) ⟨rfl, rfl, rfl, rfl, rfl, trivial⟩ rfl k
      have k := xt26_23 hp hn hv  ((J (p 32) 1).toNatClampNeg) (J (p 30) v2.toNatClampNeg) (Int32.ofInt 0) (lx_beg (by decide)) k
      obtain ⟨w4, k⟩ := k
      have k : nt_rn X _ 26 (67, [(0, .ref (p 28)), (1, .int v1), (2, .int v2), (3, .int (x26_23 p v1 v2 J ((J (p 32) 1).toNatClampNeg) (J (p 30) v2.toNatClampNeg) (Int32.ofInt 0))), (4, .int w4)], [], me_w M J) _ := k
      have k := ly_revb 2 (c' := (if 0 ≤ (x26_23 p v1 v2 J ((J (p 32) 1).toNatClampNeg) (J (p 30) v2.toNatClampNeg) (Int32.ofInt 0)) then 73 else 71, [(0, .ref (p 28)), (1, .int v1), (2, .int v2), (3, .int (x26_23 p v1 v2 J ((J (p 32) 1).toNatClampNeg) (J (p 30) v2.toNatClampNeg) (Int32.ofInt 0))), (4, .int w4)], [], me_w M J)) rfl k
      by_cases h68 : 0 ≤ (x26_23 p v1 v2 J ((J (p 32) 1).toNatClampNeg) (J (p 30) v2.toNatClampNeg) (Int32.ofInt 0))
      · rw [if_pos h68] at k
        have k := ly_revb 2 (c' := (2, [(2, .int (v2 + (Int32.ofInt 1))), (0, .ref (p 28)), (1, .int v1), (3, .int (x26_23 p v1 v2 J ((J (p 32) 1).toNatClampNeg) (J (p 30) v2.toNatClampNeg) (Int32.ofInt 0))), (4, .int w4)], [], me_w M J)) rfl k
        have k := nt_rn_w (a := [(2, .int (v2 + (Int32.ofInt 1))), (0, .ref (p 28)), (1, .int v1), (3, .int (x26_23 p v1 v2 J ((J (p 32) 1).toNatClampNeg) (J (p 30) v2.toNatClampNeg) (Int32.ofInt 0))), (4, .int w4)]) (b := [(0, .ref (p 28)), (1, .int v1), (2, .int (v2 + (Int32.ofInt 1))), (3, .int (x26_23 p v1 v2 J ((J (p 32) 1).toNatClampNeg) (J (p 30) v2.toNatClampNeg) (Int32.ofInt 0))), (4, .int w4)]) ⟨rfl, rfl, rfl, rfl, rfl, trivial⟩ rfl k
        have k := ih (v2 + (Int32.ofInt 1)) (x26_23 p v1 v2 J ((J (p 32) 1).toNatClampNeg) (J (p 30) v2.toNatClampNeg) (Int32.ofInt 0)) w4 (lx_dec h10 hc) k
        rw [k, x26_2, if_neg h10, if_pos h68]
      · rw [if_neg h68] at k
        have k := ly_revb 1 (c' := (72, [(0, .ref (p 28)), (1, .int v1), (2, .int v2), (3, .int (x26_23 p v1 v2 J ((J (p 32) 1).toNatClampNeg) (J (p 30) v2.toNatClampNeg) (Int32.ofInt 0))), (4, .int w4)], [.int (Int32.ofInt 0)], me_w M J)) rfl k
        have k := lz_ri rfl (by decide) k
        rw [k, x26_2, if_neg h10, if_neg h68]
def x26 (p : Nat → Nat) (v1 : Int32) (J : Nat → Nat → Int32) : Int32 := (x26_2 p v1 J ((J (p 32) 0).toNatClampNeg) (Int32.ofInt 0))
theorem xt26 {X : nt_X} {d : Nat} {M : nt_M} {o : Option Value × nt_M} {p : Nat → Nat} {v1 : Int32} {J : Nat → Nat → Int32} (hp : xs_P M p) (hn : xs_Q M (fun i => p (31 + i))) (hv : xs_V M p) (k : nt_ev X d 26 [.ref (p 28), .int v1] (me_w M J) o) : o = (some (.int (x26 p v1 J)), me_w M J) := by
  have k : nt_rn X d 26 (0, [(0, .ref (p 28)), (1, .int v1)], [], me_w M J) o := k
  have k := ly_revb 2 (c' := (2, [(2, .int (Int32.ofInt 0)), (0, .ref (p 28)), (1, .int v1)], [], me_w M J)) rfl k
  have k := nt_rn_w (a := [(2, .int (Int32.ofInt 0)), (0, .ref (p 28)), (1, .int v1)]) (b := [(0, .ref (p 28)), (1, .int v1), (2, .int (Int32.ofInt 0)), (3, .int (Int32.ofInt 0)), (4, .int (Int32.ofInt 0))]) ⟨rfl, rfl, rfl, trivial⟩ rfl k
  have k := xt26_2 hp hn hv  ((J (p 32) 0).toNatClampNeg) (Int32.ofInt 0) (Int32.ofInt 0) (Int32.ofInt 0) (lx_beg (by decide)) k
  rw [k, x26]
/-! $Plans.bestShips -/
def x24_15 (p : Nat → Nat) (v3 : Int32) (J : Nat → Nat → Int32) : Nat → Int32 → Int32 → Int32 → Int32
  | 0, v1, v2, v4 => v1
  | c + 1, v1, v2, v4 => if ((Int32.ofInt 1) <<< ((J (p 32) 1) &&& 31)) ≤ v4 then v1
    else if (v4 &&& v3) = 0 then if (x21 (x25 p v4 J) v4 v2 v1) = 0 then (x24_15 p v3 J c v1 v2 (v4 + (Int32.ofInt 1)))
        else if (x26 p v4 J) = 0 then (x24_15 p v3 J c v1 v2 (v4 + (Int32.ofInt 1)))
          else (x24_15 p v3 J c v4 (x25 p v4 J) (v4 + (Int32.ofInt 1)))
      else (x24_15 p v3 J c v1 v2 (v4 + (Int32.ofInt 1)))
theorem xt24_15 {X : nt_X} {d : Nat} {M : nt_M} {o : Option Value × nt_M} {p : Nat → Nat} {v3 : Int32} {J : Nat → Nat → Int32} (hp : xs_P M p) (hn : xs_Q M (fun i => p (31 + i))) (hv : xs_V M p) : ∀ (c : Nat) (v1 : Int32) (v2 : Int32) (v4 : Int32) (v5 : Int32), ((Int32.ofInt 1) <<< ((J (p 32) 1) &&& 31)).toInt - v4.toInt ≤ c → nt_rn X d 24 (15, [(0, .ref (p 28)), (1, .int v1), (2, .int v2), (3, .int v3), (4, .int v4), (5, .int v5)], [], me_w M J) o → o = (some (.int (x24_15 p v3 J c v1 v2 v4)), me_w M J) := by
  intro c
  induction c with
  | zero =>
    intro v1 v2 v4 v5 hc k
    have k := ly_revb 3 (c' := (19, [(0, .ref (p 28)), (1, .int v1), (2, .int v2), (3, .int v3), (4, .int v4), (5, .int v5)], [.ref (p 28), .int (Int32.ofInt 1), .int v4], me_w M J)) rfl k
    have k := lz_get (a := (p 28)) (g := 101) (M := me_w M J) (v := .ref (p 32)) rfl (nt_gfR rfl hv.2.1) k
    have k := lz_get (a := (p 32)) (g := 801) (M := me_w M J) (v := .int (J (p 32) 1)) rfl (congrArg Value.int (rfl)) k
    have k := ly_revb 2 (c' := (if ((Int32.ofInt 1) <<< ((J (p 32) 1) &&& 31)) ≤ v4 then 77 else 29, [(0, .ref (p 28)), (1, .int v1), (2, .int v2), (3, .int v3), (4, .int v4), (5, .int v5)], [], me_w M J)) rfl k
    have h26 : ((Int32.ofInt 1) <<< ((J (p 32) 1) &&& 31)) ≤ v4 := lx_end hc
    rw [if_pos h26] at k
    have k := ly_revb 1 (c' := (78, [(0, .ref (p 28)), (1, .int v1), (2, .int v2), (3, .int v3), (4, .int v4), (5, .int v5)], [.int v1], me_w M J)) rfl k
    have k := lz_ri rfl (by decide) k
    rw [k, x24_15]
  | succ c ih =>
    intro v1 v2 v4 v5 hc k
    have k := ly_revb 3 (c' := (19, [(0, .ref (p 28)), (1, .int v1), (2, .int v2), (3, .int v3), (4, .int v4), (5, .int v5)], [.ref (p 28), .int (Int32.ofInt 1), .int v4], me_w M J)) rfl k
    have k := lz_get (a := (p 28)) (g := 101) (M := me_w M J) (v := .ref (p 32)) rfl (nt_gfR rfl hv.2.1) k
    have k := lz_get (a := (p 32)) (g := 801) (M := me_w M J) (v := .int (J (p 32) 1)) rfl (congrArg Value.int (rfl)) k
    have k := ly_revb 2 (c' := (if ((Int32.ofInt 1) <<< ((J (p 32) 1) &&& 31)) ≤ v4 then 77 else 29, [(0, .ref (p 28)), (1, .int v1), (2, .int v2), (3, .int v3), (4, .int v4), (5, .int v5)], [], me_w M J)) rfl k
    by_cases h26 : ((Int32.ofInt 1) <<< ((J (p 32) 1) &&& 31)) ≤ v4
    · rw [if_pos h26] at k
      have k := ly_revb 1 (c' := (78, [(0, .ref (p 28)), (1, .int v1), (2, .int v2), (3, .int v3), (4, .int v4), (5, .int v5)], [.int v1], me_w M J)) rfl k
      have k := lz_ri rfl (by decide) k
      rw [k, x24_15, if_pos h26]
    · rw [if_neg h26] at k
      have k := ly_revb 2 (c' := (32, [(0, .ref (p 28)), (1, .int v1), (2, .int v2), (3, .int v3), (4, .int v4), (5, .int v5)], [.int v4, .ref (p 28)], me_w M J)) rfl k
      obtain ⟨d1, o1, ed, kc, k⟩ := lz_c (g := 25) (q := 1) (vs := [.ref (p 28), .int v4]) (rest := []) rfl rfl (by decide) (Or.inr (Or.inl ⟨_, rfl, rfl⟩)) rfl k
      have e1 := xt25 hp hn hv kc
      subst e1
      have k : nt_rn X _ 24 (35, [(0, .ref (p 28)), (1, .int v1), (2, .int v2), (3, .int v3), (4, .int v4), (5, .int v5)], [.int (x25 p v4 J)], me_w M J) _ := k
      have k := ly_revb 5 (c' := (if (v4 &&& v3) = 0 then 44 else 71, [(5, .int (x25 p v4 J)), (0, .ref (p 28)), (1, .int v1), (2, .int v2), (3, .int v3), (4, .int v4)], [], me_w M J)) rfl k
      by_cases h41 : (v4 &&& v3) = 0
      · rw [if_pos h41] at k
        have k := ly_revb 4 (c' := (50, [(5, .int (x25 p v4 J)), (0, .ref (p 28)), (1, .int v1), (2, .int v2), (3, .int v3), (4, .int v4)], [.int v1, .int v2, .int v4, .int (x25 p v4 J)], me_w M J)) rfl k
        obtain ⟨d1, o1, ed, kc, k⟩ := lz_c (g := 21) (q := 0) (vs := [.int (x25 p v4 J), .int v4, .int v2, .int v1]) (rest := []) rfl rfl (by decide) (Or.inl ⟨_, rfl, rfl⟩) rfl k
        have e1 := xt21  kc
        subst e1
        have k : nt_rn X _ 24 (53, [(5, .int (x25 p v4 J)), (0, .ref (p 28)), (1, .int v1), (2, .int v2), (3, .int v3), (4, .int v4)], [.int (x21 (x25 p v4 J) v4 v2 v1)], me_w M J) _ := k
        have k := ly_revb 1 (c' := (if (x21 (x25 p v4 J) v4 v2 v1) = 0 then 71 else 56, [(5, .int (x25 p v4 J)), (0, .ref (p 28)), (1, .int v1), (2, .int v2), (3, .int v3), (4, .int v4)], [], me_w M J)) rfl k
        by_cases h53 : (x21 (x25 p v4 J) v4 v2 v1) = 0
        · rw [if_pos h53] at k
          have k := ly_revb 2 (c' := (15, [(4, .int (v4 + (Int32.ofInt 1))), (5, .int (x25 p v4 J)), (0, .ref (p 28)), (1, .int v1), (2, .int v2), (3, .int v3)], [], me_w M J)) rfl k
          have k := nt_rn_w (a := [(4, .int (v4 + (Int32.ofInt 1))), (5, .int (x25 p v4 J)), (0, .ref (p 28)), (1, .int v1), (2, .int v2), (3, .int v3)]) (b := [(0, .ref (p 28)), (1, .int v1), (2, .int v2), (3, .int v3), (4, .int (v4 + (Int32.ofInt 1))), (5, .int (x25 p v4 J))]) ⟨rfl, rfl, rfl, rfl, rfl, rfl, trivial⟩ rfl k
          have k := ih v1 v2 (v4 + (Int32.ofInt 1)) (x25 p v4 J) (lx_dec h26 hc) k
          rw [k, x24_15, if_neg h26, if_pos h41, if_pos h53]
        · rw [if_neg h53] at k
          have k := ly_revb 2 (c' := (59, [(5, .int (x25 p v4 J)), (0, .ref (p 28)), (1, .int v1), (2, .int v2), (3, .int v3), (4, .int v4)], [.int v4, .ref (p 28)], me_w M J)) rfl k
          obtain ⟨d1, o1, ed, kc, k⟩ := lz_c (g := 26) (q := 1) (vs := [.ref (p 28), .int v4]) (rest := []) rfl rfl (by decide) (Or.inr (Or.inl ⟨_, rfl, rfl⟩)) rfl k
          have e1 := xt26 hp hn hv kc
          subst e1
          have k : nt_rn X _ 24 (62, [(5, .int (x25 p v4 J)), (0, .ref (p 28)), (1, .int v1), (2, .int v2), (3, .int v3), (4, .int v4)], [.int (x26 p v4 J)], me_w M J) _ := k
          have k := ly_revb 1 (c' := (if (x26 p v4 J) = 0 then 71 else 65, [(5, .int (x25 p v4 J)), (0, .ref (p 28)), (1, .int v1), (2, .int v2), (3, .int v3), (4, .int v4)], [], me_w M J)) rfl k
          by_cases h62 : (x26 p v4 J) = 0
          · rw [if_pos h62] at k
            have k := ly_revb 2 (c' := (15, [(4, .int (v4 + (Int32.ofInt 1))), (5, .int (x25 p v4 J)), (0, .ref (p 28)), (1, .int v1), (2, .int v2), (3, .int v3)], [], me_w M J)) rfl k
            have k := nt_rn_w (a := [(4, .int (v4 + (Int32.ofInt 1))), (5, .int (x25 p v4 J)), (0, .ref (p 28)), (1, .int v1), (2, .int v2), (3, .int v3)]) (b := [(0, .ref (p 28)), (1, .int v1), (2, .int v2), (3, .int v3), (4, .int (v4 + (Int32.ofInt 1))), (5, .int (x25 p v4 J))]) ⟨rfl, rfl, rfl, rfl, rfl, rfl, trivial⟩ rfl k
            have k := ih v1 v2 (v4 + (Int32.ofInt 1)) (x25 p v4 J) (lx_dec h26 hc) k
            rw [k, x24_15, if_neg h26, if_pos h41, if_neg h53, if_pos h62]
          · rw [if_neg h62] at k
            have k := ly_revb 6 (c' := (15, [(4, .int (v4 + (Int32.ofInt 1))), (2, .int (x25 p v4 J)), (1, .int v4), (5, .int (x25 p v4 J)), (0, .ref (p 28)), (3, .int v3)], [], me_w M J)) rfl k
            have k := nt_rn_w (a := [(4, .int (v4 + (Int32.ofInt 1))), (2, .int (x25 p v4 J)), (1, .int v4), (5, .int (x25 p v4 J)), (0, .ref (p 28)), (3, .int v3)]) (b := [(0, .ref (p 28)), (1, .int v4), (2, .int (x25 p v4 J)), (3, .int v3), (4, .int (v4 + (Int32.ofInt 1))), (5, .int (x25 p v4 J))]) ⟨rfl, rfl, rfl, rfl, rfl, rfl, trivial⟩ rfl k
            have k := ih v4 (x25 p v4 J) (v4 + (Int32.ofInt 1)) (x25 p v4 J) (lx_dec h26 hc) k
            rw [k, x24_15, if_neg h26, if_pos h41, if_neg h53, if_neg h62]
      · rw [if_neg h41] at k
        have k := ly_revb 2 (c' := (15, [(4, .int (v4 + (Int32.ofInt 1))), (5, .int (x25 p v4 J)), (0, .ref (p 28)), (1, .int v1), (2, .int v2), (3, .int v3)], [], me_w M J)) rfl k
        have k := nt_rn_w (a := [(4, .int (v4 + (Int32.ofInt 1))), (5, .int (x25 p v4 J)), (0, .ref (p 28)), (1, .int v1), (2, .int v2), (3, .int v3)]) (b := [(0, .ref (p 28)), (1, .int v1), (2, .int v2), (3, .int v3), (4, .int (v4 + (Int32.ofInt 1))), (5, .int (x25 p v4 J))]) ⟨rfl, rfl, rfl, rfl, rfl, rfl, trivial⟩ rfl k
        have k := ih v1 v2 (v4 + (Int32.ofInt 1)) (x25 p v4 J) (lx_dec h26 hc) k
        rw [k, x24_15, if_neg h26, if_neg h41]
def x24 (p : Nat → Nat) (J : Nat → Nat → Int32) : Int32 := (x24_15 p (x79 (fun i => p (31 + i)) J) J (((Int32.ofInt 1) <<< ((J (p 32) 1) &&& 31)).toNatClampNeg) (Int32.ofInt 0) (Int32.ofInt 0) (Int32.ofInt 1))
theorem xt24 {X : nt_X} {d : Nat} {M : nt_M} {o : Option Value × nt_M} {p : Nat → Nat} {J : Nat → Nat → Int32} (hp : xs_P M p) (hn : xs_Q M (fun i => p (31 + i))) (hv : xs_V M p) (k : nt_ev X d 24 [.ref (p 28)] (me_w M J) o) : o = (some (.int (x24 p J)), me_w M J) := by
  have k : nt_rn X d 24 (0, [(0, .ref (p 28))], [], me_w M J) o := k
  have k := ly_revb 5 (c' := (5, [(2, .int (Int32.ofInt 0)), (1, .int (Int32.ofInt 0)), (0, .ref (p 28))], [.ref (p 28)], me_w M J)) rfl k
  have k := lz_get (a := (p 28)) (g := 100) (M := me_w M J) (v := .ref (p 31)) rfl (nt_gfR rfl hv.1) k
  obtain ⟨d1, o1, ed, kc, k⟩ := lz_c (g := 79) (q := 1) (vs := [.ref (p 31)]) (rest := []) rfl rfl (by decide) (Or.inr (Or.inl ⟨_, rfl, rfl⟩)) rfl k
  have e1 := xt79 hn kc
  subst e1
  have k : nt_rn X _ 24 (11, [(2, .int (Int32.ofInt 0)), (1, .int (Int32.ofInt 0)), (0, .ref (p 28))], [.int (x79 (fun i => p (31 + i)) J)], me_w M J) _ := k
  have k := ly_revb 3 (c' := (15, [(4, .int (Int32.ofInt 1)), (3, .int (x79 (fun i => p (31 + i)) J)), (2, .int (Int32.ofInt 0)), (1, .int (Int32.ofInt 0)), (0, .ref (p 28))], [], me_w M J)) rfl k
  have k := nt_rn_w (a := [(4, .int (Int32.ofInt 1)), (3, .int (x79 (fun i => p (31 + i)) J)), (2, .int (Int32.ofInt 0)), (1, .int (Int32.ofInt 0)), (0, .ref (p 28))]) (b := [(0, .ref (p 28)), (1, .int (Int32.ofInt 0)), (2, .int (Int32.ofInt 0)), (3, .int (x79 (fun i => p (31 + i)) J)), (4, .int (Int32.ofInt 1)), (5, .int (Int32.ofInt 0))]) ⟨rfl, rfl, rfl, rfl, rfl, trivial⟩ rfl k
  have k := xt24_15 hp hn hv  (((Int32.ofInt 1) <<< ((J (p 32) 1) &&& 31)).toNatClampNeg) (Int32.ofInt 0) (Int32.ofInt 0) (Int32.ofInt 1) (Int32.ofInt 0) (lx_beg (by decide)) k
  rw [k, x24]
/-! $Plans.leastEnduring -/
/-! .most -/
/-! .dealt -/
def x122F (p : Nat → Nat) (v1 : Int32) (J : Nat → Nat → Int32) : Int32 := if v1 = 0 then (x25 p (x24 p J) J)
  else (x24 p J)
theorem xt122F {X : nt_X} {d : Nat} {M : nt_M} {o : Option Value × nt_M} {p : Nat → Nat} {v1 : Int32} {J : Nat → Nat → Int32} (hp : xs_P M p) (hn : xs_Q M (fun i => p (31 + i))) (hv : xs_V M p) (k : nt_rn X d 122 (32, [(0, .ref (p 16)), (1, .int v1)], [], me_w M J) o) : o = (some (.int (x122F p v1 J)), me_w M J) := by
  have k : nt_rn X d 122 (32, [(0, .ref (p 16)), (1, .int v1)], [], me_w M J) o := k
  have k := ly_revb 1 (c' := (33, [(0, .ref (p 16)), (1, .int v1)], [.ref (p 16)], me_w M J)) rfl k
  have k := lz_get (a := (p 16)) (g := 1006) (M := me_w M J) (v := .ref (p 28)) rfl (nt_gfR rfl (hp.1 (16, 6, 28) (by decide))) k
  obtain ⟨d1, o1, ed, kc, k⟩ := lz_c (g := 24) (q := 1) (vs := [.ref (p 28)]) (rest := []) rfl rfl (by decide) (Or.inr (Or.inl ⟨_, rfl, rfl⟩)) rfl k
  have e1 := xt24 hp hn hv kc
  subst e1
  have k : nt_rn X _ 122 (39, [(0, .ref (p 16)), (1, .int v1)], [.int (x24 p J)], me_w M J) _ := k
  have k := ly_revb 3 (c' := (if v1 = 0 then 44 else 55, [(2, .int (x24 p J)), (0, .ref (p 16)), (1, .int v1)], [], me_w M J)) rfl k
  by_cases h41 : v1 = 0
  · rw [if_pos h41] at k
    have k := ly_revb 1 (c' := (45, [(2, .int (x24 p J)), (0, .ref (p 16)), (1, .int v1)], [.ref (p 16)], me_w M J)) rfl k
    have k := lz_get (a := (p 16)) (g := 1006) (M := me_w M J) (v := .ref (p 28)) rfl (nt_gfR rfl (hp.1 (16, 6, 28) (by decide))) k
    have k := ly_revb 1 (c' := (49, [(2, .int (x24 p J)), (0, .ref (p 16)), (1, .int v1)], [.int (x24 p J), .ref (p 28)], me_w M J)) rfl k
    obtain ⟨d1, o1, ed, kc, k⟩ := lz_c (g := 25) (q := 1) (vs := [.ref (p 28), .int (x24 p J)]) (rest := []) rfl rfl (by decide) (Or.inr (Or.inl ⟨_, rfl, rfl⟩)) rfl k
    have e1 := xt25 hp hn hv kc
    subst e1
    have k : nt_rn X _ 122 (52, [(2, .int (x24 p J)), (0, .ref (p 16)), (1, .int v1)], [.int (x25 p (x24 p J) J)], me_w M J) _ := k
    have k := ly_revb 1 (c' := (56, [(2, .int (x24 p J)), (0, .ref (p 16)), (1, .int v1)], [.int (x25 p (x24 p J) J)], me_w M J)) rfl k
    have k := lz_ri rfl (by decide) k
    rw [k, x122F, if_pos h41]
  · rw [if_neg h41] at k
    have k := ly_revb 1 (c' := (56, [(2, .int (x24 p J)), (0, .ref (p 16)), (1, .int v1)], [.int (x24 p J)], me_w M J)) rfl k
    have k := lz_ri rfl (by decide) k
    rw [k, x122F, if_neg h41]
end
section
/-! Model.isOf -/
def x209 (v0 : Int32) (v1 : Int32) : Int32 := if ((v0 >>> (v1 &&& 31)) &&& (Int32.ofInt 1)) = (Int32.ofInt 1) then (Int32.ofInt 1)
  else (Int32.ofInt 0)
theorem xt209 {X : nt_X} {d : Nat} {M : nt_M} {o : Option Value × nt_M} {v0 : Int32} {v1 : Int32} {J : Nat → Nat → Int32}  (k : nt_ev X d 209 [.int v0, .int v1] (me_w M J) o) : o = (some (.int (x209 v0 v1)), me_w M J) := by
  have k : nt_rn X d 209 (0, [(0, .int v0), (1, .int v1)], [], me_w M J) o := k
  have k := ly_revb 7 (c' := (if ((v0 >>> (v1 &&& 31)) &&& (Int32.ofInt 1)) = (Int32.ofInt 1) then 9 else 13, [(0, .int v0), (1, .int v1)], [], me_w M J)) rfl k
  by_cases h6 : ((v0 >>> (v1 &&& 31)) &&& (Int32.ofInt 1)) = (Int32.ofInt 1)
  · rw [if_pos h6] at k
    have k := ly_revb 2 (c' := (14, [(0, .int v0), (1, .int v1)], [.int (Int32.ofInt 1)], me_w M J)) rfl k
    have k := lz_ri rfl (by decide) k
    rw [k, x209, if_pos h6]
  · rw [if_neg h6] at k
    have k := ly_revb 1 (c' := (14, [(0, .int v0), (1, .int v1)], [.int (Int32.ofInt 0)], me_w M J)) rfl k
    have k := lz_ri rfl (by decide) k
    rw [k, x209, if_neg h6]
/-! Model.isOn -/
/-! Model.notLost -/
def x210_4 (p : Nat → Nat) (v1 : Int32) (J : Nat → Nat → Int32) : Nat → Int32 → Int32 → Int32
  | 0, v2, v3 => v2
  | c + 1, v2, v3 => if (J (p 4) 2) ≤ v3 then v2
    else if (x173 p v3 (Int32.ofInt 0) J) = v1 then if (x173 p v3 (Int32.ofInt 4) J) = 0 then (x210_4 p v1 J c (v2 + (Int32.ofInt 1)) (v3 + (Int32.ofInt 1)))
        else (x210_4 p v1 J c (v2 + (Int32.ofInt 0)) (v3 + (Int32.ofInt 1)))
      else (x210_4 p v1 J c (v2 + (Int32.ofInt 0)) (v3 + (Int32.ofInt 1)))
def x210 (p : Nat → Nat) (v1 : Int32) (J : Nat → Nat → Int32) : Int32 := (x210_4 p v1 J ((J (p 4) 2).toNatClampNeg) (Int32.ofInt 0) (Int32.ofInt 0))
/-! Model.cutOn -/
/-! Model.cutDay -/
/-! Model.payOf -/
/-! Model.most -/
/-! Model.payFrom -/
def x224_4 (p : Nat → Nat) (v1 : Int32) (J : Nat → Nat → Int32) : Nat → Int32 → Int32 → Int32
  | 0, v2, v3 => v2
  | c + 1, v2, v3 => if (J (p 4) 3) ≤ v3 then v2
    else if (x209 v1 (x180 p v3 (Int32.ofInt 0) J)) = 0 then (x224_4 p v1 J c (v2 + (Int32.ofInt 0)) (v3 + (Int32.ofInt 1)))
      else if (x180 p v3 (Int32.ofInt 1) J) < (J (p 4) 4) then (x224_4 p v1 J c (v2 + (Int32.ofInt 0)) (v3 + (Int32.ofInt 1)))
        else (x224_4 p v1 J c (v2 + (x180 p v3 (Int32.ofInt 3) J)) (v3 + (Int32.ofInt 1)))
theorem xt224_4 {X : nt_X} {d : Nat} {M : nt_M} {o : Option Value × nt_M} {p : Nat → Nat} {v1 : Int32} {J : Nat → Nat → Int32} (hp : xs_P M p) : ∀ (c : Nat) (v2 : Int32) (v3 : Int32), (J (p 4) 3).toInt - v3.toInt ≤ c → nt_rn X d 224 (4, [(0, .ref (p 0)), (1, .int v1), (2, .int v2), (3, .int v3)], [], me_w M J) o → o = (some (.int (x224_4 p v1 J c v2 v3)), me_w M J) := by
  intro c
  induction c with
  | zero =>
    intro v2 v3 hc k
    have k := ly_revb 2 (c' := (6, [(0, .ref (p 0)), (1, .int v1), (2, .int v2), (3, .int v3)], [.ref (p 0), .int v3], me_w M J)) rfl k
    have k := lz_get (a := (p 0)) (g := 1127) (M := me_w M J) (v := .ref (p 4)) rfl (nt_gfR rfl (hp.1 (0, 27, 4) (by decide))) k
    have k := ly_revb 1 (c' := (10, [(0, .ref (p 0)), (1, .int v1), (2, .int v2), (3, .int v3)], [.int (Int32.ofInt 3), .ref (p 4), .int v3], me_w M J)) rfl k
    have k := mx_iald (v := J (p 4) 3) rfl (hp.2.2.1 4 (by omega)) ((congrArg (J (p 4)) (show (Int32.ofInt 3).toNatClampNeg = 3 from rfl)).trans (rfl)) k
    have k := ly_revb 1 (c' := (if (J (p 4) 3) ≤ v3 then 61 else 14, [(0, .ref (p 0)), (1, .int v1), (2, .int v2), (3, .int v3)], [], me_w M J)) rfl k
    have h11 : (J (p 4) 3) ≤ v3 := lx_end hc
    rw [if_pos h11] at k
    have k := ly_revb 1 (c' := (62, [(0, .ref (p 0)), (1, .int v1), (2, .int v2), (3, .int v3)], [.int v2], me_w M J)) rfl k
    have k := lz_ri rfl (by decide) k
    rw [k, x224_4]
  | succ c ih =>
    intro v2 v3 hc k
    have k := ly_revb 2 (c' := (6, [(0, .ref (p 0)), (1, .int v1), (2, .int v2), (3, .int v3)], [.ref (p 0), .int v3], me_w M J)) rfl k
    have k := lz_get (a := (p 0)) (g := 1127) (M := me_w M J) (v := .ref (p 4)) rfl (nt_gfR rfl (hp.1 (0, 27, 4) (by decide))) k
    have k := ly_revb 1 (c' := (10, [(0, .ref (p 0)), (1, .int v1), (2, .int v2), (3, .int v3)], [.int (Int32.ofInt 3), .ref (p 4), .int v3], me_w M J)) rfl k
    have k := mx_iald (v := J (p 4) 3) rfl (hp.2.2.1 4 (by omega)) ((congrArg (J (p 4)) (show (Int32.ofInt 3).toNatClampNeg = 3 from rfl)).trans (rfl)) k
    have k := ly_revb 1 (c' := (if (J (p 4) 3) ≤ v3 then 61 else 14, [(0, .ref (p 0)), (1, .int v1), (2, .int v2), (3, .int v3)], [], me_w M J)) rfl k
    by_cases h11 : (J (p 4) 3) ≤ v3
    · rw [if_pos h11] at k
      have k := ly_revb 1 (c' := (62, [(0, .ref (p 0)), (1, .int v1), (2, .int v2), (3, .int v3)], [.int v2], me_w M J)) rfl k
      have k := lz_ri rfl (by decide) k
      rw [k, x224_4, if_pos h11]
    · rw [if_neg h11] at k
      have k := ly_revb 5 (c' := (19, [(0, .ref (p 0)), (1, .int v1), (2, .int v2), (3, .int v3)], [.int (Int32.ofInt 0), .int v3, .ref (p 0), .int v1, .int v2], me_w M J)) rfl k
      obtain ⟨d1, o1, ed, kc, k⟩ := lz_c (g := 180) (q := 1) (vs := [.ref (p 0), .int v3, .int (Int32.ofInt 0)]) (rest := [.int v1, .int v2]) rfl rfl (by decide) (Or.inr (Or.inl ⟨_, rfl, rfl⟩)) rfl k
      have e1 := xt180 hp kc
      subst e1
      have k : nt_rn X _ 224 (22, [(0, .ref (p 0)), (1, .int v1), (2, .int v2), (3, .int v3)], [.int (x180 p v3 (Int32.ofInt 0) J), .int v1, .int v2], me_w M J) _ := k
      obtain ⟨d1, o1, ed, kc, k⟩ := lz_c (g := 209) (q := 0) (vs := [.int v1, .int (x180 p v3 (Int32.ofInt 0) J)]) (rest := [.int v2]) rfl rfl (by decide) (Or.inl ⟨_, rfl, rfl⟩) rfl k
      have e1 := xt209  kc
      subst e1
      have k : nt_rn X _ 224 (25, [(0, .ref (p 0)), (1, .int v1), (2, .int v2), (3, .int v3)], [.int (x209 v1 (x180 p v3 (Int32.ofInt 0) J)), .int v2], me_w M J) _ := k
      have k := ly_revb 1 (c' := (if (x209 v1 (x180 p v3 (Int32.ofInt 0) J)) = 0 then 52 else 28, [(0, .ref (p 0)), (1, .int v1), (2, .int v2), (3, .int v3)], [.int v2], me_w M J)) rfl k
      by_cases h25 : (x209 v1 (x180 p v3 (Int32.ofInt 0) J)) = 0
      · rw [if_pos h25] at k
        have k := ly_revb 5 (c' := (4, [(3, .int (v3 + (Int32.ofInt 1))), (2, .int (v2 + (Int32.ofInt 0))), (0, .ref (p 0)), (1, .int v1)], [], me_w M J)) rfl k
        have k := nt_rn_w (a := [(3, .int (v3 + (Int32.ofInt 1))), (2, .int (v2 + (Int32.ofInt 0))), (0, .ref (p 0)), (1, .int v1)]) (b := [(0, .ref (p 0)), (1, .int v1), (2, .int (v2 + (Int32.ofInt 0))), (3, .int (v3 + (Int32.ofInt 1)))]) ⟨rfl, rfl, rfl, rfl, trivial⟩ rfl k
        have k := ih (v2 + (Int32.ofInt 0)) (v3 + (Int32.ofInt 1)) (lx_dec h11 hc) k
        rw [k, x224_4, if_neg h11, if_pos h25]
      · rw [if_neg h25] at k
        have k := ly_revb 3 (c' := (31, [(0, .ref (p 0)), (1, .int v1), (2, .int v2), (3, .int v3)], [.int (Int32.ofInt 1), .int v3, .ref (p 0), .int v2], me_w M J)) rfl k
        obtain ⟨d1, o1, ed, kc, k⟩ := lz_c (g := 180) (q := 1) (vs := [.ref (p 0), .int v3, .int (Int32.ofInt 1)]) (rest := [.int v2]) rfl rfl (by decide) (Or.inr (Or.inl ⟨_, rfl, rfl⟩)) rfl k
        have e1 := xt180 hp kc
        subst e1
        have k : nt_rn X _ 224 (34, [(0, .ref (p 0)), (1, .int v1), (2, .int v2), (3, .int v3)], [.int (x180 p v3 (Int32.ofInt 1) J), .int v2], me_w M J) _ := k
        have k := ly_revb 1 (c' := (35, [(0, .ref (p 0)), (1, .int v1), (2, .int v2), (3, .int v3)], [.ref (p 0), .int (x180 p v3 (Int32.ofInt 1) J), .int v2], me_w M J)) rfl k
        have k := lz_get (a := (p 0)) (g := 1127) (M := me_w M J) (v := .ref (p 4)) rfl (nt_gfR rfl (hp.1 (0, 27, 4) (by decide))) k
        have k := ly_revb 1 (c' := (39, [(0, .ref (p 0)), (1, .int v1), (2, .int v2), (3, .int v3)], [.int (Int32.ofInt 4), .ref (p 4), .int (x180 p v3 (Int32.ofInt 1) J), .int v2], me_w M J)) rfl k
        have k := mx_iald (v := J (p 4) 4) rfl (hp.2.2.1 4 (by omega)) ((congrArg (J (p 4)) (show (Int32.ofInt 4).toNatClampNeg = 4 from rfl)).trans (rfl)) k
        have k := ly_revb 1 (c' := (if (x180 p v3 (Int32.ofInt 1) J) < (J (p 4) 4) then 52 else 43, [(0, .ref (p 0)), (1, .int v1), (2, .int v2), (3, .int v3)], [.int v2], me_w M J)) rfl k
        by_cases h40 : (x180 p v3 (Int32.ofInt 1) J) < (J (p 4) 4)
        · rw [if_pos h40] at k
          have k := ly_revb 5 (c' := (4, [(3, .int (v3 + (Int32.ofInt 1))), (2, .int (v2 + (Int32.ofInt 0))), (0, .ref (p 0)), (1, .int v1)], [], me_w M J)) rfl k
          have k := nt_rn_w (a := [(3, .int (v3 + (Int32.ofInt 1))), (2, .int (v2 + (Int32.ofInt 0))), (0, .ref (p 0)), (1, .int v1)]) (b := [(0, .ref (p 0)), (1, .int v1), (2, .int (v2 + (Int32.ofInt 0))), (3, .int (v3 + (Int32.ofInt 1)))]) ⟨rfl, rfl, rfl, rfl, trivial⟩ rfl k
          have k := ih (v2 + (Int32.ofInt 0)) (v3 + (Int32.ofInt 1)) (lx_dec h11 hc) k
          rw [k, x224_4, if_neg h11, if_neg h25, if_pos h40]
        · rw [if_neg h40] at k
          have k := ly_revb 3 (c' := (46, [(0, .ref (p 0)), (1, .int v1), (2, .int v2), (3, .int v3)], [.int (Int32.ofInt 3), .int v3, .ref (p 0), .int v2], me_w M J)) rfl k
          obtain ⟨d1, o1, ed, kc, k⟩ := lz_c (g := 180) (q := 1) (vs := [.ref (p 0), .int v3, .int (Int32.ofInt 3)]) (rest := [.int v2]) rfl rfl (by decide) (Or.inr (Or.inl ⟨_, rfl, rfl⟩)) rfl k
          have e1 := xt180 hp kc
          subst e1
          have k : nt_rn X _ 224 (49, [(0, .ref (p 0)), (1, .int v1), (2, .int v2), (3, .int v3)], [.int (x180 p v3 (Int32.ofInt 3) J), .int v2], me_w M J) _ := k
          have k := ly_revb 5 (c' := (4, [(3, .int (v3 + (Int32.ofInt 1))), (2, .int (v2 + (x180 p v3 (Int32.ofInt 3) J))), (0, .ref (p 0)), (1, .int v1)], [], me_w M J)) rfl k
          have k := nt_rn_w (a := [(3, .int (v3 + (Int32.ofInt 1))), (2, .int (v2 + (x180 p v3 (Int32.ofInt 3) J))), (0, .ref (p 0)), (1, .int v1)]) (b := [(0, .ref (p 0)), (1, .int v1), (2, .int (v2 + (x180 p v3 (Int32.ofInt 3) J))), (3, .int (v3 + (Int32.ofInt 1)))]) ⟨rfl, rfl, rfl, rfl, trivial⟩ rfl k
          have k := ih (v2 + (x180 p v3 (Int32.ofInt 3) J)) (v3 + (Int32.ofInt 1)) (lx_dec h11 hc) k
          rw [k, x224_4, if_neg h11, if_neg h25, if_neg h40]
def x224 (p : Nat → Nat) (v1 : Int32) (J : Nat → Nat → Int32) : Int32 := (x224_4 p v1 J ((J (p 4) 3).toNatClampNeg) (Int32.ofInt 0) (Int32.ofInt 0))
theorem xt224 {X : nt_X} {d : Nat} {M : nt_M} {o : Option Value × nt_M} {p : Nat → Nat} {v1 : Int32} {J : Nat → Nat → Int32} (hp : xs_P M p) (k : nt_ev X d 224 [.ref (p 0), .int v1] (me_w M J) o) : o = (some (.int (x224 p v1 J)), me_w M J) := by
  have k : nt_rn X d 224 (0, [(0, .ref (p 0)), (1, .int v1)], [], me_w M J) o := k
  have k := ly_revb 4 (c' := (4, [(3, .int (Int32.ofInt 0)), (2, .int (Int32.ofInt 0)), (0, .ref (p 0)), (1, .int v1)], [], me_w M J)) rfl k
  have k := nt_rn_w (a := [(3, .int (Int32.ofInt 0)), (2, .int (Int32.ofInt 0)), (0, .ref (p 0)), (1, .int v1)]) (b := [(0, .ref (p 0)), (1, .int v1), (2, .int (Int32.ofInt 0)), (3, .int (Int32.ofInt 0))]) ⟨rfl, rfl, rfl, rfl, trivial⟩ rfl k
  have k := xt224_4 hp  ((J (p 4) 3).toNatClampNeg) (Int32.ofInt 0) (Int32.ofInt 0) (lx_beg (by decide)) k
  rw [k, x224]
/-! Model.couldBe -/
def x225_55 (p : Nat → Nat) (v1 : Int32) (v2 : Int32) (J : Nat → Nat → Int32) : Nat → Int32 → Int32 → Int32
  | 0, v3, v4 => v3
  | c + 1, v3, v4 => if (J (p 4) 2) ≤ v4 then v3
    else if (x172 p v4 J) = 0 then (x225_55 p v1 v2 J c (v3 + (Int32.ofInt 0)) (v4 + (Int32.ofInt 1)))
      else if (x173 p v4 (Int32.ofInt 0) J) = v2 then (x225_55 p v1 v2 J c (v3 + (Int32.ofInt 1)) (v4 + (Int32.ofInt 1)))
        else (x225_55 p v1 v2 J c (v3 + (Int32.ofInt 0)) (v4 + (Int32.ofInt 1)))
theorem xt225_55 {X : nt_X} {d : Nat} {M : nt_M} {o : Option Value × nt_M} {p : Nat → Nat} {v1 : Int32} {v2 : Int32} {J : Nat → Nat → Int32} (hp : xs_P M p) : ∀ (c : Nat) (v3 : Int32) (v4 : Int32), (J (p 4) 2).toInt - v4.toInt ≤ c → nt_rn X d 225 (55, [(0, .ref (p 0)), (1, .int v1), (2, .int v2), (3, .int v3), (4, .int v4)], [], me_w M J) o → ∃ (w4 : Int32), nt_rn X d 225 (100, [(0, .ref (p 0)), (1, .int v1), (2, .int v2), (3, .int (x225_55 p v1 v2 J c v3 v4)), (4, .int w4)], [], me_w M J) o := by
  intro c
  induction c with
  | zero =>
    intro v3 v4 hc k
    have k := ly_revb 2 (c' := (58, [(0, .ref (p 0)), (1, .int v1), (2, .int v2), (3, .int v3), (4, .int v4)], [.ref (p 0), .int v4], me_w M J)) rfl k
    have k := lz_get (a := (p 0)) (g := 1127) (M := me_w M J) (v := .ref (p 4)) rfl (nt_gfR rfl (hp.1 (0, 27, 4) (by decide))) k
    have k := ly_revb 1 (c' := (62, [(0, .ref (p 0)), (1, .int v1), (2, .int v2), (3, .int v3), (4, .int v4)], [.int (Int32.ofInt 2), .ref (p 4), .int v4], me_w M J)) rfl k
    have k := mx_iald (v := J (p 4) 2) rfl (hp.2.2.1 4 (by omega)) ((congrArg (J (p 4)) (show (Int32.ofInt 2).toNatClampNeg = 2 from rfl)).trans (rfl)) k
    have k := ly_revb 1 (c' := (if (J (p 4) 2) ≤ v4 then 100 else 66, [(0, .ref (p 0)), (1, .int v1), (2, .int v2), (3, .int v3), (4, .int v4)], [], me_w M J)) rfl k
    have h63 : (J (p 4) 2) ≤ v4 := lx_end hc
    rw [if_pos h63] at k
    have k := nt_rn_w (a := [(0, .ref (p 0)), (1, .int v1), (2, .int v2), (3, .int v3), (4, .int v4)]) (b := [(0, .ref (p 0)), (1, .int v1), (2, .int v2), (3, .int v3), (4, .int v4)]) ⟨rfl, rfl, rfl, rfl, rfl, trivial⟩ rfl k
    rw [x225_55]
    exact ⟨_, k⟩
  | succ c ih =>
    intro v3 v4 hc k
    have k := ly_revb 2 (c' := (58, [(0, .ref (p 0)), (1, .int v1), (2, .int v2), (3, .int v3), (4, .int v4)], [.ref (p 0), .int v4], me_w M J)) rfl k
    have k := lz_get (a := (p 0)) (g := 1127) (M := me_w M J) (v := .ref (p 4)) rfl (nt_gfR rfl (hp.1 (0, 27, 4) (by decide))) k
    have k := ly_revb 1 (c' := (62, [(0, .ref (p 0)), (1, .int v1), (2, .int v2), (3, .int v3), (4, .int v4)], [.int (Int32.ofInt 2), .ref (p 4), .int v4], me_w M J)) rfl k
    have k := mx_iald (v := J (p 4) 2) rfl (hp.2.2.1 4 (by omega)) ((congrArg (J (p 4)) (show (Int32.ofInt 2).toNatClampNeg = 2 from rfl)).trans (rfl)) k
    have k := ly_revb 1 (c' := (if (J (p 4) 2) ≤ v4 then 100 else 66, [(0, .ref (p 0)), (1, .int v1), (2, .int v2), (3, .int v3), (4, .int v4)], [], me_w M J)) rfl k
    by_cases h63 : (J (p 4) 2) ≤ v4
    · rw [if_pos h63] at k
      have k := nt_rn_w (a := [(0, .ref (p 0)), (1, .int v1), (2, .int v2), (3, .int v3), (4, .int v4)]) (b := [(0, .ref (p 0)), (1, .int v1), (2, .int v2), (3, .int v3), (4, .int v4)]) ⟨rfl, rfl, rfl, rfl, rfl, trivial⟩ rfl k
      rw [x225_55, if_pos h63]
      exact ⟨_, k⟩
    · rw [if_neg h63] at k
      have k := ly_revb 3 (c' := (70, [(0, .ref (p 0)), (1, .int v1), (2, .int v2), (3, .int v3), (4, .int v4)], [.int v4, .ref (p 0), .int v3], me_w M J)) rfl k
      obtain ⟨d1, o1, ed, kc, k⟩ := lz_c (g := 172) (q := 1) (vs := [.ref (p 0), .int v4]) (rest := [.int v3]) rfl rfl (by decide) (Or.inr (Or.inl ⟨_, rfl, rfl⟩)) rfl k
      have e1 := xt172 hp kc
      subst e1
      have k : nt_rn X _ 225 (73, [(0, .ref (p 0)), (1, .int v1), (2, .int v2), (3, .int v3), (4, .int v4)], [.int (x172 p v4 J), .int v3], me_w M J) _ := k
      have k := ly_revb 1 (c' := (if (x172 p v4 J) = 0 then 91 else 76, [(0, .ref (p 0)), (1, .int v1), (2, .int v2), (3, .int v3), (4, .int v4)], [.int v3], me_w M J)) rfl k
      by_cases h73 : (x172 p v4 J) = 0
      · rw [if_pos h73] at k
        have k := ly_revb 5 (c' := (55, [(4, .int (v4 + (Int32.ofInt 1))), (3, .int (v3 + (Int32.ofInt 0))), (0, .ref (p 0)), (1, .int v1), (2, .int v2)], [], me_w M J)) rfl k
        have k := nt_rn_w (a := [(4, .int (v4 + (Int32.ofInt 1))), (3, .int (v3 + (Int32.ofInt 0))), (0, .ref (p 0)), (1, .int v1), (2, .int v2)]) (b := [(0, .ref (p 0)), (1, .int v1), (2, .int v2), (3, .int (v3 + (Int32.ofInt 0))), (4, .int (v4 + (Int32.ofInt 1)))]) ⟨rfl, rfl, rfl, rfl, rfl, trivial⟩ rfl k
        have k := ih (v3 + (Int32.ofInt 0)) (v4 + (Int32.ofInt 1)) (lx_dec h63 hc) k
        rw [x225_55, if_neg h63, if_pos h73]
        exact k
      · rw [if_neg h73] at k
        have k := ly_revb 3 (c' := (80, [(0, .ref (p 0)), (1, .int v1), (2, .int v2), (3, .int v3), (4, .int v4)], [.int (Int32.ofInt 0), .int v4, .ref (p 0), .int v3], me_w M J)) rfl k
        obtain ⟨d1, o1, ed, kc, k⟩ := lz_c (g := 173) (q := 1) (vs := [.ref (p 0), .int v4, .int (Int32.ofInt 0)]) (rest := [.int v3]) rfl rfl (by decide) (Or.inr (Or.inl ⟨_, rfl, rfl⟩)) rfl k
        have e1 := xt173 hp kc
        subst e1
        have k : nt_rn X _ 225 (83, [(0, .ref (p 0)), (1, .int v1), (2, .int v2), (3, .int v3), (4, .int v4)], [.int (x173 p v4 (Int32.ofInt 0) J), .int v3], me_w M J) _ := k
        have k := ly_revb 2 (c' := (if (x173 p v4 (Int32.ofInt 0) J) = v2 then 87 else 91, [(0, .ref (p 0)), (1, .int v1), (2, .int v2), (3, .int v3), (4, .int v4)], [.int v3], me_w M J)) rfl k
        by_cases h84 : (x173 p v4 (Int32.ofInt 0) J) = v2
        · rw [if_pos h84] at k
          have k := ly_revb 6 (c' := (55, [(4, .int (v4 + (Int32.ofInt 1))), (3, .int (v3 + (Int32.ofInt 1))), (0, .ref (p 0)), (1, .int v1), (2, .int v2)], [], me_w M J)) rfl k
          have k := nt_rn_w (a := [(4, .int (v4 + (Int32.ofInt 1))), (3, .int (v3 + (Int32.ofInt 1))), (0, .ref (p 0)), (1, .int v1), (2, .int v2)]) (b := [(0, .ref (p 0)), (1, .int v1), (2, .int v2), (3, .int (v3 + (Int32.ofInt 1))), (4, .int (v4 + (Int32.ofInt 1)))]) ⟨rfl, rfl, rfl, rfl, rfl, trivial⟩ rfl k
          have k := ih (v3 + (Int32.ofInt 1)) (v4 + (Int32.ofInt 1)) (lx_dec h63 hc) k
          rw [x225_55, if_neg h63, if_neg h73, if_pos h84]
          exact k
        · rw [if_neg h84] at k
          have k := ly_revb 5 (c' := (55, [(4, .int (v4 + (Int32.ofInt 1))), (3, .int (v3 + (Int32.ofInt 0))), (0, .ref (p 0)), (1, .int v1), (2, .int v2)], [], me_w M J)) rfl k
          have k := nt_rn_w (a := [(4, .int (v4 + (Int32.ofInt 1))), (3, .int (v3 + (Int32.ofInt 0))), (0, .ref (p 0)), (1, .int v1), (2, .int v2)]) (b := [(0, .ref (p 0)), (1, .int v1), (2, .int v2), (3, .int (v3 + (Int32.ofInt 0))), (4, .int (v4 + (Int32.ofInt 1)))]) ⟨rfl, rfl, rfl, rfl, rfl, trivial⟩ rfl k
          have k := ih (v3 + (Int32.ofInt 0)) (v4 + (Int32.ofInt 1)) (lx_dec h63 hc) k
          rw [x225_55, if_neg h63, if_neg h73, if_neg h84]
          exact k
def x225_103 (p : Nat → Nat) (v1 : Int32) (v2 : Int32) (J : Nat → Nat → Int32) : Nat → Int32 → Int32 → Int32
  | 0, v3, v4 => v3
  | c + 1, v3, v4 => if (J (p 4) 1) ≤ v4 then v3
    else if (x209 v1 v4) = 0 then (x225_103 p v1 v2 J c (v3 - (Int32.ofInt 0)) (v4 + (Int32.ofInt 1)))
      else (x225_103 p v1 v2 J c (v3 - (x169 p v4 v2 J)) (v4 + (Int32.ofInt 1)))
theorem xt225_103 {X : nt_X} {d : Nat} {M : nt_M} {o : Option Value × nt_M} {p : Nat → Nat} {v1 : Int32} {v2 : Int32} {J : Nat → Nat → Int32} (hp : xs_P M p) : ∀ (c : Nat) (v3 : Int32) (v4 : Int32), (J (p 4) 1).toInt - v4.toInt ≤ c → nt_rn X d 225 (103, [(0, .ref (p 0)), (1, .int v1), (2, .int v2), (3, .int v3), (4, .int v4)], [], me_w M J) o → ∃ (w4 : Int32), nt_rn X d 225 (143, [(0, .ref (p 0)), (1, .int v1), (2, .int v2), (3, .int (x225_103 p v1 v2 J c v3 v4)), (4, .int w4)], [], me_w M J) o := by
  intro c
  induction c with
  | zero =>
    intro v3 v4 hc k
    have k := ly_revb 2 (c' := (106, [(0, .ref (p 0)), (1, .int v1), (2, .int v2), (3, .int v3), (4, .int v4)], [.ref (p 0), .int v4], me_w M J)) rfl k
    have k := lz_get (a := (p 0)) (g := 1127) (M := me_w M J) (v := .ref (p 4)) rfl (nt_gfR rfl (hp.1 (0, 27, 4) (by decide))) k
    have k := ly_revb 1 (c' := (110, [(0, .ref (p 0)), (1, .int v1), (2, .int v2), (3, .int v3), (4, .int v4)], [.int (Int32.ofInt 1), .ref (p 4), .int v4], me_w M J)) rfl k
    have k := mx_iald (v := J (p 4) 1) rfl (hp.2.2.1 4 (by omega)) ((congrArg (J (p 4)) (show (Int32.ofInt 1).toNatClampNeg = 1 from rfl)).trans (rfl)) k
    have k := ly_revb 1 (c' := (if (J (p 4) 1) ≤ v4 then 143 else 114, [(0, .ref (p 0)), (1, .int v1), (2, .int v2), (3, .int v3), (4, .int v4)], [], me_w M J)) rfl k
    have h111 : (J (p 4) 1) ≤ v4 := lx_end hc
    rw [if_pos h111] at k
    have k := nt_rn_w (a := [(0, .ref (p 0)), (1, .int v1), (2, .int v2), (3, .int v3), (4, .int v4)]) (b := [(0, .ref (p 0)), (1, .int v1), (2, .int v2), (3, .int v3), (4, .int v4)]) ⟨rfl, rfl, rfl, rfl, rfl, trivial⟩ rfl k
    rw [x225_103]
    exact ⟨_, k⟩
  | succ c ih =>
    intro v3 v4 hc k
    have k := ly_revb 2 (c' := (106, [(0, .ref (p 0)), (1, .int v1), (2, .int v2), (3, .int v3), (4, .int v4)], [.ref (p 0), .int v4], me_w M J)) rfl k
    have k := lz_get (a := (p 0)) (g := 1127) (M := me_w M J) (v := .ref (p 4)) rfl (nt_gfR rfl (hp.1 (0, 27, 4) (by decide))) k
    have k := ly_revb 1 (c' := (110, [(0, .ref (p 0)), (1, .int v1), (2, .int v2), (3, .int v3), (4, .int v4)], [.int (Int32.ofInt 1), .ref (p 4), .int v4], me_w M J)) rfl k
    have k := mx_iald (v := J (p 4) 1) rfl (hp.2.2.1 4 (by omega)) ((congrArg (J (p 4)) (show (Int32.ofInt 1).toNatClampNeg = 1 from rfl)).trans (rfl)) k
    have k := ly_revb 1 (c' := (if (J (p 4) 1) ≤ v4 then 143 else 114, [(0, .ref (p 0)), (1, .int v1), (2, .int v2), (3, .int v3), (4, .int v4)], [], me_w M J)) rfl k
    by_cases h111 : (J (p 4) 1) ≤ v4
    · rw [if_pos h111] at k
      have k := nt_rn_w (a := [(0, .ref (p 0)), (1, .int v1), (2, .int v2), (3, .int v3), (4, .int v4)]) (b := [(0, .ref (p 0)), (1, .int v1), (2, .int v2), (3, .int v3), (4, .int v4)]) ⟨rfl, rfl, rfl, rfl, rfl, trivial⟩ rfl k
      rw [x225_103, if_pos h111]
      exact ⟨_, k⟩
    · rw [if_neg h111] at k
      have k := ly_revb 3 (c' := (118, [(0, .ref (p 0)), (1, .int v1), (2, .int v2), (3, .int v3), (4, .int v4)], [.int v4, .int v1, .int v3], me_w M J)) rfl k
      obtain ⟨d1, o1, ed, kc, k⟩ := lz_c (g := 209) (q := 0) (vs := [.int v1, .int v4]) (rest := [.int v3]) rfl rfl (by decide) (Or.inl ⟨_, rfl, rfl⟩) rfl k
      have e1 := xt209  kc
      subst e1
      have k : nt_rn X _ 225 (121, [(0, .ref (p 0)), (1, .int v1), (2, .int v2), (3, .int v3), (4, .int v4)], [.int (x209 v1 v4), .int v3], me_w M J) _ := k
      have k := ly_revb 1 (c' := (if (x209 v1 v4) = 0 then 134 else 124, [(0, .ref (p 0)), (1, .int v1), (2, .int v2), (3, .int v3), (4, .int v4)], [.int v3], me_w M J)) rfl k
      by_cases h121 : (x209 v1 v4) = 0
      · rw [if_pos h121] at k
        have k := ly_revb 5 (c' := (103, [(4, .int (v4 + (Int32.ofInt 1))), (3, .int (v3 - (Int32.ofInt 0))), (0, .ref (p 0)), (1, .int v1), (2, .int v2)], [], me_w M J)) rfl k
        have k := nt_rn_w (a := [(4, .int (v4 + (Int32.ofInt 1))), (3, .int (v3 - (Int32.ofInt 0))), (0, .ref (p 0)), (1, .int v1), (2, .int v2)]) (b := [(0, .ref (p 0)), (1, .int v1), (2, .int v2), (3, .int (v3 - (Int32.ofInt 0))), (4, .int (v4 + (Int32.ofInt 1)))]) ⟨rfl, rfl, rfl, rfl, rfl, trivial⟩ rfl k
        have k := ih (v3 - (Int32.ofInt 0)) (v4 + (Int32.ofInt 1)) (lx_dec h111 hc) k
        rw [x225_103, if_neg h111, if_pos h121]
        exact k
      · rw [if_neg h121] at k
        have k := ly_revb 3 (c' := (128, [(0, .ref (p 0)), (1, .int v1), (2, .int v2), (3, .int v3), (4, .int v4)], [.int v2, .int v4, .ref (p 0), .int v3], me_w M J)) rfl k
        obtain ⟨d1, o1, ed, kc, k⟩ := lz_c (g := 169) (q := 1) (vs := [.ref (p 0), .int v4, .int v2]) (rest := [.int v3]) rfl rfl (by decide) (Or.inr (Or.inl ⟨_, rfl, rfl⟩)) rfl k
        have e1 := xt169 hp kc
        subst e1
        have k : nt_rn X _ 225 (131, [(0, .ref (p 0)), (1, .int v1), (2, .int v2), (3, .int v3), (4, .int v4)], [.int (x169 p v4 v2 J), .int v3], me_w M J) _ := k
        have k := ly_revb 5 (c' := (103, [(4, .int (v4 + (Int32.ofInt 1))), (3, .int (v3 - (x169 p v4 v2 J))), (0, .ref (p 0)), (1, .int v1), (2, .int v2)], [], me_w M J)) rfl k
        have k := nt_rn_w (a := [(4, .int (v4 + (Int32.ofInt 1))), (3, .int (v3 - (x169 p v4 v2 J))), (0, .ref (p 0)), (1, .int v1), (2, .int v2)]) (b := [(0, .ref (p 0)), (1, .int v1), (2, .int v2), (3, .int (v3 - (x169 p v4 v2 J))), (4, .int (v4 + (Int32.ofInt 1)))]) ⟨rfl, rfl, rfl, rfl, rfl, trivial⟩ rfl k
        have k := ih (v3 - (x169 p v4 v2 J)) (v4 + (Int32.ofInt 1)) (lx_dec h111 hc) k
        rw [x225_103, if_neg h111, if_neg h121]
        exact k
def x225_40 (p : Nat → Nat) (v1 : Int32) (J : Nat → Nat → Int32) : Nat → Int32 → Int32
  | 0, v2 => (Int32.ofInt 1)
  | c + 1, v2 => if (J (p 4) 0) ≤ v2 then (Int32.ofInt 1)
    else if 0 ≤ (x225_103 p v1 v2 J ((J (p 4) 1).toNatClampNeg) (x225_55 p v1 v2 J ((J (p 4) 2).toNatClampNeg) (Int32.ofInt 0) (Int32.ofInt 0)) (Int32.ofInt 0)) then (x225_40 p v1 J c (v2 + (Int32.ofInt 1)))
      else (Int32.ofInt 0)
theorem xt225_40 {X : nt_X} {d : Nat} {M : nt_M} {o : Option Value × nt_M} {p : Nat → Nat} {v1 : Int32} {J : Nat → Nat → Int32} (hp : xs_P M p) : ∀ (c : Nat) (v2 : Int32) (v3 : Int32) (v4 : Int32), (J (p 4) 0).toInt - v2.toInt ≤ c → nt_rn X d 225 (40, [(0, .ref (p 0)), (1, .int v1), (2, .int v2), (3, .int v3), (4, .int v4)], [], me_w M J) o → o = (some (.int (x225_40 p v1 J c v2)), me_w M J) := by
  intro c
  induction c with
  | zero =>
    intro v2 v3 v4 hc k
    have k := ly_revb 2 (c' := (42, [(0, .ref (p 0)), (1, .int v1), (2, .int v2), (3, .int v3), (4, .int v4)], [.ref (p 0), .int v2], me_w M J)) rfl k
    have k := lz_get (a := (p 0)) (g := 1127) (M := me_w M J) (v := .ref (p 4)) rfl (nt_gfR rfl (hp.1 (0, 27, 4) (by decide))) k
    have k := ly_revb 1 (c' := (46, [(0, .ref (p 0)), (1, .int v1), (2, .int v2), (3, .int v3), (4, .int v4)], [.int (Int32.ofInt 0), .ref (p 4), .int v2], me_w M J)) rfl k
    have k := mx_iald (v := J (p 4) 0) rfl (hp.2.2.1 4 (by omega)) ((congrArg (J (p 4)) (show (Int32.ofInt 0).toNatClampNeg = 0 from rfl)).trans (rfl)) k
    have k := ly_revb 1 (c' := (if (J (p 4) 0) ≤ v2 then 155 else 50, [(0, .ref (p 0)), (1, .int v1), (2, .int v2), (3, .int v3), (4, .int v4)], [], me_w M J)) rfl k
    have h47 : (J (p 4) 0) ≤ v2 := lx_end hc
    rw [if_pos h47] at k
    have k := ly_revb 1 (c' := (156, [(0, .ref (p 0)), (1, .int v1), (2, .int v2), (3, .int v3), (4, .int v4)], [.int (Int32.ofInt 1)], me_w M J)) rfl k
    have k := lz_ri rfl (by decide) k
    rw [k, x225_40]
  | succ c ih =>
    intro v2 v3 v4 hc k
    have k := ly_revb 2 (c' := (42, [(0, .ref (p 0)), (1, .int v1), (2, .int v2), (3, .int v3), (4, .int v4)], [.ref (p 0), .int v2], me_w M J)) rfl k
    have k := lz_get (a := (p 0)) (g := 1127) (M := me_w M J) (v := .ref (p 4)) rfl (nt_gfR rfl (hp.1 (0, 27, 4) (by decide))) k
    have k := ly_revb 1 (c' := (46, [(0, .ref (p 0)), (1, .int v1), (2, .int v2), (3, .int v3), (4, .int v4)], [.int (Int32.ofInt 0), .ref (p 4), .int v2], me_w M J)) rfl k
    have k := mx_iald (v := J (p 4) 0) rfl (hp.2.2.1 4 (by omega)) ((congrArg (J (p 4)) (show (Int32.ofInt 0).toNatClampNeg = 0 from rfl)).trans (rfl)) k
    have k := ly_revb 1 (c' := (if (J (p 4) 0) ≤ v2 then 155 else 50, [(0, .ref (p 0)), (1, .int v1), (2, .int v2), (3, .int v3), (4, .int v4)], [], me_w M J)) rfl k
    by_cases h47 : (J (p 4) 0) ≤ v2
    · rw [if_pos h47] at k
      have k := ly_revb 1 (c' := (156, [(0, .ref (p 0)), (1, .int v1), (2, .int v2), (3, .int v3), (4, .int v4)], [.int (Int32.ofInt 1)], me_w M J)) rfl k
      have k := lz_ri rfl (by decide) k
      rw [k, x225_40, if_pos h47]
    · rw [if_neg h47] at k
      have k := ly_revb 4 (c' := (55, [(4, .int (Int32.ofInt 0)), (3, .int (Int32.ofInt 0)), (0, .ref (p 0)), (1, .int v1), (2, .int v2)], [], me_w M J)) rfl k
      have k := nt_rn_w (a := [(4, .int (Int32.ofInt 0)), (3, .int (Int32.ofInt 0)), (0, .ref (p 0)), (1, .int v1), (2, .int v2)]) (b := [(0, .ref (p 0)), (1, .int v1), (2, .int v2), (3, .int (Int32.ofInt 0)), (4, .int (Int32.ofInt 0))]) ⟨rfl, rfl, rfl, rfl, rfl, trivial⟩ rfl k
      have k := xt225_55 hp  ((J (p 4) 2).toNatClampNeg) (Int32.ofInt 0) (Int32.ofInt 0) (lx_beg (by decide)) k
      obtain ⟨w4, k⟩ := k
      have k : nt_rn X _ 225 (100, [(0, .ref (p 0)), (1, .int v1), (2, .int v2), (3, .int (x225_55 p v1 v2 J ((J (p 4) 2).toNatClampNeg) (Int32.ofInt 0) (Int32.ofInt 0))), (4, .int w4)], [], me_w M J) _ := k
      have k := ly_revb 2 (c' := (103, [(4, .int (Int32.ofInt 0)), (0, .ref (p 0)), (1, .int v1), (2, .int v2), (3, .int (x225_55 p v1 v2 J ((J (p 4) 2).toNatClampNeg) (Int32.ofInt 0) (Int32.ofInt 0)))], [], me_w M J)) rfl k
      have k := nt_rn_w (a := [(4, .int (Int32.ofInt 0)), (0, .ref (p 0)), (1, .int v1), (2, .int v2), (3, .int (x225_55 p v1 v2 J ((J (p 4) 2).toNatClampNeg) (Int32.ofInt 0) (Int32.ofInt 0)))]) (b := [(0, .ref (p 0)), (1, .int v1), (2, .int v2), (3, .int (x225_55 p v1 v2 J ((J (p 4) 2).toNatClampNeg) (Int32.ofInt 0) (Int32.ofInt 0))), (4, .int (Int32.ofInt 0))]) ⟨rfl, rfl, rfl, rfl, rfl, trivial⟩ rfl k
      have k := xt225_103 hp  ((J (p 4) 1).toNatClampNeg) (x225_55 p v1 v2 J ((J (p 4) 2).toNatClampNeg) (Int32.ofInt 0) (Int32.ofInt 0)) (Int32.ofInt 0) (lx_beg (by decide)) k
      obtain ⟨w4, k⟩ := k
      have k : nt_rn X _ 225 (143, [(0, .ref (p 0)), (1, .int v1), (2, .int v2), (3, .int (x225_103 p v1 v2 J ((J (p 4) 1).toNatClampNeg) (x225_55 p v1 v2 J ((J (p 4) 2).toNatClampNeg) (Int32.ofInt 0) (Int32.ofInt 0)) (Int32.ofInt 0))), (4, .int w4)], [], me_w M J) _ := k
      have k := ly_revb 2 (c' := (if 0 ≤ (x225_103 p v1 v2 J ((J (p 4) 1).toNatClampNeg) (x225_55 p v1 v2 J ((J (p 4) 2).toNatClampNeg) (Int32.ofInt 0) (Int32.ofInt 0)) (Int32.ofInt 0)) then 149 else 147, [(0, .ref (p 0)), (1, .int v1), (2, .int v2), (3, .int (x225_103 p v1 v2 J ((J (p 4) 1).toNatClampNeg) (x225_55 p v1 v2 J ((J (p 4) 2).toNatClampNeg) (Int32.ofInt 0) (Int32.ofInt 0)) (Int32.ofInt 0))), (4, .int w4)], [], me_w M J)) rfl k
      by_cases h144 : 0 ≤ (x225_103 p v1 v2 J ((J (p 4) 1).toNatClampNeg) (x225_55 p v1 v2 J ((J (p 4) 2).toNatClampNeg) (Int32.ofInt 0) (Int32.ofInt 0)) (Int32.ofInt 0))
      · rw [if_pos h144] at k
        have k := ly_revb 2 (c' := (40, [(2, .int (v2 + (Int32.ofInt 1))), (0, .ref (p 0)), (1, .int v1), (3, .int (x225_103 p v1 v2 J ((J (p 4) 1).toNatClampNeg) (x225_55 p v1 v2 J ((J (p 4) 2).toNatClampNeg) (Int32.ofInt 0) (Int32.ofInt 0)) (Int32.ofInt 0))), (4, .int w4)], [], me_w M J)) rfl k
        have k := nt_rn_w (a := [(2, .int (v2 + (Int32.ofInt 1))), (0, .ref (p 0)), (1, .int v1), (3, .int (x225_103 p v1 v2 J ((J (p 4) 1).toNatClampNeg) (x225_55 p v1 v2 J ((J (p 4) 2).toNatClampNeg) (Int32.ofInt 0) (Int32.ofInt 0)) (Int32.ofInt 0))), (4, .int w4)]) (b := [(0, .ref (p 0)), (1, .int v1), (2, .int (v2 + (Int32.ofInt 1))), (3, .int (x225_103 p v1 v2 J ((J (p 4) 1).toNatClampNeg) (x225_55 p v1 v2 J ((J (p 4) 2).toNatClampNeg) (Int32.ofInt 0) (Int32.ofInt 0)) (Int32.ofInt 0))), (4, .int w4)]) ⟨rfl, rfl, rfl, rfl, rfl, trivial⟩ rfl k
        have k := ih (v2 + (Int32.ofInt 1)) (x225_103 p v1 v2 J ((J (p 4) 1).toNatClampNeg) (x225_55 p v1 v2 J ((J (p 4) 2).toNatClampNeg) (Int32.ofInt 0) (Int32.ofInt 0)) (Int32.ofInt 0)) w4 (lx_dec h47 hc) k
        rw [k, x225_40, if_neg h47, if_pos h144]
      · rw [if_neg h144] at k
        have k := ly_revb 1 (c' := (148, [(0, .ref (p 0)), (1, .int v1), (2, .int v2), (3, .int (x225_103 p v1 v2 J ((J (p 4) 1).toNatClampNeg) (x225_55 p v1 v2 J ((J (p 4) 2).toNatClampNeg) (Int32.ofInt 0) (Int32.ofInt 0)) (Int32.ofInt 0))), (4, .int w4)], [.int (Int32.ofInt 0)], me_w M J)) rfl k
        have k := lz_ri rfl (by decide) k
        rw [k, x225_40, if_neg h47, if_neg h144]
def x225_2 (p : Nat → Nat) (v1 : Int32) (J : Nat → Nat → Int32) : Nat → Int32 → Int32
  | 0, v2 => (x225_40 p v1 J ((J (p 4) 0).toNatClampNeg) (Int32.ofInt 0))
  | c + 1, v2 => if (J (p 4) 1) ≤ v2 then (x225_40 p v1 J ((J (p 4) 0).toNatClampNeg) (Int32.ofInt 0))
    else if (x209 v1 v2) = 0 then (x225_2 p v1 J c (v2 + (Int32.ofInt 1)))
      else if (x169 p v2 (Int32.ofInt 4) J) = (Int32.ofInt 2) then (Int32.ofInt 0)
        else (x225_2 p v1 J c (v2 + (Int32.ofInt 1)))
theorem xt225_2 {X : nt_X} {d : Nat} {M : nt_M} {o : Option Value × nt_M} {p : Nat → Nat} {v1 : Int32} {J : Nat → Nat → Int32} (hp : xs_P M p) : ∀ (c : Nat) (v2 : Int32), (J (p 4) 1).toInt - v2.toInt ≤ c → nt_rn X d 225 (2, [(0, .ref (p 0)), (1, .int v1), (2, .int v2)], [], me_w M J) o → o = (some (.int (x225_2 p v1 J c v2)), me_w M J) := by
  intro c
  induction c with
  | zero =>
    intro v2 hc k
    have k := ly_revb 2 (c' := (4, [(0, .ref (p 0)), (1, .int v1), (2, .int v2)], [.ref (p 0), .int v2], me_w M J)) rfl k
    have k := lz_get (a := (p 0)) (g := 1127) (M := me_w M J) (v := .ref (p 4)) rfl (nt_gfR rfl (hp.1 (0, 27, 4) (by decide))) k
    have k := ly_revb 1 (c' := (8, [(0, .ref (p 0)), (1, .int v1), (2, .int v2)], [.int (Int32.ofInt 1), .ref (p 4), .int v2], me_w M J)) rfl k
    have k := mx_iald (v := J (p 4) 1) rfl (hp.2.2.1 4 (by omega)) ((congrArg (J (p 4)) (show (Int32.ofInt 1).toNatClampNeg = 1 from rfl)).trans (rfl)) k
    have k := ly_revb 1 (c' := (if (J (p 4) 1) ≤ v2 then 38 else 12, [(0, .ref (p 0)), (1, .int v1), (2, .int v2)], [], me_w M J)) rfl k
    have h9 : (J (p 4) 1) ≤ v2 := lx_end hc
    rw [if_pos h9] at k
    have k := ly_revb 2 (c' := (40, [(2, .int (Int32.ofInt 0)), (0, .ref (p 0)), (1, .int v1)], [], me_w M J)) rfl k
    have k := nt_rn_w (a := [(2, .int (Int32.ofInt 0)), (0, .ref (p 0)), (1, .int v1)]) (b := [(0, .ref (p 0)), (1, .int v1), (2, .int (Int32.ofInt 0)), (3, .int (Int32.ofInt 0)), (4, .int (Int32.ofInt 0))]) ⟨rfl, rfl, rfl, trivial⟩ rfl k
    have k := xt225_40 hp  ((J (p 4) 0).toNatClampNeg) (Int32.ofInt 0) (Int32.ofInt 0) (Int32.ofInt 0) (lx_beg (by decide)) k
    rw [k, x225_2]
  | succ c ih =>
    intro v2 hc k
    have k := ly_revb 2 (c' := (4, [(0, .ref (p 0)), (1, .int v1), (2, .int v2)], [.ref (p 0), .int v2], me_w M J)) rfl k
    have k := lz_get (a := (p 0)) (g := 1127) (M := me_w M J) (v := .ref (p 4)) rfl (nt_gfR rfl (hp.1 (0, 27, 4) (by decide))) k
    have k := ly_revb 1 (c' := (8, [(0, .ref (p 0)), (1, .int v1), (2, .int v2)], [.int (Int32.ofInt 1), .ref (p 4), .int v2], me_w M J)) rfl k
    have k := mx_iald (v := J (p 4) 1) rfl (hp.2.2.1 4 (by omega)) ((congrArg (J (p 4)) (show (Int32.ofInt 1).toNatClampNeg = 1 from rfl)).trans (rfl)) k
    have k := ly_revb 1 (c' := (if (J (p 4) 1) ≤ v2 then 38 else 12, [(0, .ref (p 0)), (1, .int v1), (2, .int v2)], [], me_w M J)) rfl k
    by_cases h9 : (J (p 4) 1) ≤ v2
    · rw [if_pos h9] at k
      have k := ly_revb 2 (c' := (40, [(2, .int (Int32.ofInt 0)), (0, .ref (p 0)), (1, .int v1)], [], me_w M J)) rfl k
      have k := nt_rn_w (a := [(2, .int (Int32.ofInt 0)), (0, .ref (p 0)), (1, .int v1)]) (b := [(0, .ref (p 0)), (1, .int v1), (2, .int (Int32.ofInt 0)), (3, .int (Int32.ofInt 0)), (4, .int (Int32.ofInt 0))]) ⟨rfl, rfl, rfl, trivial⟩ rfl k
      have k := xt225_40 hp  ((J (p 4) 0).toNatClampNeg) (Int32.ofInt 0) (Int32.ofInt 0) (Int32.ofInt 0) (lx_beg (by decide)) k
      rw [k, x225_2, if_pos h9]
    · rw [if_neg h9] at k
      have k := ly_revb 2 (c' := (14, [(0, .ref (p 0)), (1, .int v1), (2, .int v2)], [.int v2, .int v1], me_w M J)) rfl k
      obtain ⟨d1, o1, ed, kc, k⟩ := lz_c (g := 209) (q := 0) (vs := [.int v1, .int v2]) (rest := []) rfl rfl (by decide) (Or.inl ⟨_, rfl, rfl⟩) rfl k
      have e1 := xt209  kc
      subst e1
      have k : nt_rn X _ 225 (17, [(0, .ref (p 0)), (1, .int v1), (2, .int v2)], [.int (x209 v1 v2)], me_w M J) _ := k
      have k := ly_revb 1 (c' := (if (x209 v1 v2) = 0 then 32 else 20, [(0, .ref (p 0)), (1, .int v1), (2, .int v2)], [], me_w M J)) rfl k
      by_cases h17 : (x209 v1 v2) = 0
      · rw [if_pos h17] at k
        have k := ly_revb 2 (c' := (2, [(2, .int (v2 + (Int32.ofInt 1))), (0, .ref (p 0)), (1, .int v1)], [], me_w M J)) rfl k
        have k := nt_rn_w (a := [(2, .int (v2 + (Int32.ofInt 1))), (0, .ref (p 0)), (1, .int v1)]) (b := [(0, .ref (p 0)), (1, .int v1), (2, .int (v2 + (Int32.ofInt 1)))]) ⟨rfl, rfl, rfl, trivial⟩ rfl k
        have k := ih (v2 + (Int32.ofInt 1)) (lx_dec h9 hc) k
        rw [k, x225_2, if_neg h9, if_pos h17]
      · rw [if_neg h17] at k
        have k := ly_revb 3 (c' := (23, [(0, .ref (p 0)), (1, .int v1), (2, .int v2)], [.int (Int32.ofInt 4), .int v2, .ref (p 0)], me_w M J)) rfl k
        obtain ⟨d1, o1, ed, kc, k⟩ := lz_c (g := 169) (q := 1) (vs := [.ref (p 0), .int v2, .int (Int32.ofInt 4)]) (rest := []) rfl rfl (by decide) (Or.inr (Or.inl ⟨_, rfl, rfl⟩)) rfl k
        have e1 := xt169 hp kc
        subst e1
        have k : nt_rn X _ 225 (26, [(0, .ref (p 0)), (1, .int v1), (2, .int v2)], [.int (x169 p v2 (Int32.ofInt 4) J)], me_w M J) _ := k
        have k := ly_revb 2 (c' := (if (x169 p v2 (Int32.ofInt 4) J) = (Int32.ofInt 2) then 30 else 32, [(0, .ref (p 0)), (1, .int v1), (2, .int v2)], [], me_w M J)) rfl k
        by_cases h27 : (x169 p v2 (Int32.ofInt 4) J) = (Int32.ofInt 2)
        · rw [if_pos h27] at k
          have k := ly_revb 1 (c' := (31, [(0, .ref (p 0)), (1, .int v1), (2, .int v2)], [.int (Int32.ofInt 0)], me_w M J)) rfl k
          have k := lz_ri rfl (by decide) k
          rw [k, x225_2, if_neg h9, if_neg h17, if_pos h27]
        · rw [if_neg h27] at k
          have k := ly_revb 2 (c' := (2, [(2, .int (v2 + (Int32.ofInt 1))), (0, .ref (p 0)), (1, .int v1)], [], me_w M J)) rfl k
          have k := nt_rn_w (a := [(2, .int (v2 + (Int32.ofInt 1))), (0, .ref (p 0)), (1, .int v1)]) (b := [(0, .ref (p 0)), (1, .int v1), (2, .int (v2 + (Int32.ofInt 1)))]) ⟨rfl, rfl, rfl, trivial⟩ rfl k
          have k := ih (v2 + (Int32.ofInt 1)) (lx_dec h9 hc) k
          rw [k, x225_2, if_neg h9, if_neg h17, if_neg h27]
def x225 (p : Nat → Nat) (v1 : Int32) (J : Nat → Nat → Int32) : Int32 := (x225_2 p v1 J ((J (p 4) 1).toNatClampNeg) (Int32.ofInt 0))
theorem xt225 {X : nt_X} {d : Nat} {M : nt_M} {o : Option Value × nt_M} {p : Nat → Nat} {v1 : Int32} {J : Nat → Nat → Int32} (hp : xs_P M p) (k : nt_ev X d 225 [.ref (p 0), .int v1] (me_w M J) o) : o = (some (.int (x225 p v1 J)), me_w M J) := by
  have k : nt_rn X d 225 (0, [(0, .ref (p 0)), (1, .int v1)], [], me_w M J) o := k
  have k := ly_revb 2 (c' := (2, [(2, .int (Int32.ofInt 0)), (0, .ref (p 0)), (1, .int v1)], [], me_w M J)) rfl k
  have k := nt_rn_w (a := [(2, .int (Int32.ofInt 0)), (0, .ref (p 0)), (1, .int v1)]) (b := [(0, .ref (p 0)), (1, .int v1), (2, .int (Int32.ofInt 0))]) ⟨rfl, rfl, rfl, trivial⟩ rfl k
  have k := xt225_2 hp  ((J (p 4) 1).toNatClampNeg) (Int32.ofInt 0) (lx_beg (by decide)) k
  rw [k, x225]
/-! Model.dealt -/
def x223_23 (p : Nat → Nat) (v1 : Int32) (J : Nat → Nat → Int32) : Nat → Int32 → Int32 → Int32
  | 0, v2, v3 => if v1 = 0 then (x224 p v2 J)
    else v2
  | c + 1, v2, v3 => if ((Int32.ofInt 1) <<< ((J (p 4) 1) &&& 31)) ≤ v3 then if v1 = 0 then (x224 p v2 J)
      else v2
    else if (x224 p v2 J) < (x224 p v3 J) then if (x225 p v3 J) = 0 then (x223_23 p v1 J c v2 (v3 + (Int32.ofInt 1)))
        else (x223_23 p v1 J c v3 (v3 + (Int32.ofInt 1)))
      else if (x224 p v3 J) = (x224 p v2 J) then if (x214 v2) ≤ (x214 v3) then (x223_23 p v1 J c v2 (v3 + (Int32.ofInt 1)))
          else if (x225 p v3 J) = 0 then (x223_23 p v1 J c v2 (v3 + (Int32.ofInt 1)))
            else (x223_23 p v1 J c v3 (v3 + (Int32.ofInt 1)))
        else (x223_23 p v1 J c v2 (v3 + (Int32.ofInt 1)))
theorem xt223_23 {X : nt_X} {d : Nat} {M : nt_M} {o : Option Value × nt_M} {p : Nat → Nat} {v1 : Int32} {J : Nat → Nat → Int32} (hp : xs_P M p) : ∀ (c : Nat) (v2 : Int32) (v3 : Int32) (v4 : Int32), ((Int32.ofInt 1) <<< ((J (p 4) 1) &&& 31)).toInt - v3.toInt ≤ c → nt_rn X d 223 (23, [(0, .ref (p 0)), (1, .int v1), (2, .int v2), (3, .int v3), (4, .int v4)], [], me_w M J) o → o = (some (.int (x223_23 p v1 J c v2 v3)), me_w M J) := by
  intro c
  induction c with
  | zero =>
    intro v2 v3 v4 hc k
    have k := ly_revb 3 (c' := (26, [(0, .ref (p 0)), (1, .int v1), (2, .int v2), (3, .int v3), (4, .int v4)], [.ref (p 0), .int (Int32.ofInt 1), .int v3], me_w M J)) rfl k
    have k := lz_get (a := (p 0)) (g := 1127) (M := me_w M J) (v := .ref (p 4)) rfl (nt_gfR rfl (hp.1 (0, 27, 4) (by decide))) k
    have k := ly_revb 1 (c' := (30, [(0, .ref (p 0)), (1, .int v1), (2, .int v2), (3, .int v3), (4, .int v4)], [.int (Int32.ofInt 1), .ref (p 4), .int (Int32.ofInt 1), .int v3], me_w M J)) rfl k
    have k := mx_iald (v := J (p 4) 1) rfl (hp.2.2.1 4 (by omega)) ((congrArg (J (p 4)) (show (Int32.ofInt 1).toNatClampNeg = 1 from rfl)).trans (rfl)) k
    have k := ly_revb 2 (c' := (if ((Int32.ofInt 1) <<< ((J (p 4) 1) &&& 31)) ≤ v3 then 100 else 35, [(0, .ref (p 0)), (1, .int v1), (2, .int v2), (3, .int v3), (4, .int v4)], [], me_w M J)) rfl k
    have h32 : ((Int32.ofInt 1) <<< ((J (p 4) 1) &&& 31)) ≤ v3 := lx_end hc
    rw [if_pos h32] at k
    have k := ly_revb 2 (c' := (if v1 = 0 then 104 else 112, [(0, .ref (p 0)), (1, .int v1), (2, .int v2), (3, .int v3), (4, .int v4)], [], me_w M J)) rfl k
    by_cases h101 : v1 = 0
    · rw [if_pos h101] at k
      have k := ly_revb 2 (c' := (106, [(0, .ref (p 0)), (1, .int v1), (2, .int v2), (3, .int v3), (4, .int v4)], [.int v2, .ref (p 0)], me_w M J)) rfl k
      obtain ⟨d1, o1, ed, kc, k⟩ := lz_c (g := 224) (q := 1) (vs := [.ref (p 0), .int v2]) (rest := []) rfl rfl (by decide) (Or.inr (Or.inl ⟨_, rfl, rfl⟩)) rfl k
      have e1 := xt224 hp kc
      subst e1
      have k : nt_rn X _ 223 (109, [(0, .ref (p 0)), (1, .int v1), (2, .int v2), (3, .int v3), (4, .int v4)], [.int (x224 p v2 J)], me_w M J) _ := k
      have k := ly_revb 1 (c' := (113, [(0, .ref (p 0)), (1, .int v1), (2, .int v2), (3, .int v3), (4, .int v4)], [.int (x224 p v2 J)], me_w M J)) rfl k
      have k := lz_ri rfl (by decide) k
      rw [k, x223_23, if_pos h101]
    · rw [if_neg h101] at k
      have k := ly_revb 1 (c' := (113, [(0, .ref (p 0)), (1, .int v1), (2, .int v2), (3, .int v3), (4, .int v4)], [.int v2], me_w M J)) rfl k
      have k := lz_ri rfl (by decide) k
      rw [k, x223_23, if_neg h101]
  | succ c ih =>
    intro v2 v3 v4 hc k
    have k := ly_revb 3 (c' := (26, [(0, .ref (p 0)), (1, .int v1), (2, .int v2), (3, .int v3), (4, .int v4)], [.ref (p 0), .int (Int32.ofInt 1), .int v3], me_w M J)) rfl k
    have k := lz_get (a := (p 0)) (g := 1127) (M := me_w M J) (v := .ref (p 4)) rfl (nt_gfR rfl (hp.1 (0, 27, 4) (by decide))) k
    have k := ly_revb 1 (c' := (30, [(0, .ref (p 0)), (1, .int v1), (2, .int v2), (3, .int v3), (4, .int v4)], [.int (Int32.ofInt 1), .ref (p 4), .int (Int32.ofInt 1), .int v3], me_w M J)) rfl k
    have k := mx_iald (v := J (p 4) 1) rfl (hp.2.2.1 4 (by omega)) ((congrArg (J (p 4)) (show (Int32.ofInt 1).toNatClampNeg = 1 from rfl)).trans (rfl)) k
    have k := ly_revb 2 (c' := (if ((Int32.ofInt 1) <<< ((J (p 4) 1) &&& 31)) ≤ v3 then 100 else 35, [(0, .ref (p 0)), (1, .int v1), (2, .int v2), (3, .int v3), (4, .int v4)], [], me_w M J)) rfl k
    by_cases h32 : ((Int32.ofInt 1) <<< ((J (p 4) 1) &&& 31)) ≤ v3
    · rw [if_pos h32] at k
      have k := ly_revb 2 (c' := (if v1 = 0 then 104 else 112, [(0, .ref (p 0)), (1, .int v1), (2, .int v2), (3, .int v3), (4, .int v4)], [], me_w M J)) rfl k
      by_cases h101 : v1 = 0
      · rw [if_pos h101] at k
        have k := ly_revb 2 (c' := (106, [(0, .ref (p 0)), (1, .int v1), (2, .int v2), (3, .int v3), (4, .int v4)], [.int v2, .ref (p 0)], me_w M J)) rfl k
        obtain ⟨d1, o1, ed, kc, k⟩ := lz_c (g := 224) (q := 1) (vs := [.ref (p 0), .int v2]) (rest := []) rfl rfl (by decide) (Or.inr (Or.inl ⟨_, rfl, rfl⟩)) rfl k
        have e1 := xt224 hp kc
        subst e1
        have k : nt_rn X _ 223 (109, [(0, .ref (p 0)), (1, .int v1), (2, .int v2), (3, .int v3), (4, .int v4)], [.int (x224 p v2 J)], me_w M J) _ := k
        have k := ly_revb 1 (c' := (113, [(0, .ref (p 0)), (1, .int v1), (2, .int v2), (3, .int v3), (4, .int v4)], [.int (x224 p v2 J)], me_w M J)) rfl k
        have k := lz_ri rfl (by decide) k
        rw [k, x223_23, if_pos h32, if_pos h101]
      · rw [if_neg h101] at k
        have k := ly_revb 1 (c' := (113, [(0, .ref (p 0)), (1, .int v1), (2, .int v2), (3, .int v3), (4, .int v4)], [.int v2], me_w M J)) rfl k
        have k := lz_ri rfl (by decide) k
        rw [k, x223_23, if_pos h32, if_neg h101]
    · rw [if_neg h32] at k
      have k := ly_revb 2 (c' := (37, [(0, .ref (p 0)), (1, .int v1), (2, .int v2), (3, .int v3), (4, .int v4)], [.int v3, .ref (p 0)], me_w M J)) rfl k
      obtain ⟨d1, o1, ed, kc, k⟩ := lz_c (g := 224) (q := 1) (vs := [.ref (p 0), .int v3]) (rest := []) rfl rfl (by decide) (Or.inr (Or.inl ⟨_, rfl, rfl⟩)) rfl k
      have e1 := xt224 hp kc
      subst e1
      have k : nt_rn X _ 223 (40, [(0, .ref (p 0)), (1, .int v1), (2, .int v2), (3, .int v3), (4, .int v4)], [.int (x224 p v3 J)], me_w M J) _ := k
      have k := ly_revb 2 (c' := (42, [(0, .ref (p 0)), (1, .int v1), (2, .int v2), (3, .int v3), (4, .int v4)], [.int v2, .ref (p 0), .int (x224 p v3 J)], me_w M J)) rfl k
      obtain ⟨d1, o1, ed, kc, k⟩ := lz_c (g := 224) (q := 1) (vs := [.ref (p 0), .int v2]) (rest := [.int (x224 p v3 J)]) rfl rfl (by decide) (Or.inr (Or.inl ⟨_, rfl, rfl⟩)) rfl k
      have e1 := xt224 hp kc
      subst e1
      have k : nt_rn X _ 223 (45, [(0, .ref (p 0)), (1, .int v1), (2, .int v2), (3, .int v3), (4, .int v4)], [.int (x224 p v2 J), .int (x224 p v3 J)], me_w M J) _ := k
      have k := ly_revb 1 (c' := (if (x224 p v2 J) < (x224 p v3 J) then 72 else 48, [(0, .ref (p 0)), (1, .int v1), (2, .int v2), (3, .int v3), (4, .int v4)], [], me_w M J)) rfl k
      by_cases h45 : (x224 p v2 J) < (x224 p v3 J)
      · rw [if_pos h45] at k
        have k := ly_revb 5 (c' := (if (Int32.ofInt 1) = 0 then 94 else 84, [(4, .int (Int32.ofInt 1)), (0, .ref (p 0)), (1, .int v1), (2, .int v2), (3, .int v3)], [], me_w M J)) rfl k
        rw [if_neg (show ¬ ((Int32.ofInt 1) = 0) from by decide)] at k
        have k := ly_revb 2 (c' := (86, [(4, .int (Int32.ofInt 1)), (0, .ref (p 0)), (1, .int v1), (2, .int v2), (3, .int v3)], [.int v3, .ref (p 0)], me_w M J)) rfl k
        obtain ⟨d1, o1, ed, kc, k⟩ := lz_c (g := 225) (q := 1) (vs := [.ref (p 0), .int v3]) (rest := []) rfl rfl (by decide) (Or.inr (Or.inl ⟨_, rfl, rfl⟩)) rfl k
        have e1 := xt225 hp kc
        subst e1
        have k : nt_rn X _ 223 (89, [(4, .int (Int32.ofInt 1)), (0, .ref (p 0)), (1, .int v1), (2, .int v2), (3, .int v3)], [.int (x225 p v3 J)], me_w M J) _ := k
        have k := ly_revb 1 (c' := (if (x225 p v3 J) = 0 then 94 else 92, [(4, .int (Int32.ofInt 1)), (0, .ref (p 0)), (1, .int v1), (2, .int v2), (3, .int v3)], [], me_w M J)) rfl k
        by_cases h89 : (x225 p v3 J) = 0
        · rw [if_pos h89] at k
          have k := ly_revb 2 (c' := (23, [(3, .int (v3 + (Int32.ofInt 1))), (4, .int (Int32.ofInt 1)), (0, .ref (p 0)), (1, .int v1), (2, .int v2)], [], me_w M J)) rfl k
          have k := nt_rn_w (a := [(3, .int (v3 + (Int32.ofInt 1))), (4, .int (Int32.ofInt 1)), (0, .ref (p 0)), (1, .int v1), (2, .int v2)]) (b := [(0, .ref (p 0)), (1, .int v1), (2, .int v2), (3, .int (v3 + (Int32.ofInt 1))), (4, .int (Int32.ofInt 1))]) ⟨rfl, rfl, rfl, rfl, rfl, trivial⟩ rfl k
          have k := ih v2 (v3 + (Int32.ofInt 1)) (Int32.ofInt 1) (lx_dec h32 hc) k
          rw [k, x223_23, if_neg h32, if_pos h45, if_pos h89]
        · rw [if_neg h89] at k
          have k := ly_revb 4 (c' := (23, [(3, .int (v3 + (Int32.ofInt 1))), (2, .int v3), (4, .int (Int32.ofInt 1)), (0, .ref (p 0)), (1, .int v1)], [], me_w M J)) rfl k
          have k := nt_rn_w (a := [(3, .int (v3 + (Int32.ofInt 1))), (2, .int v3), (4, .int (Int32.ofInt 1)), (0, .ref (p 0)), (1, .int v1)]) (b := [(0, .ref (p 0)), (1, .int v1), (2, .int v3), (3, .int (v3 + (Int32.ofInt 1))), (4, .int (Int32.ofInt 1))]) ⟨rfl, rfl, rfl, rfl, rfl, trivial⟩ rfl k
          have k := ih v3 (v3 + (Int32.ofInt 1)) (Int32.ofInt 1) (lx_dec h32 hc) k
          rw [k, x223_23, if_neg h32, if_pos h45, if_neg h89]
      · rw [if_neg h45] at k
        have k := ly_revb 2 (c' := (50, [(0, .ref (p 0)), (1, .int v1), (2, .int v2), (3, .int v3), (4, .int v4)], [.int v3, .ref (p 0)], me_w M J)) rfl k
        obtain ⟨d1, o1, ed, kc, k⟩ := lz_c (g := 224) (q := 1) (vs := [.ref (p 0), .int v3]) (rest := []) rfl rfl (by decide) (Or.inr (Or.inl ⟨_, rfl, rfl⟩)) rfl k
        have e1 := xt224 hp kc
        subst e1
        have k : nt_rn X _ 223 (53, [(0, .ref (p 0)), (1, .int v1), (2, .int v2), (3, .int v3), (4, .int v4)], [.int (x224 p v3 J)], me_w M J) _ := k
        have k := ly_revb 2 (c' := (55, [(0, .ref (p 0)), (1, .int v1), (2, .int v2), (3, .int v3), (4, .int v4)], [.int v2, .ref (p 0), .int (x224 p v3 J)], me_w M J)) rfl k
        obtain ⟨d1, o1, ed, kc, k⟩ := lz_c (g := 224) (q := 1) (vs := [.ref (p 0), .int v2]) (rest := [.int (x224 p v3 J)]) rfl rfl (by decide) (Or.inr (Or.inl ⟨_, rfl, rfl⟩)) rfl k
        have e1 := xt224 hp kc
        subst e1
        have k : nt_rn X _ 223 (58, [(0, .ref (p 0)), (1, .int v1), (2, .int v2), (3, .int v3), (4, .int v4)], [.int (x224 p v2 J), .int (x224 p v3 J)], me_w M J) _ := k
        have k := ly_revb 1 (c' := (if (x224 p v3 J) = (x224 p v2 J) then 61 else 76, [(0, .ref (p 0)), (1, .int v1), (2, .int v2), (3, .int v3), (4, .int v4)], [], me_w M J)) rfl k
        by_cases h58 : (x224 p v3 J) = (x224 p v2 J)
        · rw [if_pos h58] at k
          have k := ly_revb 1 (c' := (62, [(0, .ref (p 0)), (1, .int v1), (2, .int v2), (3, .int v3), (4, .int v4)], [.int v3], me_w M J)) rfl k
          obtain ⟨d1, o1, ed, kc, k⟩ := lz_c (g := 214) (q := 0) (vs := [.int v3]) (rest := []) rfl rfl (by decide) (Or.inl ⟨_, rfl, rfl⟩) rfl k
          have e1 := xt214  kc
          subst e1
          have k : nt_rn X _ 223 (65, [(0, .ref (p 0)), (1, .int v1), (2, .int v2), (3, .int v3), (4, .int v4)], [.int (x214 v3)], me_w M J) _ := k
          have k := ly_revb 1 (c' := (66, [(0, .ref (p 0)), (1, .int v1), (2, .int v2), (3, .int v3), (4, .int v4)], [.int v2, .int (x214 v3)], me_w M J)) rfl k
          obtain ⟨d1, o1, ed, kc, k⟩ := lz_c (g := 214) (q := 0) (vs := [.int v2]) (rest := [.int (x214 v3)]) rfl rfl (by decide) (Or.inl ⟨_, rfl, rfl⟩) rfl k
          have e1 := xt214  kc
          subst e1
          have k : nt_rn X _ 223 (69, [(0, .ref (p 0)), (1, .int v1), (2, .int v2), (3, .int v3), (4, .int v4)], [.int (x214 v2), .int (x214 v3)], me_w M J) _ := k
          have k := ly_revb 1 (c' := (if (x214 v2) ≤ (x214 v3) then 76 else 72, [(0, .ref (p 0)), (1, .int v1), (2, .int v2), (3, .int v3), (4, .int v4)], [], me_w M J)) rfl k
          by_cases h69 : (x214 v2) ≤ (x214 v3)
          · rw [if_pos h69] at k
            have k := ly_revb 4 (c' := (if (Int32.ofInt 0) = 0 then 94 else 84, [(4, .int (Int32.ofInt 0)), (0, .ref (p 0)), (1, .int v1), (2, .int v2), (3, .int v3)], [], me_w M J)) rfl k
            rw [if_pos (show (Int32.ofInt 0) = 0 from by decide)] at k
            have k := ly_revb 2 (c' := (23, [(3, .int (v3 + (Int32.ofInt 1))), (4, .int (Int32.ofInt 0)), (0, .ref (p 0)), (1, .int v1), (2, .int v2)], [], me_w M J)) rfl k
            have k := nt_rn_w (a := [(3, .int (v3 + (Int32.ofInt 1))), (4, .int (Int32.ofInt 0)), (0, .ref (p 0)), (1, .int v1), (2, .int v2)]) (b := [(0, .ref (p 0)), (1, .int v1), (2, .int v2), (3, .int (v3 + (Int32.ofInt 1))), (4, .int (Int32.ofInt 0))]) ⟨rfl, rfl, rfl, rfl, rfl, trivial⟩ rfl k
            have k := ih v2 (v3 + (Int32.ofInt 1)) (Int32.ofInt 0) (lx_dec h32 hc) k
            rw [k, x223_23, if_neg h32, if_neg h45, if_pos h58, if_pos h69]
          · rw [if_neg h69] at k
            have k := ly_revb 5 (c' := (if (Int32.ofInt 1) = 0 then 94 else 84, [(4, .int (Int32.ofInt 1)), (0, .ref (p 0)), (1, .int v1), (2, .int v2), (3, .int v3)], [], me_w M J)) rfl k
            rw [if_neg (show ¬ ((Int32.ofInt 1) = 0) from by decide)] at k
            have k := ly_revb 2 (c' := (86, [(4, .int (Int32.ofInt 1)), (0, .ref (p 0)), (1, .int v1), (2, .int v2), (3, .int v3)], [.int v3, .ref (p 0)], me_w M J)) rfl k
            obtain ⟨d1, o1, ed, kc, k⟩ := lz_c (g := 225) (q := 1) (vs := [.ref (p 0), .int v3]) (rest := []) rfl rfl (by decide) (Or.inr (Or.inl ⟨_, rfl, rfl⟩)) rfl k
            have e1 := xt225 hp kc
            subst e1
            have k : nt_rn X _ 223 (89, [(4, .int (Int32.ofInt 1)), (0, .ref (p 0)), (1, .int v1), (2, .int v2), (3, .int v3)], [.int (x225 p v3 J)], me_w M J) _ := k
            have k := ly_revb 1 (c' := (if (x225 p v3 J) = 0 then 94 else 92, [(4, .int (Int32.ofInt 1)), (0, .ref (p 0)), (1, .int v1), (2, .int v2), (3, .int v3)], [], me_w M J)) rfl k
            by_cases h89 : (x225 p v3 J) = 0
            · rw [if_pos h89] at k
              have k := ly_revb 2 (c' := (23, [(3, .int (v3 + (Int32.ofInt 1))), (4, .int (Int32.ofInt 1)), (0, .ref (p 0)), (1, .int v1), (2, .int v2)], [], me_w M J)) rfl k
              have k := nt_rn_w (a := [(3, .int (v3 + (Int32.ofInt 1))), (4, .int (Int32.ofInt 1)), (0, .ref (p 0)), (1, .int v1), (2, .int v2)]) (b := [(0, .ref (p 0)), (1, .int v1), (2, .int v2), (3, .int (v3 + (Int32.ofInt 1))), (4, .int (Int32.ofInt 1))]) ⟨rfl, rfl, rfl, rfl, rfl, trivial⟩ rfl k
              have k := ih v2 (v3 + (Int32.ofInt 1)) (Int32.ofInt 1) (lx_dec h32 hc) k
              rw [k, x223_23, if_neg h32, if_neg h45, if_pos h58, if_neg h69, if_pos h89]
            · rw [if_neg h89] at k
              have k := ly_revb 4 (c' := (23, [(3, .int (v3 + (Int32.ofInt 1))), (2, .int v3), (4, .int (Int32.ofInt 1)), (0, .ref (p 0)), (1, .int v1)], [], me_w M J)) rfl k
              have k := nt_rn_w (a := [(3, .int (v3 + (Int32.ofInt 1))), (2, .int v3), (4, .int (Int32.ofInt 1)), (0, .ref (p 0)), (1, .int v1)]) (b := [(0, .ref (p 0)), (1, .int v1), (2, .int v3), (3, .int (v3 + (Int32.ofInt 1))), (4, .int (Int32.ofInt 1))]) ⟨rfl, rfl, rfl, rfl, rfl, trivial⟩ rfl k
              have k := ih v3 (v3 + (Int32.ofInt 1)) (Int32.ofInt 1) (lx_dec h32 hc) k
              rw [k, x223_23, if_neg h32, if_neg h45, if_pos h58, if_neg h69, if_neg h89]
        · rw [if_neg h58] at k
          have k := ly_revb 4 (c' := (if (Int32.ofInt 0) = 0 then 94 else 84, [(4, .int (Int32.ofInt 0)), (0, .ref (p 0)), (1, .int v1), (2, .int v2), (3, .int v3)], [], me_w M J)) rfl k
          rw [if_pos (show (Int32.ofInt 0) = 0 from by decide)] at k
          have k := ly_revb 2 (c' := (23, [(3, .int (v3 + (Int32.ofInt 1))), (4, .int (Int32.ofInt 0)), (0, .ref (p 0)), (1, .int v1), (2, .int v2)], [], me_w M J)) rfl k
          have k := nt_rn_w (a := [(3, .int (v3 + (Int32.ofInt 1))), (4, .int (Int32.ofInt 0)), (0, .ref (p 0)), (1, .int v1), (2, .int v2)]) (b := [(0, .ref (p 0)), (1, .int v1), (2, .int v2), (3, .int (v3 + (Int32.ofInt 1))), (4, .int (Int32.ofInt 0))]) ⟨rfl, rfl, rfl, rfl, rfl, trivial⟩ rfl k
          have k := ih v2 (v3 + (Int32.ofInt 1)) (Int32.ofInt 0) (lx_dec h32 hc) k
          rw [k, x223_23, if_neg h32, if_neg h45, if_neg h58]
def x223 (p : Nat → Nat) (v1 : Int32) (J : Nat → Nat → Int32) : Int32 := if (x188 p J) = 0 then (Int32.ofInt (-1))
  else if (x145 v1.toInt64 (Int64.ofNat 0) (Int64.ofNat 1)) = 0 then (Int32.ofInt (-1))
    else (x223_23 p v1 J (((Int32.ofInt 1) <<< ((J (p 4) 1) &&& 31)).toNatClampNeg) (Int32.ofInt 0) (Int32.ofInt 1))
theorem xt223 {X : nt_X} {d : Nat} {M : nt_M} {o : Option Value × nt_M} {p : Nat → Nat} {v1 : Int32} {J : Nat → Nat → Int32} (hp : xs_P M p) (k : nt_ev X d 223 [.ref (p 0), .int v1] (me_w M J) o) : o = (some (.int (x223 p v1 J)), me_w M J) := by
  have k : nt_rn X d 223 (0, [(0, .ref (p 0)), (1, .int v1)], [], me_w M J) o := k
  have k := ly_revb 1 (c' := (1, [(0, .ref (p 0)), (1, .int v1)], [.ref (p 0)], me_w M J)) rfl k
  obtain ⟨d1, o1, ed, kc, k⟩ := lz_c (g := 188) (q := 1) (vs := [.ref (p 0)]) (rest := []) rfl rfl (by decide) (Or.inr (Or.inl ⟨_, rfl, rfl⟩)) rfl k
  have e1 := xt188 hp kc
  subst e1
  have k : nt_rn X _ 223 (4, [(0, .ref (p 0)), (1, .int v1)], [.int (x188 p J)], me_w M J) _ := k
  have k := ly_revb 1 (c' := (if (x188 p J) = 0 then 17 else 7, [(0, .ref (p 0)), (1, .int v1)], [], me_w M J)) rfl k
  by_cases h4 : (x188 p J) = 0
  · rw [if_pos h4] at k
    have k := ly_revb 1 (c' := (18, [(0, .ref (p 0)), (1, .int v1)], [.int (Int32.ofInt (-1))], me_w M J)) rfl k
    have k := lz_ri rfl (by decide) k
    rw [k, x223, if_pos h4]
  · rw [if_neg h4] at k
    have k := ly_revb 4 (c' := (11, [(0, .ref (p 0)), (1, .int v1)], [.long (Int64.ofNat 1), .long (Int64.ofNat 0), .long v1.toInt64], me_w M J)) rfl k
    obtain ⟨d1, o1, ed, kc, k⟩ := lz_c (g := 145) (q := 0) (vs := [.long v1.toInt64, .long (Int64.ofNat 0), .long (Int64.ofNat 1)]) (rest := []) rfl rfl (by decide) (Or.inl ⟨_, rfl, rfl⟩) rfl k
    have e1 := xt145  kc
    subst e1
    have k : nt_rn X _ 223 (14, [(0, .ref (p 0)), (1, .int v1)], [.int (x145 v1.toInt64 (Int64.ofNat 0) (Int64.ofNat 1))], me_w M J) _ := k
    have k := ly_revb 1 (c' := (if (x145 v1.toInt64 (Int64.ofNat 0) (Int64.ofNat 1)) = 0 then 17 else 19, [(0, .ref (p 0)), (1, .int v1)], [], me_w M J)) rfl k
    by_cases h14 : (x145 v1.toInt64 (Int64.ofNat 0) (Int64.ofNat 1)) = 0
    · rw [if_pos h14] at k
      have k := ly_revb 1 (c' := (18, [(0, .ref (p 0)), (1, .int v1)], [.int (Int32.ofInt (-1))], me_w M J)) rfl k
      have k := lz_ri rfl (by decide) k
      rw [k, x223, if_neg h4, if_pos h14]
    · rw [if_neg h14] at k
      have k := ly_revb 4 (c' := (23, [(3, .int (Int32.ofInt 1)), (2, .int (Int32.ofInt 0)), (0, .ref (p 0)), (1, .int v1)], [], me_w M J)) rfl k
      have k := nt_rn_w (a := [(3, .int (Int32.ofInt 1)), (2, .int (Int32.ofInt 0)), (0, .ref (p 0)), (1, .int v1)]) (b := [(0, .ref (p 0)), (1, .int v1), (2, .int (Int32.ofInt 0)), (3, .int (Int32.ofInt 1)), (4, .int (Int32.ofInt 0))]) ⟨rfl, rfl, rfl, rfl, trivial⟩ rfl k
      have k := xt223_23 hp  (((Int32.ofInt 1) <<< ((J (p 4) 1) &&& 31)).toNatClampNeg) (Int32.ofInt 0) (Int32.ofInt 1) (Int32.ofInt 0) (lx_beg (by decide)) k
      rw [k, x223, if_neg h4, if_neg h14]
/-! Model.leastRot -/
end
section
/-! most, dealt, willDo, both sides -/
theorem z_has {a b : Int32} : x14 a b = x209 a b := by
  have h := sx_and_ok (x := a >>> (b &&& 31)) (y := Int32.ofInt 1) (by decide)
  have e : (Int32.ofInt 1).toInt = 1 := by decide
  unfold x14 x209
  by_cases c : (a >>> (b &&& 31)) &&& Int32.ofInt 1 = 0
  · rw [if_pos c, c, if_neg (show ¬ (0 : Int32) = Int32.ofInt 1 from by decide)]
  · have n : ((a >>> (b &&& 31)) &&& Int32.ofInt 1).toInt ≠ 0 := fun x => c (Int32.toInt_inj.mp (x.trans (by decide)))
    have d : (a >>> (b &&& 31)) &&& Int32.ofInt 1 = Int32.ofInt 1 := Int32.toInt_inj.mp (by omega)
    rw [if_neg c, if_pos d]
theorem zfK_l {p : Nat → Nat} {v : Int32} : ∀ (c : Nat) (i : Int32) (J : Nat → Nat → Int32), 0 ≤ i.toInt → 4 - i.toInt ≤ c → (∀ j, i.toNatClampNeg ≤ j → j < 4 → x238K_5 p v (Int32.ofNat 4) c i J (p 29) j = v) ∧ (∀ j, j < i.toNatClampNeg → x238K_5 p v (Int32.ofNat 4) c i J (p 29) j = J (p 29) j) := by
  intro c
  induction c with
  | zero =>
    intro i J h hc
    have t := z_tn h
    exact ⟨fun j a b => by omega, fun j a => rfl⟩
  | succ c ih =>
    intro i J h hc
    have t := z_tn h
    rw [x238K_5]
    by_cases h1 : Int32.ofNat 4 ≤ i
    · rw [if_pos h1]
      have h1 := z_ge.mp h1
      rw [show (Int32.ofNat 4).toInt = 4 from by decide] at h1
      exact ⟨fun j a b => by omega, fun j a => rfl⟩
    · rw [if_neg h1]
      have l := z_lt h1
      rw [show (Int32.ofNat 4).toInt = 4 from by decide] at l
      have hc' : (Int32.ofNat 4).toInt - i.toInt ≤ (c + 1 : Nat) := by
        rw [show (Int32.ofNat 4).toInt = 4 from by decide]
        exact hc
      have d := lx_dec h1 hc'
      rw [show (Int32.ofNat 4).toInt = 4 from by decide] at d
      have z := ih (i + Int32.ofInt 1) (nt_u J (p 29) i.toNatClampNeg v) (xi_nn h1 h) d
      have i1 : (i + Int32.ofInt 1).toNatClampNeg = i.toNatClampNeg + 1 := by
        rw [zn_t, zn_t, lx_inc h1]
        omega
      rw [i1] at z
      refine ⟨fun j a b => ?_, fun j a => ?_⟩
      · by_cases e : j = i.toNatClampNeg
        · rw [e, z.2 _ (by omega), me_us]
        · exact z.1 j (by omega) b
      · rw [z.2 j (by omega), me_uk (by omega)]
theorem zfK {p : Nat → Nat} {v : Int32} {J : Nat → Nat → Int32} {j : Nat} (hj : j < 4) : x238K p v J (p 29) j = v := (zfK_l (v := v) ((Int32.ofNat 4).toNatClampNeg) (Int32.ofInt 0) J (by decide) (by decide)).1 j (Nat.zero_le _) hj
theorem zfS_l {p : Nat → Nat} {v : Int32} : ∀ (c : Nat) (i : Int32) (J : Nat → Nat → Int32), 0 ≤ i.toInt → 4 - i.toInt ≤ c → (∀ j, i.toNatClampNeg ≤ j → j < 4 → x238S_5 p v (Int32.ofNat 4) c i J (p 30) j = v) ∧ (∀ j, j < i.toNatClampNeg → x238S_5 p v (Int32.ofNat 4) c i J (p 30) j = J (p 30) j) := by
  intro c
  induction c with
  | zero =>
    intro i J h hc
    have t := z_tn h
    exact ⟨fun j a b => by omega, fun j a => rfl⟩
  | succ c ih =>
    intro i J h hc
    have t := z_tn h
    rw [x238S_5]
    by_cases h1 : Int32.ofNat 4 ≤ i
    · rw [if_pos h1]
      have h1 := z_ge.mp h1
      rw [show (Int32.ofNat 4).toInt = 4 from by decide] at h1
      exact ⟨fun j a b => by omega, fun j a => rfl⟩
    · rw [if_neg h1]
      have l := z_lt h1
      rw [show (Int32.ofNat 4).toInt = 4 from by decide] at l
      have hc' : (Int32.ofNat 4).toInt - i.toInt ≤ (c + 1 : Nat) := by
        rw [show (Int32.ofNat 4).toInt = 4 from by decide]
        exact hc
      have d := lx_dec h1 hc'
      rw [show (Int32.ofNat 4).toInt = 4 from by decide] at d
      have z := ih (i + Int32.ofInt 1) (nt_u J (p 30) i.toNatClampNeg v) (xi_nn h1 h) d
      have i1 : (i + Int32.ofInt 1).toNatClampNeg = i.toNatClampNeg + 1 := by
        rw [zn_t, zn_t, lx_inc h1]
        omega
      rw [i1] at z
      refine ⟨fun j a b => ?_, fun j a => ?_⟩
      · by_cases e : j = i.toNatClampNeg
        · rw [e, z.2 _ (by omega), me_us]
        · exact z.1 j (by omega) b
      · rw [z.2 j (by omega), me_uk (by omega)]
theorem zfS {p : Nat → Nat} {v : Int32} {J : Nat → Nat → Int32} {j : Nat} (hj : j < 4) : x238S p v J (p 30) j = v := (zfS_l (v := v) ((Int32.ofNat 4).toNatClampNeg) (Int32.ofInt 0) J (by decide) (by decide)).1 j (Nat.zero_le _) hj
theorem zlk_l {p : Nat → Nat} {Jr : Nat → Nat → Int32} {b : Int} {k : Nat} (hp : zpd p) (hW : zW (Jr (p 4)) b) (hk : k < 4) : ∀ (c : Nat) (i : Int32) (J : Nat → Nat → Int32), 0 ≤ i.toInt → zR (fun i => p (31 + i)) J (Jr (p 4)) → x12F_31 p c i J (p 29) k = x210_4 p (Int32.ofInt (k : Int)) Jr c (J (p 29) k) i ∧ ∀ w, x12F_31 p c i J (p 30) k = x225_55 p w (Int32.ofInt (k : Int)) Jr c (J (p 30) k) i := by
  have n3 : p 29 ≠ p 30 := hp 29 30 (by omega) (by omega) (by omega)
  have o10 : ¬ Int32.ofInt 1 = 0 := by decide
  have o00 : Int32.ofInt 0 = 0 := rfl
  intro c
  induction c with
  | zero => intro i J h hR; exact ⟨rfl, fun _ => rfl⟩
  | succ c ih =>
    intro i J h hR
    have e2 : J (p 32) 2 = Jr (p 4) 2 := zR_n hR (i := 2) (by omega)
    by_cases h1 : Jr (p 4) 2 ≤ i
    · refine ⟨?_, fun w => ?_⟩
      · rw [x12F_31, x210_4, e2, if_pos h1, if_pos h1]
      · rw [x12F_31, x225_55, e2, if_pos h1, if_pos h1]
    · obtain ⟨hn, hi, c0, c1, c2, c3, c4, r0, r1, r2, r3, r4⟩ := zP hR hW.w h h1
      have c0 : J (p 34) i.toNatClampNeg = Jr (p 4) (52 + 5 * i.toNatClampNeg + 0) := c0
      have c1 : J (p 44) i.toNatClampNeg = Jr (p 4) (52 + 5 * i.toNatClampNeg + 1) := c1
      have c4 : J (p 46) i.toNatClampNeg = Jr (p 4) (52 + 5 * i.toNatClampNeg + 4) := c4
      have kn := hW.a.kn _ hn
      obtain ⟨K, eK⟩ : ∃ K, Jr (p 4) (52 + 5 * i.toNatClampNeg + 0) = K := ⟨_, rfl⟩
      obtain ⟨rt, er⟩ : ∃ rt, Jr (p 4) (52 + 5 * i.toNatClampNeg + 1) = rt := ⟨_, rfl⟩
      obtain ⟨lo, el⟩ : ∃ lo, Jr (p 4) (52 + 5 * i.toNatClampNeg + 4) = lo := ⟨_, rfl⟩
      rw [eK] at c0 r0 kn
      rw [er] at c1 r1
      rw [el] at c4 r4
      have ek : K = Int32.ofInt (k : Int) ↔ K.toNatClampNeg = k := by
        rw [zi_n (by omega : k < 1000), zn_t]
        omega
      have nx := zi_i h1 h
      have s172 : ∀ y, x172 p i Jr = y ↔ (if rt ≤ 0 then Int32.ofInt 0 else if lo = 0 then Int32.ofInt 1 else Int32.ofInt 0) = y := fun y => by
        unfold x172
        rw [r1, r4]
      by_cases l : lo = 0
      · have R' : ∀ x y : Int32, zR (fun i => p (31 + i)) (nt_u (nt_u J (p 29) K.toNatClampNeg x) (p 30) K.toNatClampNeg y) (Jr (p 4)) := fun x y => zR_aj (fun j hj => (me_uo (hp (31 + j) 30 (by omega) (by omega) (by omega))).trans (me_uo (hp (31 + j) 29 (by omega) (by omega) (by omega)))) hR
        by_cases r : rt ≤ 0
        · obtain ⟨z1, z2⟩ := ih (i + Int32.ofInt 1) _ nx (R' (J (p 29) K.toNatClampNeg + Int32.ofInt 1) (J (p 30) K.toNatClampNeg + Int32.ofInt 0))
          refine ⟨?_, fun w => ?_⟩
          · rw [x12F_31, x210_4, e2, if_neg h1, if_neg h1, c4, if_pos l, c1, if_pos r, c0, z1, r0, r4, me_uo n3]
            by_cases e : K = Int32.ofInt (k : Int)
            · rw [if_pos e, if_pos l, ek.mp e, me_us]
            · rw [if_neg e, me_uk (fun x => e (ek.mpr x.symm)), z_add0]
          · have s : x172 p i Jr = 0 := (s172 _).mpr (by rw [if_pos r, o00])
            rw [x12F_31, x225_55, e2, if_neg h1, if_neg h1, c4, if_pos l, c1, if_pos r, c0, z2 w, if_pos s, z_add0, z_add0]
            by_cases e : K.toNatClampNeg = k
            · rw [e, me_us]
            · rw [me_uk (fun x => e x.symm), me_uo (Ne.symm n3)]
        · obtain ⟨z1, z2⟩ := ih (i + Int32.ofInt 1) _ nx (R' (J (p 29) K.toNatClampNeg + Int32.ofInt 1) (J (p 30) K.toNatClampNeg + Int32.ofInt 1))
          refine ⟨?_, fun w => ?_⟩
          · rw [x12F_31, x210_4, e2, if_neg h1, if_neg h1, c4, if_pos l, c1, if_neg r, c0, z1, r0, r4, me_uo n3]
            by_cases e : K = Int32.ofInt (k : Int)
            · rw [if_pos e, if_pos l, ek.mp e, me_us]
            · rw [if_neg e, me_uk (fun x => e (ek.mpr x.symm)), z_add0]
          · have s : x172 p i Jr = Int32.ofInt 1 := (s172 _).mpr (by rw [if_neg r, if_pos l])
            rw [x12F_31, x225_55, e2, if_neg h1, if_neg h1, c4, if_pos l, c1, if_neg r, c0, z2 w, if_neg (show ¬ x172 p i Jr = 0 from by rw [s]; exact o10), r0]
            by_cases e : K = Int32.ofInt (k : Int)
            · rw [if_pos e, ek.mp e, me_us]
            · rw [if_neg e, me_uk (fun x => e (ek.mpr x.symm)), me_uo (Ne.symm n3), z_add0]
      · obtain ⟨z1, z2⟩ := ih (i + Int32.ofInt 1) J nx hR
        refine ⟨?_, fun w => ?_⟩
        · rw [x12F_31, x210_4, e2, if_neg h1, if_neg h1, c4, if_neg l, z1, r0, r4]
          by_cases e : K = Int32.ofInt (k : Int)
          · rw [if_pos e, if_neg l, z_add0]
          · rw [if_neg e, z_add0]
        · have s : x172 p i Jr = 0 := (s172 _).mpr (by rw [if_neg l, o00]; split <;> rfl)
          rw [x12F_31, x225_55, e2, if_neg h1, if_neg h1, c4, if_neg l, z2 w, if_pos s, z_add0]
theorem zlk_R {p : Nat → Nat} {Jc : Nat → Nat → Int32} {e : Nat → Int32} (hp : zpd p) (hR : zR (fun i => p (31 + i)) Jc e) : zR (fun i => p (31 + i)) (x12F p Jc) e := zR_aj (fun j hj => x12F_frJ (hp (31 + j) 29 (by omega) (by omega) (by omega)) (hp (31 + j) 30 (by omega) (by omega) (by omega))) hR
theorem zlk {p : Nat → Nat} {Jc Jr : Nat → Nat → Int32} {b : Int} {k : Nat} (hp : zpd p) (hR : zR (fun i => p (31 + i)) Jc (Jr (p 4))) (hW : zW (Jr (p 4)) b) (hk : k < 4) : x12F p Jc (p 29) k = x210 p (Int32.ofInt (k : Int)) Jr ∧ ∀ w, x12F p Jc (p 30) k = x225_55 p w (Int32.ofInt (k : Int)) Jr ((Jr (p 4) 2).toNatClampNeg) (Int32.ofInt 0) (Int32.ofInt 0) := by
  have n3 : p 29 ≠ p 30 := hp 29 30 (by omega) (by omega) (by omega)
  have R0 : zR (fun i => p (31 + i)) (x238S p (Int32.ofInt 0) (x238K p (Int32.ofInt 0) Jc)) (Jr (p 4)) := zR_aj (fun j hj => (x238S_frJ (hp (31 + j) 30 (by omega) (by omega) (by omega))).trans (x238K_frJ (hp (31 + j) 29 (by omega) (by omega) (by omega)))) hR
  have e2 : x238S p (Int32.ofInt 0) (x238K p (Int32.ofInt 0) Jc) (p 32) 2 = Jr (p 4) 2 := zR_n R0 (i := 2) (by omega)
  have z := zlk_l hp hW hk ((Jr (p 4) 2).toNatClampNeg) (Int32.ofInt 0) _ (by decide) R0
  have k29 : x238S p (Int32.ofInt 0) (x238K p (Int32.ofInt 0) Jc) (p 29) k = Int32.ofInt 0 := (congrFun (x238S_frJ n3) k).trans (zfK hk)
  rw [k29, zfS hk] at z
  unfold x12F x210
  rw [e2]
  exact z
theorem zq_25l {p : Nat → Nat} {J Jr : Nat → Nat → Int32} {s : Int32} (hR : zR (fun i => p (31 + i)) J (Jr (p 4))) (hW : xr_W (Jr (p 4))) : ∀ (c : Nat) (a i : Int32), 0 ≤ i.toInt → x25_4 p s J c a i = x224_4 p s Jr c a i := by
  intro c
  induction c with
  | zero => intro a i h; rfl
  | succ c ih =>
    intro a i h
    rw [x25_4, x224_4, show J (p 32) 3 = Jr (p 4) 3 from zR_n hR (i := 3) (by omega), show J (p 31) 2 = Jr (p 4) 4 from zR_4 hR]
    by_cases h1 : Jr (p 4) 3 ≤ i
    · rw [if_pos h1, if_pos h1]
    · obtain ⟨hn, hi, v0, v1, v2, v3, v4, u0, u1, u2, u3, u4⟩ := zV hR hW h h1
      have v0 : J (p 37) i.toNatClampNeg = Jr (p 4) (172 + 5 * i.toNatClampNeg + 0) := v0
      have v1 : J (p 38) i.toNatClampNeg = Jr (p 4) (172 + 5 * i.toNatClampNeg + 1) := v1
      have v3 : J (p 40) i.toNatClampNeg = Jr (p 4) (172 + 5 * i.toNatClampNeg + 3) := v3
      rw [if_neg h1, if_neg h1, z_has, v0, v1, v3, u0, u1, u3, ih _ _ (zi_i h1 h), ih _ _ (zi_i h1 h), z_add0]
theorem zq_25 {p : Nat → Nat} {J Jr : Nat → Nat → Int32} {s : Int32} (hR : zR (fun i => p (31 + i)) J (Jr (p 4))) (hW : xr_W (Jr (p 4))) : x25 p s J = x224 p s Jr := by
  unfold x25 x224
  rw [show J (p 32) 3 = Jr (p 4) 3 from zR_n hR (i := 3) (by omega)]
  exact zq_25l hR hW _ _ _ (by decide)
end
section
/-! sets of voyages -/
theorem zt_bit : ∀ n, n < 256 → ∀ i, i < 8 → ∀ j, j < 8 → x209 (nI (n ||| (1 <<< i))) (nI j) = (if j = i then Int32.ofInt 1 else x209 (nI n) (nI j)) := by decide +kernel
theorem zt_0 : ∀ j, j < 8 → x209 (nI 0) (nI j) = Int32.ofInt 0 := by decide +kernel
theorem zt_sh : ∀ m, m < 9 → (1 ≤ (Int32.ofInt 1 <<< (nI m &&& 31)).toInt ∧ (Int32.ofInt 1 <<< (nI m &&& 31)).toInt ≤ 256) ∧ (m < 7 → (Int32.ofInt 1 <<< (nI m &&& 31)).toInt ≤ 64) := by decide +kernel
theorem z_nI {x : Int32} (h0 : 0 ≤ x.toInt) (h1 : x.toInt < 100000) : x = nI x.toNatClampNeg := by
  have t := z_tn h0
  exact Int32.toInt_inj.mp (by rw [nI_toInt (by omega)]; exact t)
/-! which day fails -/
end
section
/-! look, most: both sides -/
def lk (M : nt_M) (p : Nat → Nat) : nt_M := nt_sR (nt_sR M (p 28) 0 (some (p 31))) (p 28) 1 (some (p 32))
theorem lk_R {M : nt_M} {p : Nat → Nat} {a j : Nat} (h : a = p 28 → j ≠ 0 ∧ j ≠ 1) : nt_R (lk M p) a j = nt_R M a j := by
  unfold lk
  rw [me_R, me_R]
  by_cases e : a = p 28
  · rw [if_pos e, if_neg (h e).2, if_pos e, if_neg (h e).1]
  · rw [if_neg e, if_neg e]
theorem lk_P {M : nt_M} {p : Nat → Nat} (hp : xs_P M p) : xs_P (lk M p) p := by
  refine ⟨fun t ht => ?_, hp.2.1, hp.2.2.1, hp.2.2.2⟩
  have l := (show ∀ t ∈ xs_U, t.1 < 66 ∧ (t.1 = 28 → t.2.1 ≠ 0 ∧ t.2.1 ≠ 1) from by decide) t ht
  rw [lk_R (fun e => l.2 (Classical.byContradiction fun c => hp.2.1 t.1 28 l.1 (by omega) c e))]
  exact hp.1 t ht
theorem lk_Q {M : nt_M} {p : Nat → Nat} (hp : xs_P M p) (hn : xs_Q M (fun i => p (31 + i))) : xs_Q (lk M p) (fun i => p (31 + i)) := by
  refine ⟨fun t ht => ?_, hn.2.1, hn.2.2.1, hn.2.2.2⟩
  have l := (show ∀ t ∈ xs_T, t.1 < 17 from by decide) t ht
  rw [lk_R (fun e => absurd e (hp.2.1 (31 + t.1) 28 (by omega) (by omega) (by omega)))]
  exact hn.1 t ht
theorem lk_V {M : nt_M} {p : Nat → Nat} (hl : nt_l M (p 29) = 4 ∧ nt_l M (p 30) = 4) : xs_V (lk M p) p := by
  refine ⟨?_, ?_, hl.1, hl.2⟩
  · unfold lk
    rw [me_R, me_R, if_pos rfl, if_neg (by omega), if_pos rfl, if_pos rfl]
  · unfold lk
    rw [me_R, if_pos rfl, if_pos rfl]
theorem zz_L {pl : Nat → Nat} {v : Nat → Int} {M : nt_M} (hB : ly_B pl v M) : nt_l M (pl 29) = 4 ∧ nt_l M (pl 30) = 4 := by
  have a := (hB.2.1.2 29 _ (show ly_E.2.1[29]? = some (13, 4, 4, 0) from rfl)).2.2.1
  have b := (hB.2.1.2 30 _ (show ly_E.2.1[30]? = some (13, 4, 4, 0) from rfl)).2.2.1
  dsimp only at a b
  exact ⟨by omega, by omega⟩
theorem xr12 {X : nt_X} {d : Nat} {M : nt_M} {o : Option Value × nt_M} {p : Nat → Nat} {J : Nat → Nat → Int32} (hp : xs_P M p) (hn : xs_Q M (fun i => p (31 + i))) (hl : nt_l M (p 29) = 4 ∧ nt_l M (p 30) = 4) (k : nt_ev X d 12 [.ref (p 28), .ref (p 31)] (me_w M J) o) : o = (none, me_w (lk M p) (x12F p J)) := by
  have k : nt_rn X d 12 (0, [(0, .ref (p 28)), (1, .ref (p 31))], [], me_w M J) o := k
  have k := ly_revb 2 (c' := (2, [(0, .ref (p 28)), (1, .ref (p 31))], [.ref (p 31), .ref (p 28)], me_w M J)) rfl k
  have k := lz_putr rfl (by decide) k
  have k : nt_rn X d 12 (5, [(0, .ref (p 28)), (1, .ref (p 31))], [], me_w (nt_sR M (p 28) 0 (some (p 31))) J) o := k
  have k := ly_revb 2 (c' := (7, [(0, .ref (p 28)), (1, .ref (p 31))], [.ref (p 31), .ref (p 28)], me_w (nt_sR M (p 28) 0 (some (p 31))) J)) rfl k
  have k := lz_get (a := (p 31)) (g := 600) (M := me_w (nt_sR M (p 28) 0 (some (p 31))) J) (v := .ref (p 32)) rfl (nt_gfR rfl ((me_Ro (hp.2.1 31 28 (by omega) (by omega) (by omega))).trans (hn.1 (0, 0, 1) (by decide)))) k
  have k := lz_putr rfl (by decide) k
  exact xt12F (lk_P hp) (lk_Q hp hn) (lk_V hl) k
theorem z_le1 {x : Int32} : x ≤ Int32.ofInt 1 ↔ x.toInt ≤ 1 := by
  rw [Int32.le_iff_toInt_le, show (Int32.ofInt 1).toInt = 1 from by decide]
theorem zt_n {e : Nat → Int32} {i : Int32} {k : Nat} (h : 0 ≤ i.toInt) (hk : (e k).toInt = zn e k) (hm : zn e k ≤ 8) (h1 : ¬ (Int32.ofInt 1 <<< (e k &&& 31)) ≤ i) : ∃ n, n < 256 ∧ i = nI n := by
  have l := z_lt h1
  have ek : e k = nI (zn e k) := z_nI (by omega) (by omega)
  have s := (zt_sh (zn e k) (by omega)).1
  rw [← ek] at s
  have t := z_tn h
  exact ⟨i.toNatClampNeg, by omega, z_nI h (by omega)⟩
end
section
/-! dealt: both sides -/
theorem xr122 {X : nt_X} {d : Nat} {M : nt_M} {o : Option Value × nt_M} {p : Nat → Nat} {v1 : Int32} {J : Nat → Nat → Int32} (hp : xs_P M p) (hn : xs_Q M (fun i => p (31 + i))) (hl : nt_l M (p 29) = 4 ∧ nt_l M (p 30) = 4) (k : nt_ev X d 122 [.ref (p 16), .int v1] (me_w M J) o) : o.1 = some (.int (if J (p 31) 1 = 0 then (Int32.ofInt (-1)) else if v1 < 0 then (Int32.ofInt (-1)) else if v1 ≤ Int32.ofInt 1 then x122F p v1 (x12F p J) else (Int32.ofInt (-1)))) := by
  have k : nt_rn X d 122 (0, [(0, .ref (p 16)), (1, .int v1)], [], me_w M J) o := k
  have k := ly_revb 1 (c' := (1, [(0, .ref (p 16)), (1, .int v1)], [.ref (p 16)], me_w M J)) rfl k
  have k := lz_get (a := (p 16)) (g := 1007) (M := me_w M J) (v := .ref (p 31)) rfl (nt_gfR rfl (hp.1 (16, 7, 31) (by decide))) k
  have k := lz_get (a := (p 31)) (g := 601) (M := me_w M J) (v := .int (J (p 31) 1)) rfl (congrArg Value.int (rfl)) k
  have k := ly_revb 1 (c' := (if (J (p 31) 1) = 0 then 19 else 10, [(0, .ref (p 16)), (1, .int v1)], [], me_w M J)) rfl k
  by_cases h7 : (J (p 31) 1) = 0
  · rw [if_pos h7] at k
    rw [if_pos h7]
    have k := ly_revb 1 (c' := (20, [(0, .ref (p 16)), (1, .int v1)], [.int (Int32.ofInt (-1))], me_w M J)) rfl k
    have k := lz_ri rfl (by decide) k
    rw [k]
  · rw [if_neg h7] at k
    rw [if_neg h7]
    have k := ly_revb 2 (c' := (if v1 < 0 then 19 else 14, [(0, .ref (p 16)), (1, .int v1)], [], me_w M J)) rfl k
    by_cases h11 : v1 < 0
    · rw [if_pos h11] at k
      rw [if_pos h11]
      have k := ly_revb 1 (c' := (20, [(0, .ref (p 16)), (1, .int v1)], [.int (Int32.ofInt (-1))], me_w M J)) rfl k
      have k := lz_ri rfl (by decide) k
      rw [k]
    · rw [if_neg h11] at k
      rw [if_neg h11]
      have k := ly_revb 3 (c' := (if v1 ≤ (Int32.ofInt 1) then 21 else 19, [(0, .ref (p 16)), (1, .int v1)], [], me_w M J)) rfl k
      by_cases h16 : v1 ≤ (Int32.ofInt 1)
      · rw [if_pos h16] at k
        rw [if_pos h16]
        have k := ly_revb 1 (c' := (22, [(0, .ref (p 16)), (1, .int v1)], [.ref (p 16)], me_w M J)) rfl k
        have k := lz_get (a := (p 16)) (g := 1006) (M := me_w M J) (v := .ref (p 28)) rfl (nt_gfR rfl (hp.1 (16, 6, 28) (by decide))) k
        have k := ly_revb 1 (c' := (26, [(0, .ref (p 16)), (1, .int v1)], [.ref (p 16), .ref (p 28)], me_w M J)) rfl k
        have k := lz_get (a := (p 16)) (g := 1007) (M := me_w M J) (v := .ref (p 31)) rfl (nt_gfR rfl (hp.1 (16, 7, 31) (by decide))) k
        obtain ⟨d1, o1, ed, kc, k⟩ := lz_c (g := 12) (q := 1) (vs := [.ref (p 28), .ref (p 31)]) (rest := []) rfl rfl (by decide) (Or.inr (Or.inl ⟨_, rfl, rfl⟩)) rfl k
        have e1 := xr12 hp hn hl kc
        subst e1
        have k : nt_rn X _ 122 (32, [(0, .ref (p 16)), (1, .int v1)], [], me_w (lk M p) (x12F p J)) _ := k
        rw [xt122F (lk_P hp) (lk_Q hp hn) (lk_V hl) k]
      · rw [if_neg h16] at k
        rw [if_neg h16]
        have k := ly_revb 1 (c' := (20, [(0, .ref (p 16)), (1, .int v1)], [.int (Int32.ofInt (-1))], me_w M J)) rfl k
        have k := lz_ri rfl (by decide) k
        rw [k]
theorem zt_and : ∀ n, n < 64 → ∀ l, l < 64 → (nI n &&& nI l = 0 ↔ ∀ j, j < 6 → x209 (nI n) (nI j) = 0 ∨ x209 (nI l) (nI j) = 0) := by decide +kernel
theorem zlo_l {p : Nat → Nat} {Jr : Nat → Nat → Int32} (hW : xr_W (Jr (p 4))) : ∀ (c : Nat) (i : Int32) (n : Nat), 0 ≤ i.toInt → (Jr (p 4) 1).toInt - i.toInt ≤ c → n < 64 → ∃ m, m < 64 ∧ x228_4 p Jr c (nI n) i = nI m ∧ ∀ j, j < 6 → x209 (nI m) (nI j) = (if i.toNatClampNeg ≤ j ∧ j < zn (Jr (p 4)) 1 ∧ Jr (p 4) (10 + 7 * j + 4) = Int32.ofInt 2 then Int32.ofInt 1 else x209 (nI n) (nI j)) := by
  have bb := zn_b hW
  intro c
  induction c with
  | zero =>
    intro i n h hc hn
    have t := z_tn h
    exact ⟨n, hn, rfl, fun j hj => by rw [if_neg (fun x => by omega)]⟩
  | succ c ih =>
    intro i n h hc hn
    have t := z_tn h
    rw [x228_4]
    by_cases h1 : Jr (p 4) 1 ≤ i
    · rw [if_pos h1]
      have h1 := z_ge.mp h1
      exact ⟨n, hn, rfl, fun j hj => by rw [if_neg (fun x => by omega)]⟩
    · have lt := z_lt h1
      have i1 : (i + Int32.ofInt 1).toNatClampNeg = i.toNatClampNeg + 1 := zx_i h1 h
      have ei : nI i.toNatClampNeg = i := (z_nI h (by omega)).symm
      have u4 : x169 p i (Int32.ofInt 4) Jr = Jr (p 4) (10 + 7 * i.toNatClampNeg + 4) := zx_s (k := 4) h (by omega) (by omega)
      rw [if_neg h1, u4]
      by_cases a : Jr (p 4) (10 + 7 * i.toNatClampNeg + 4) = Int32.ofInt 2
      · have l6 : i.toNatClampNeg < 6 := by omega
        obtain ⟨o1, o2⟩ := zb_or n hn i.toNatClampNeg l6
        rw [ei] at o1
        rw [if_pos a, o1]
        obtain ⟨m, m1, m2, m3⟩ := ih (i + Int32.ofInt 1) (n ||| (1 <<< i.toNatClampNeg)) (zi_i h1 h) (lx_dec h1 hc) o2
        refine ⟨m, m1, m2, fun j hj => ?_⟩
        rw [m3 j hj, i1, zt_bit n (by omega) i.toNatClampNeg (by omega) j (by omega)]
        by_cases ej : j = i.toNatClampNeg
        · rw [if_neg (fun x => by omega), if_pos ej, if_pos ⟨by omega, by omega, by rw [ej]; exact a⟩]
        · rw [if_neg ej]
          by_cases q : i.toNatClampNeg ≤ j ∧ j < zn (Jr (p 4)) 1 ∧ Jr (p 4) (10 + 7 * j + 4) = Int32.ofInt 2
          · rw [if_pos q, if_pos ⟨by omega, q.2⟩]
          · rw [if_neg q, if_neg (fun x => q ⟨by omega, x.2⟩)]
      · rw [if_neg a, z_or0]
        obtain ⟨m, m1, m2, m3⟩ := ih (i + Int32.ofInt 1) n (zi_i h1 h) (lx_dec h1 hc) hn
        refine ⟨m, m1, m2, fun j hj => ?_⟩
        rw [m3 j hj, i1]
        by_cases e : j = i.toNatClampNeg
        · rw [if_neg (fun x => by omega), if_neg (fun x => by rw [e] at x; exact a x.2.2)]
        · by_cases q : i.toNatClampNeg ≤ j ∧ j < zn (Jr (p 4)) 1 ∧ Jr (p 4) (10 + 7 * j + 4) = Int32.ofInt 2
          · rw [if_pos q, if_pos ⟨by omega, q.2⟩]
          · rw [if_neg q, if_neg (fun x => q ⟨by omega, x.2⟩)]
theorem z225_l {p : Nat → Nat} {s : Int32} {J : Nat → Nat → Int32} (hW : xr_W (J (p 4))) : ∀ (c : Nat) (i : Int32), 0 ≤ i.toInt → (J (p 4) 1).toInt - i.toInt ≤ c → ((∀ j, i.toNatClampNeg ≤ j → j < zn (J (p 4)) 1 → ¬ x209 s (nI j) = 0 → ¬ J (p 4) (10 + 7 * j + 4) = Int32.ofInt 2) → x225_2 p s J c i = x225_40 p s J ((J (p 4) 0).toNatClampNeg) (Int32.ofInt 0)) ∧ (¬ (∀ j, i.toNatClampNeg ≤ j → j < zn (J (p 4)) 1 → ¬ x209 s (nI j) = 0 → ¬ J (p 4) (10 + 7 * j + 4) = Int32.ofInt 2) → x225_2 p s J c i = Int32.ofInt 0) := by
  have bb := zn_b hW
  intro c
  induction c with
  | zero =>
    intro i h hc
    have t := z_tn h
    exact ⟨fun _ => rfl, fun x => absurd (fun j j1 j2 => by omega) x⟩
  | succ c ih =>
    intro i h hc
    have t := z_tn h
    rw [x225_2]
    by_cases h1 : J (p 4) 1 ≤ i
    · rw [if_pos h1]
      have h1 := z_ge.mp h1
      exact ⟨fun _ => rfl, fun x => absurd (fun j j1 j2 => by omega) x⟩
    · have lt := z_lt h1
      have i1 : (i + Int32.ofInt 1).toNatClampNeg = i.toNatClampNeg + 1 := zx_i h1 h
      have ei : nI i.toNatClampNeg = i := (z_nI h (by omega)).symm
      have u4 : x169 p i (Int32.ofInt 4) J = J (p 4) (10 + 7 * i.toNatClampNeg + 4) := zx_s (k := 4) h (by omega) (by omega)
      have z := ih (i + Int32.ofInt 1) (zi_i h1 h) (lx_dec h1 hc)
      rw [i1] at z
      rw [if_neg h1, u4]
      by_cases g : ¬ x209 s i = 0 ∧ J (p 4) (10 + 7 * i.toNatClampNeg + 4) = Int32.ofInt 2
      · rw [if_neg g.1, if_pos g.2]
        exact ⟨fun x => absurd g.2 (x i.toNatClampNeg (Nat.le_refl _) (by omega) (by rw [ei]; exact g.1)), fun _ => rfl⟩
      · have iff : (∀ j, i.toNatClampNeg ≤ j → j < zn (J (p 4)) 1 → ¬ x209 s (nI j) = 0 → ¬ J (p 4) (10 + 7 * j + 4) = Int32.ofInt 2) ↔ (∀ j, i.toNatClampNeg + 1 ≤ j → j < zn (J (p 4)) 1 → ¬ x209 s (nI j) = 0 → ¬ J (p 4) (10 + 7 * j + 4) = Int32.ofInt 2) := by
          refine ⟨fun x j j1 => x j (by omega), fun x j j1 j2 j3 j4 => ?_⟩
          by_cases e : j = i.toNatClampNeg
          · rw [e] at j3 j4
            rw [ei] at j3
            exact g ⟨j3, j4⟩
          · exact x j (by omega) j2 j3 j4
        rw [iff]
        by_cases a : x209 s i = 0
        · rw [if_pos a]
          exact z
        · rw [if_neg a, if_neg (fun y => g ⟨a, y⟩)]
          exact z
theorem zq_26i {p : Nat → Nat} {J Jr : Nat → Nat → Int32} {s k : Int32} (hR : zR (fun i => p (31 + i)) J (Jr (p 4))) (hW : xr_W (Jr (p 4))) (hk : 0 ≤ k.toInt ∧ k.toInt < (Jr (p 4) 0).toInt) : ∀ (c : Nat) (a i : Int32), 0 ≤ i.toInt → x26_23 p s k J c a i = x225_103 p s k Jr c a i := by
  intro c
  induction c with
  | zero => intro a i h; rfl
  | succ c ih =>
    intro a i h
    rw [x26_23, x225_103, show J (p 32) 1 = Jr (p 4) 1 from zR_n hR (i := 1) (by omega)]
    by_cases h1 : Jr (p 4) 1 ≤ i
    · rw [if_pos h1, if_pos h1]
    · obtain ⟨e1, e2⟩ := zq_87 hR hW ⟨h, z_lt h1⟩ hk
      rw [if_neg h1, if_neg h1, z_has, e1, e2, ih _ _ (zi_i h1 h), ih _ _ (zi_i h1 h)]
theorem zq_26l {p : Nat → Nat} {J Jr : Nat → Nat → Int32} {s : Int32} (hR : zR (fun i => p (31 + i)) J (Jr (p 4))) (hW : xr_W (Jr (p 4))) (hk : ∀ k, k < 4 → ∀ w, J (p 30) k = x225_55 p w (Int32.ofInt (k : Int)) Jr ((Jr (p 4) 2).toNatClampNeg) (Int32.ofInt 0) (Int32.ofInt 0)) : ∀ (c : Nat) (k : Int32), 0 ≤ k.toInt → x26_2 p s J c k = x225_40 p s Jr c k := by
  have bb := zn_b hW
  intro c
  induction c with
  | zero => intro k h; rfl
  | succ c ih =>
    intro k h
    rw [x26_2, x225_40, show J (p 32) 0 = Jr (p 4) 0 from zR_n hR (i := 0) (by omega), show J (p 32) 1 = Jr (p 4) 1 from zR_n hR (i := 1) (by omega)]
    by_cases h1 : Jr (p 4) 0 ≤ k
    · rw [if_pos h1, if_pos h1]
    · have lt := z_lt h1
      have t := z_tn h
      have e := hk k.toNatClampNeg (by omega) s
      rw [z_oi h (by omega)] at e
      rw [if_neg h1, if_neg h1, e, zq_26i hR hW ⟨h, lt⟩ _ _ _ (by decide), ih _ (zi_i h1 h)]
theorem z224_0l {p : Nat → Nat} {J : Nat → Nat → Int32} {b : Int} (hW : zW (J (p 4)) b) : ∀ (c : Nat) (i : Int32), 0 ≤ i.toInt → x224_4 p (Int32.ofInt 0) J c (Int32.ofInt 0) i = Int32.ofInt 0 := by
  have bb := zn_b hW.w
  intro c
  induction c with
  | zero => intro i h; rfl
  | succ c ih =>
    intro i h
    rw [x224_4]
    by_cases h1 : J (p 4) 3 ≤ i
    · rw [if_pos h1]
    · have x := zx bb.2.2.2.2.2.2.2 h h1
      have vo := hW.a.vo _ x.1
      have u0 : x180 p i (Int32.ofInt 0) J = J (p 4) (172 + 5 * i.toNatClampNeg + 0) := zx_v (k := 0) h (by omega) (by omega)
      obtain ⟨S, eS⟩ : ∃ S, J (p 4) (172 + 5 * i.toNatClampNeg + 0) = S := ⟨_, rfl⟩
      rw [eS] at u0 vo
      have ts := z_tn vo.1
      have e8 : nI S.toNatClampNeg = S := (z_nI vo.1 (by omega)).symm
      have e := zt_0 S.toNatClampNeg (by omega)
      rw [e8] at e
      have e : x209 (Int32.ofInt 0) S = 0 := e
      rw [if_neg h1, u0, if_pos e, z_add0]
      exact ih _ (zi_i h1 h)
theorem zdealt_l {p : Nat → Nat} {J Jr : Nat → Nat → Int32} {b : Int} {w : Int32} (hR : zR (fun i => p (31 + i)) J (Jr (p 4))) (hW : zW (Jr (p 4)) b) (hk : ∀ k, k < 4 → ∀ w, J (p 30) k = x225_55 p w (Int32.ofInt (k : Int)) Jr ((Jr (p 4) 2).toNatClampNeg) (Int32.ofInt 0) (Int32.ofInt 0)) : ∀ (c : Nat) (best set : Int32), 0 ≤ set.toInt → (∃ n, n < 256 ∧ best = nI n) → x223_23 p w Jr c best set = (if w = 0 then x224 p (x24_15 p (x228 p Jr) J c best (x224 p best Jr) set) Jr else x24_15 p (x228 p Jr) J c best (x224 p best Jr) set) := by
  have bb := zn_b hW.w
  have o10 : ¬ Int32.ofInt 1 = 0 := by decide
  have o00 : Int32.ofInt 0 = 0 := rfl
  have n00 : (Int32.ofInt 0).toNatClampNeg = 0 := rfl
  have z00 : (Int32.ofInt 0).toInt = 0 := by decide
  obtain ⟨l, l64, le, lb⟩ := zlo_l hW.w ((Jr (p 4) 1).toNatClampNeg) (Int32.ofInt 0) 0 (by decide) (by rw [zn_t, z00]; omega) (by omega)
  have le : x228 p Jr = nI l := le
  intro c
  induction c with
  | zero => intro best set h hb; rfl
  | succ c ih =>
    intro best set h hb
    rw [x223_23, x24_15, show J (p 32) 1 = Jr (p 4) 1 from zR_n hR (i := 1) (by omega)]
    by_cases h1 : Int32.ofInt 1 <<< (Jr (p 4) 1 &&& 31) ≤ set
    · simp only [-Int32.reduceOfInt, if_pos h1]
    · have hn := zt_n h bb.2.2.2.2.2.1 (by omega) h1
      have nx := zi_i h1 h
      have t1 : x236 best = x214 best := by
        obtain ⟨n, l, e⟩ := hb
        rw [e]
        exact zb_t n l
      have t2 : x236 set = x214 set := by
        obtain ⟨n, l, e⟩ := hn
        rw [e]
        exact zb_t n l
      have s64 : ∃ n, n < 64 ∧ set = nI n := by
        have ls := z_lt h1
        have ek : Jr (p 4) 1 = nI (zn (Jr (p 4)) 1) := z_nI (by omega) (by omega)
        have s := (zt_sh (zn (Jr (p 4)) 1) (by omega)).2 (by omega)
        rw [← ek] at s
        have t := z_tn h
        exact ⟨set.toNatClampNeg, by omega, z_nI h (by omega)⟩
      obtain ⟨n, n64, en⟩ := s64
      have L := z225_l (s := set) hW.w ((Jr (p 4) 1).toNatClampNeg) (Int32.ofInt 0) (by decide) (by rw [zn_t, z00]; omega)
      rw [n00] at L
      have al : set &&& x228 p Jr = 0 ↔ (∀ j, 0 ≤ j → j < zn (Jr (p 4)) 1 → ¬ x209 set (nI j) = 0 → ¬ Jr (p 4) (10 + 7 * j + 4) = Int32.ofInt 2) := by
        rw [le, en, zt_and n n64 l l64]
        constructor
        · intro x j _ j2 j3 j4
          have q := lb j (by omega)
          rw [n00, if_pos ⟨by omega, j2, j4⟩] at q
          rcases x j (by omega) with y | y
          · exact j3 y
          · rw [q] at y
            exact o10 y
        · intro x j j6
          by_cases a : x209 (nI n) (nI j) = 0
          · exact Or.inl a
          · refine Or.inr ?_
            rw [lb j j6, n00, if_neg (fun y => x j (by omega) y.2.1 a y.2.2)]
            exact zt_0 j (by omega)
      have c26 : x26 p set J = x225_40 p set Jr ((Jr (p 4) 0).toNatClampNeg) (Int32.ofInt 0) := by
        unfold x26
        rw [show J (p 32) 0 = Jr (p 4) 0 from zR_n hR (i := 0) (by omega)]
        exact zq_26l hR hW.w hk _ _ (by decide)
      have i0 := ih best (set + Int32.ofInt 1) nx hb
      have i1 := ih set (set + Int32.ofInt 1) nx hn
      simp only [-Int32.reduceOfInt, if_neg h1]
      rw [zq_25 hR hW.w]
      unfold x21
      rw [t1, t2]
      by_cases g0 : set &&& x228 p Jr = 0
      · have e225 : x225 p set Jr = x26 p set J := (L.1 (al.mp g0)).trans c26.symm
        simp only [-Int32.reduceOfInt, if_pos g0]
        rw [e225]
        by_cases c2 : x26 p set J = 0
        · simp only [-Int32.reduceOfInt, if_pos c2, ite_self]
          exact i0
        · simp only [-Int32.reduceOfInt, if_neg c2]
          by_cases c1 : x224 p best Jr < x224 p set Jr
          · simp only [-Int32.reduceOfInt, if_pos c1, if_neg o10]
            exact i1
          · by_cases c3 : x224 p set Jr = x224 p best Jr
            · by_cases c4 : x214 best ≤ x214 set
              · simp only [-Int32.reduceOfInt, if_neg c1, if_pos c3, if_pos c4, if_pos o00]
                exact i0
              · simp only [-Int32.reduceOfInt, if_neg c1, if_pos c3, if_neg c4, if_neg o10]
                exact i1
            · simp only [-Int32.reduceOfInt, if_neg c1, if_neg c3, if_pos o00]
              exact i0
      · have e225 : x225 p set Jr = 0 := L.2 (fun y => g0 (al.mpr y))
        simp only [-Int32.reduceOfInt, if_neg g0, if_pos e225, ite_self]
        exact i0
theorem zq_122 {p : Nat → Nat} {Jc Jr : Nat → Nat → Int32} {v1 : Int32} {b : Int} (hp : zpd p) (hR : zR (fun i => p (31 + i)) Jc (Jr (p 4))) (hW : zW (Jr (p 4)) b) : (if Jc (p 31) 1 = 0 then (Int32.ofInt (-1)) else if v1 < 0 then (Int32.ofInt (-1)) else if v1 ≤ Int32.ofInt 1 then x122F p v1 (x12F p Jc) else (Int32.ofInt (-1))) = x223 p v1 Jr := by
  have t : Jc (p 31) 1 = 0 ↔ x188 p Jr = 0 := z_told hR hW.w
  unfold x223
  by_cases c1 : Jc (p 31) 1 = 0
  · rw [if_pos c1, if_pos (t.mp c1)]
  · rw [if_neg c1, if_neg (fun x => c1 (t.mpr x)), z_145, z_j0, z_j1]
    by_cases c2 : v1.toInt < 0
    · rw [if_pos (z_i0.mpr c2), if_pos (show v1.toInt < 0 ∨ 1 < v1.toInt from Or.inl c2), if_pos (show Int32.ofInt 0 = 0 from rfl)]
    · rw [if_neg (fun h => c2 (z_i0.mp h))]
      by_cases c3 : 1 < v1.toInt
      · rw [if_neg (fun h => by have := z_le1.mp h; omega), if_pos (show v1.toInt < 0 ∨ 1 < v1.toInt from Or.inr c3), if_pos (show Int32.ofInt 0 = 0 from rfl)]
      · rw [if_pos (z_le1.mpr (by omega)), if_neg (show ¬ (v1.toInt < 0 ∨ 1 < v1.toInt) from by omega), if_neg (show ¬ Int32.ofInt 1 = 0 from by decide)]
        have RR := zlk_R hp hR
        have z := zdealt_l (w := v1) RR hW (fun k hk => (zlk hp hR hW hk).2) ((Int32.ofInt 1 <<< (Jr (p 4) 1 &&& 31)).toNatClampNeg) (Int32.ofInt 0) (Int32.ofInt 1) (by decide) ⟨0, by omega, rfl⟩
        rw [show x224 p (Int32.ofInt 0) Jr = Int32.ofInt 0 from z224_0l hW _ _ (by decide)] at z
        rw [z]
        unfold x122F x24
        rw [show x12F p Jc (p 32) 1 = Jr (p 4) 1 from zR_n RR (i := 1) (by omega), zq_25 RR hW.w, zq_79 RR hW.w]
theorem zz_a_dealt {X : nt_X} {pl : Nat → Nat} {v v1 : Nat → Int} {M M1 M2 : nt_M} {y1 y2 a : Int32} (hB : ly_B pl v M) (hB1 : ly_B pl v1 M1) (e1 : nt_ev X 99 122 [.ref (pl 16), .int a] M (some (.int y1), M1)) (e2 : nt_ev X 99 223 [.ref (pl 0), .int a] M1 (some (.int y2), M2)) (hZ : zz_E pl M) : y1 = y2 := by
  have t1 : zz_T zz_ok pl M M1 := zz_g1 a (ko_w_n_dealt X) rfl (by decide +kernel) (by decide +kernel) (by decide) hB e1
  have r4 : nt_I M1 (pl 4) = nt_I M (pl 4) := t1 4 (by omega) rfl
  obtain ⟨hR, hW, hd, hz⟩ := hZ.1
  rw [← r4] at hR hW
  have y1e := xr122 (p := pl) (J := nt_I M) (zz_P hB) (zz_Qn hB) (zz_L hB) e1
  obtain ⟨y2e, _⟩ := lq_out (xt223 (p := pl) (J := nt_I M1) (zz_P hB1) e2)
  have y1e := Value.int.inj (Option.some.inj y1e)
  rw [y1e, y2e]
  exact zq_122 (zz_ne hB) hR hW
end
