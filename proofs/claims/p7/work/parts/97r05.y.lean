/-! a new yard is the same on both sides -/
theorem yg_0 {q : Nat → Nat} {v : Int32} {J : Nat → Nat → Int32} (hq : zq q) : (x64 q v J (q 0) 1 = Int32.ofInt 1 ∧ x64 q v J (q 0) 2 = Int32.ofInt 0 ∧ x64 q v J (q 0) 3 = Int32.ofInt 0 ∧ x64 q v J (q 0) 4 = Int32.ofInt 0 ∧ x64 q v J (q 0) 5 = Int32.ofInt 0) ∧ (∀ j, j < 6 → x64 q v J (q 10) j = Int32.ofInt 0 ∧ x64 q v J (q 11) j = Int32.ofInt 0 ∧ x64 q v J (q 12) j = Int32.ofInt (-1)) ∧ (∀ j, j < 24 → x64 q v J (q 13) j = J (q 4) j ∧ x64 q v J (q 14) j = Int32.ofInt (-1) ∧ x64 q v J (q 15) j = vp_nar .boolean (Int32.ofInt 0)) ∧ (∀ j, j < 8 → x64 q v J (q 16) j = Int32.ofInt 0) := by
  have ne : ∀ i j, i < 17 → j < 17 → i ≠ j → q i ≠ q j := hq
  unfold x64
  obtain ⟨JA, hA⟩ : ∃ JA, JA = nt_u (nt_u (nt_u (nt_u (nt_u (nt_u J (q 0) 1 (Int32.ofInt 1)) (q 0) 2 (Int32.ofInt 0)) (q 0) 3 (Int32.ofInt 0)) (q 0) 4 (Int32.ofInt 0)) (q 0) 5 (Int32.ofInt 0)) (q 0) 6 v := ⟨_, rfl⟩
  rw [← hA]
  obtain ⟨JB, hB⟩ : ∃ JB, JB = x64_32 q ((Int32.ofInt 6).toNatClampNeg) (Int32.ofInt 0) JA := ⟨_, rfl⟩
  rw [← hB]
  obtain ⟨JC, hC⟩ : ∃ JC, JC = x64_67 q ((Int32.ofInt 24).toNatClampNeg) (Int32.ofInt 0) JB := ⟨_, rfl⟩
  rw [← hC]
  obtain ⟨JD, hD⟩ : ∃ JD, JD = x64_110 q ((Int32.ofInt 8).toNatClampNeg) (Int32.ofInt 0) JC := ⟨_, rfl⟩
  rw [← hD]
  have vB := yg_32 hq 6 0 JA (by omega) (by omega)
  have eJB : x64_32 q 6 (nI 0) JA = JB := hB.symm
  rw [eJB] at vB
  have vC := yg_67 hq 24 0 JB (by omega) (by omega)
  have eJC : x64_67 q 24 (nI 0) JB = JC := hC.symm
  rw [eJC] at vC
  have vD := yg_110 hq 8 0 JC (by omega) (by omega)
  have eJD : x64_110 q 8 (nI 0) JC = JD := hD.symm
  rw [eJD] at vD
  have fD : ∀ i, i < 16 → JD (q i) = JC (q i) := fun i hi => by
    rw [hD]
    exact x64_110_frJ _ _ _ (ne i 16 (by omega) (by omega) (by omega))
  have fC : ∀ i, i < 17 → i ≠ 13 → i ≠ 14 → i ≠ 15 → JC (q i) = JB (q i) := fun i hi a b c => by
    rw [hC]
    exact x64_67_frJ _ _ _ (ne i 13 hi (by omega) a) (ne i 14 hi (by omega) b) (ne i 15 hi (by omega) c)
  have fB : ∀ i, i < 17 → i ≠ 10 → i ≠ 11 → i ≠ 12 → JB (q i) = JA (q i) := fun i hi a b c => by
    rw [hB]
    exact x64_32_frJ _ _ _ (ne i 10 hi (by omega) a) (ne i 11 hi (by omega) b) (ne i 12 hi (by omega) c)
  have e0 : JD (q 0) = JA (q 0) := by rw [fD 0 (by omega), fC 0 (by omega) (by decide) (by decide) (by decide), fB 0 (by omega) (by decide) (by decide) (by decide)]
  have e4 : JB (q 4) = J (q 4) := by
    have n4 := ne 4 0 (by omega) (by omega) (by decide)
    rw [fB 4 (by omega) (by decide) (by decide) (by decide), hA, me_uo n4, me_uo n4, me_uo n4, me_uo n4, me_uo n4, me_uo n4]
  refine ⟨⟨?_, ?_, ?_, ?_, ?_⟩, fun j hj => ⟨?_, ?_, ?_⟩, fun j hj => ⟨?_, ?_, ?_⟩, fun j hj => ?_⟩
  · rw [e0, hA, me_uk (by decide), me_uk (by decide), me_uk (by decide), me_uk (by decide), me_uk (by decide), me_us]
  · rw [e0, hA, me_uk (by decide), me_uk (by decide), me_uk (by decide), me_uk (by decide), me_us]
  · rw [e0, hA, me_uk (by decide), me_uk (by decide), me_uk (by decide), me_us]
  · rw [e0, hA, me_uk (by decide), me_uk (by decide), me_us]
  · rw [e0, hA, me_uk (by decide), me_us]
  · rw [fD 10 (by omega), fC 10 (by omega) (by decide) (by decide) (by decide), vB.1 j, if_pos (by omega)]
  · rw [fD 11 (by omega), fC 11 (by omega) (by decide) (by decide) (by decide), vB.2.1 j, if_pos (by omega)]
  · rw [fD 12 (by omega), fC 12 (by omega) (by decide) (by decide) (by decide), vB.2.2 j, if_pos (by omega)]
  · rw [fD 13 (by omega), vC.1 j, if_pos (by omega), e4]
  · rw [fD 14 (by omega), vC.2.1 j, if_pos (by omega)]
  · rw [fD 15 (by omega), vC.2.2 j, if_pos (by omega)]
  · rw [vD j, if_pos (by omega)]
theorem yg_fr {q : Nat → Nat} {v : Int32} {J : Nat → Nat → Int32} (hq : zq q) (i : Nat) (h1 : 1 ≤ i) (h2 : i ≤ 9) : x64 q v J (q i) = J (q i) := x64_frJ (hq i 0 (by omega) (by omega) (by omega)) (hq i 10 (by omega) (by omega) (by omega)) (hq i 11 (by omega) (by omega) (by omega)) (hq i 12 (by omega) (by omega) (by omega)) (hq i 13 (by omega) (by omega) (by omega)) (hq i 14 (by omega) (by omega) (by omega)) (hq i 15 (by omega) (by omega) (by omega)) (hq i 16 (by omega) (by omega) (by omega))
theorem yy_R {q : Nat → Nat} {JY : Nat → Nat → Int32} {e : Nat → Int32} {u : Nat × Nat × Nat × Nat × Nat} {D D' : lb_C} {x x' : Int32} (hq : zq q) (hub : lb_ub u) (hk1 : 1 ≤ u.1) (hY : (JY (q 1) 0 = nI u.1 ∧ JY (q 1) 1 = nI u.2.1 ∧ JY (q 1) 2 = nI u.2.2.1 ∧ JY (q 1) 3 = nI u.2.2.2.1 ∧ JY (q 1) 4 = nI (lb_hd u.2.2.2.2)) ∧ ∀ i, 5 ≤ i → i ≤ 12 → ∀ j, JY (q (i - 3)) j = D i j) (hk : yk u D D') (hR : yf_R e u D' x) (hw : xr_W e) : zz_R q (x64 q x' JY) e := by
  obtain ⟨⟨c0, c1, c2, c3, c4⟩, rows⟩ := hY
  obtain ⟨b1, b2, b3, b4, b5⟩ := hub
  obtain ⟨⟨k1, k2, k3⟩, l1, l2, l3⟩ := hk
  obtain ⟨⟨r0, r1, r2, r3⟩, ⟨r4, r5, r6, r7, r8, r9⟩, rs, rp, rv⟩ := hR
  obtain ⟨g0, gs, gp, gv⟩ := yg_0 (v := x') (J := JY) hq
  have fr := yg_fr (v := x') (J := JY) hq
  obtain ⟨K, S, P, V, h⟩ := u
  dsimp only at b1 b2 b3 b4 b5 k1 k2 k3 l1 l2 l3 r0 r1 r2 r3 r5 rs rp rv c0 c1 c2 c3 c4 hk1
  have z0 : zn e 0 = K := by unfold zn; rw [r0, nI_clamp (by omega)]
  have z1 : zn e 1 = S := by unfold zn; rw [r1, nI_clamp (by omega)]
  have z2 : zn e 2 = P := by unfold zn; rw [r2, nI_clamp (by omega)]
  have z3 : zn e 3 = V := by unfold zn; rw [r3, nI_clamp (by omega)]
  have t0 : (e 0).toInt = K := by rw [r0, nI_toInt (by omega)]
  have t1 : (e 1).toInt = S := by rw [r1, nI_toInt (by omega)]
  have m1 : (Int32.ofInt (-1)).toInt = -1 := by decide
  have hd30 : lb_hd h ≤ 30 := by
    unfold lb_hd
    split <;> omega
  have d5 : (e 5).toInt = (lb_hd h : Nat) := by rw [r5, nI_toInt (by omega)]
  have i0 : (0 : Int32).toInt = 0 := by decide
  refine ⟨⟨fun j hj => ?_, ?_⟩, ⟨hw, ⟨?_, ?_, ?_, ?_, ?_⟩, ⟨?_, ?_⟩, ⟨?_, ?_, ?_, ?_⟩, ⟨?_, ?_, ?_⟩⟩, ?_, ?_⟩
  · unfold zv at hj
    rw [z0, z1, z2, z3] at hj
    rcases hj with hj | ⟨h1, h2, h3, h4⟩ | ⟨h1, h2, h3⟩ | ⟨h1, h2, h3⟩
    · rcases (by omega : j = 0 ∨ j = 1 ∨ j = 2 ∨ j = 3 ∨ j = 4 ∨ j = 5 ∨ j = 6 ∨ j = 7 ∨ j = 8) with rfl | rfl | rfl | rfl | rfl | rfl | rfl | rfl | rfl
      · show x64 q x' JY (q 1) 0 = e 0
        rw [fr 1 (by omega) (by omega), c0, r0]
      · show x64 q x' JY (q 1) 1 = e 1
        rw [fr 1 (by omega) (by omega), c1, r1]
      · show x64 q x' JY (q 1) 2 = e 2
        rw [fr 1 (by omega) (by omega), c2, r2]
      · show x64 q x' JY (q 1) 3 = e 3
        rw [fr 1 (by omega) (by omega), c3, r3]
      · show x64 q x' JY (q 0) 2 = e 4
        rw [g0.2.1, r4]
        rfl
      · show x64 q x' JY (q 1) 4 = e 5
        rw [fr 1 (by omega) (by omega), c4, r5]
      · show x64 q x' JY (q 0) 3 = e 6
        rw [g0.2.2.1, r6]
        rfl
      · show x64 q x' JY (q 0) 5 = e 7
        rw [g0.2.2.2.2, r7]
        rfl
      · show x64 q x' JY (q 0) 4 = e 8
        rw [g0.2.2.2.1, r8]
        rfl
    · obtain ⟨s, k, hs, hk, rfl⟩ : ∃ s k, s < S ∧ k < 7 ∧ j = 10 + 7 * s + k := ⟨(j - 10) / 7, (j - 10) % 7, by omega, by omega, by omega⟩
      rw [show (10 + 7 * s + k - 10) % 7 = k from by omega] at h4
      by_cases k4 : k < 4
      · rw [zc_m s (by omega) k k4]
        show x64 q x' JY (q 2) (4 * s + k) = _
        rw [fr 2 (by omega) (by omega), rows 5 (by omega) (by omega), k1 s k hs (h4 k4), (rs s hs).1 k (h4 k4)]
      · rcases (by omega : k = 4 ∨ k = 5 ∨ k = 6) with rfl | rfl | rfl
        · rw [zc_s4 s (by omega), (rs s hs).2.1]
          exact (gs s (by omega)).1
        · rw [zc_s5 s (by omega), (rs s hs).2.2.1]
          exact (gs s (by omega)).2.2
        · rw [zc_s6 s (by omega), (rs s hs).2.2.2]
          exact (gs s (by omega)).2.1
    · obtain ⟨n, k, hn, hk, rfl⟩ : ∃ n k, n < P ∧ k < 5 ∧ j = 52 + 5 * n + k := ⟨(j - 52) / 5, (j - 52) % 5, by omega, by omega, by omega⟩
      have y := k2 n hn
      have w := rp n hn
      rcases (by omega : k = 0 ∨ k = 1 ∨ k = 2 ∨ k = 3 ∨ k = 4) with rfl | rfl | rfl | rfl | rfl
      · rw [zc_p0 n (by omega), w.1, ← y.1, ← rows 6 (by omega) (by omega)]
        exact congrFun (fr 3 (by omega) (by omega)) _
      · rw [zc_p1 n (by omega), w.2.1, ← y.2.1, ← rows 7 (by omega) (by omega)]
        exact (gp n (by omega)).1
      · rw [zc_p2 n (by omega), w.2.2.1, ← y.2.2, ← rows 8 (by omega) (by omega)]
        exact congrFun (fr 5 (by omega) (by omega)) _
      · rw [zc_p3 n (by omega), w.2.2.2.1]
        exact (gp n (by omega)).2.1
      · rw [zc_p4 n (by omega), w.2.2.2.2]
        exact (gp n (by omega)).2.2.trans (by decide)
    · obtain ⟨n, k, hn, hk, rfl⟩ : ∃ n k, n < V ∧ k < 5 ∧ j = 172 + 5 * n + k := ⟨(j - 172) / 5, (j - 172) % 5, by omega, by omega, by omega⟩
      have y := k3 n hn
      have w := rv n hn
      rcases (by omega : k = 0 ∨ k = 1 ∨ k = 2 ∨ k = 3 ∨ k = 4) with rfl | rfl | rfl | rfl | rfl
      · rw [zc_v0 n (by omega), w.1, ← y.1, ← rows 9 (by omega) (by omega)]
        exact congrFun (fr 6 (by omega) (by omega)) _
      · rw [zc_v1 n (by omega), w.2.1, ← y.2.1, ← rows 10 (by omega) (by omega)]
        exact congrFun (fr 7 (by omega) (by omega)) _
      · rw [zc_v2 n (by omega), w.2.2.1, ← y.2.2.1, ← rows 11 (by omega) (by omega)]
        exact congrFun (fr 8 (by omega) (by omega)) _
      · rw [zc_v3 n (by omega), w.2.2.2.1, ← y.2.2.2, ← rows 12 (by omega) (by omega)]
        exact congrFun (fr 9 (by omega) (by omega)) _
      · rw [zc_v4 n (by omega), w.2.2.2.2]
        exact gv n (by omega)
  · rw [g0.1, if_neg (by rw [r0]; exact nI_ne0 (by omega) (by omega))]
    rfl
  · omega
  · intro s hs k hk
    rw [z1] at hs
    rw [z0] at hk
    rw [(rs s hs).1 k hk, ← k1 s k hs hk]
    exact l1 s k hs hk
  · intro p hp
    rw [z2] at hp
    rw [(rp p hp).1, ← (k2 p hp).1, t0]
    exact (l2 p hp).1
  · intro p hp
    rw [z2] at hp
    rw [(rp p hp).2.2.1, ← (k2 p hp).2.2, t1]
    exact (l2 p hp).2.2
  · intro v hv
    rw [z3] at hv
    have w := rv v hv
    have y := k3 v hv
    have l := l3 v hv
    rw [w.1, w.2.1, w.2.2.1, ← y.1, ← y.2.1, ← y.2.2.1, t1]
    omega
  · intro p hp
    rw [z2] at hp
    rw [(rp p hp).2.2.2.1, t1, m1]
    omega
  · intro p hp
    rw [z2] at hp
    rw [(rp p hp).2.2.2.2, (rp p hp).2.2.2.1, if_neg (by rw [m1]; omega)]
  · intro s hs
    rw [z1] at hs
    exact Or.inl (rs s hs).2.1
  · intro s hs c
    rw [z1] at hs
    rw [(rs s hs).2.1] at c
    exact absurd c (by decide)
  · intro s hs _
    rw [z1] at hs
    exact (rs s hs).2.2.1
  · intro v hv c
    rw [z3] at hv
    rw [(rv v hv).2.2.2.2] at c
    exact absurd c (by decide)
  · rw [r6, d5, i0]
    omega
  · rw [r4, i0]
    omega
  · intro p hp
    rw [z2] at hp
    have l := (l2 p hp).2.1
    rw [(rp p hp).2.1, ← (k2 p hp).2.1]
    omega
  · rw [r4, i0]
    omega
  · intro c
    rw [r0] at c
    exact absurd c (nI_ne0 (by omega) (by omega))
