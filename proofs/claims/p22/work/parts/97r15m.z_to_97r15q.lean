section
theorem zw_87 {p : Nat → Nat} {v1 v2 v3 v4 v5 v8 v9 : Int32} (hd : p 4 ≠ p 0) : ∀ (c : Nat) (v6 : Int64) (i : Int32) (J : Nat → Nat → Int32) (L : Nat → Nat → Int64), xr_W (J (p 4)) → xr_W ((x231_87 p v1 v2 v3 v4 v5 v8 v9 c v6 i J L).2.1 (p 4)) := by
  refine x231_87_rule (I := fun _ _ _ J1 _ => xr_W (J1 (p 4))) (Q := fun r => xr_W (r.2.1 (p 4))) ?_ ?_
  · intro v6 i J L h
    exact h
  · intro c v6 i J L h
    split
    · exact h
    · exact xw_101 (xw_190 hd h) (by decide)
theorem zyy_l {p : Nat → Nat} {v1 v2 v3 v4 v5 : Int32} {sp ln T : Nat} {e : Nat → Int32} (hs31 : ∀ i, i < 17 → sp ≠ p (31 + i)) (hsq : ∀ i, i < 17 → sp ≠ p (48 + i)) (ht : v1.toInt = (T : Nat)) (X : zX p (fun i => p (48 + i))) (hW : zW e (e 4).toInt) (hd : (e 4).toInt ≤ 200) (h3 : v3.toInt ≤ 100) : ∀ (c : Nat) (i w6 w7 w8 v8 : Int32) (v6 : Int64) (Jc Jr : Nat → Nat → Int32) (Lc Lr : Nat → Nat → Int64), 0 ≤ i.toInt → zR (fun i => p (31 + i)) Jc e → (∀ j, j < 212 → Jr (p 4) j = e j) → (∀ j, j < 212 → Jr (p 7) j = e j) → v6 = w8.toInt64 → v8 = (if v5 = 0 then w6 else w7) → zRQ p sp ln T Jc Jr → (x125_85 p sp ln v1 v2 v3 v4 v5 c w6 w7 w8 i Jc Lc).1 = (x231_78 p v1 v2 v3 v4 v5 c v6 v8 i Jr Lr).1 := by
  have hp := X.hp
  intro c
  induction c with
  | zero =>
    intro i w6 w7 w8 v8 v6 Jc Jr Lc Lr i0 hR h4 h7 hx hv hQ
    rw [x125_85, x231_78]
    by_cases c5 : v5 = 0
    · rw [if_pos c5] at hv ⊢
      exact hv.symm
    · rw [if_neg c5] at hv ⊢
      exact hv.symm
  | succ c ih =>
    intro i w6 w7 w8 v8 v6 Jc Jr Lc Lr i0 hR h4 h7 hx hv hQ
    rw [x125_85, x231_78]
    by_cases h1 : v2 ≤ i
    · rw [if_pos h1, if_pos h1]
      by_cases c5 : v5 = 0
      · rw [if_pos c5] at hv ⊢
        exact hv.symm
      · rw [if_neg c5] at hv ⊢
        exact hv.symm
    · rw [if_neg h1, if_neg h1]
      have n47 : p 4 ≠ p 7 := hp 4 7 (by omega) (by omega) (by omega)
      have zq48 : zq (fun i => p (48 + i)) := X.hq
      have W4 : zW (Jr (p 4)) (Jr (p 4) 4).toInt := by
        rw [h4 4 (by omega)]
        exact zW_ae h4 hW
      have R48 : zR (fun i => p (48 + i)) (nt_u (x80 (fun i => p (48 + i)) (fun i => p (31 + i)) Jc) (p 48) 6 w8) (Jr (p 4)) := zR_x6 zq48 (zR_ae h4 (zR_copy zq48 hR))
      have f48 : ∀ a, (∀ i, i < 17 → a ≠ p (48 + i)) → nt_u (x80 (fun i => p (48 + i)) (fun i => p (31 + i)) Jc) (p 48) 6 w8 a = Jc a := fun a h => (me_uo (h 0 (by omega))).trans (z48_f h)
      have i3 : (Int32.ofInt 0).toInt = 0 := by decide
      have key : zyE p (x125_114 p sp ln v1 v2 v3 v4 v5 w6 w7 i v3.toNatClampNeg (Int32.ofInt 0) (nt_u (x80 (fun i => p (48 + i)) (fun i => p (31 + i)) Jc) (p 48) 6 w8) Lc).1 (x231_87 p v1 v2 v3 v4 v5 v8 i v3.toNatClampNeg v6 (Int32.ofInt 0) Jr Lr) := by
        by_cases c3 : 0 ≤ v3.toInt
        · exact zyr_l hsq ht X v3.toNatClampNeg (Int32.ofInt 0) v6 _ Jr Lc Lr (by decide) (by rw [i3]; exact c3) (by rw [zn_t, i3]; omega) (by rw [h4 4 (by omega), i3]; omega) R48 W4 (by rw [me_us]; exact hx) (zRQ_ag hQ (f48 sp hsq) rfl rfl rfl)
        · have e0 : v3.toNatClampNeg = 0 := by rw [zn_t]; omega
          rw [e0, x125_114, x231_87]
          exact ⟨by dsimp only; rw [me_us]; exact hx, zR_7 R48, zq_79 R48 W4.w⟩
      obtain ⟨k1, k2, k3⟩ := key
      have r7 : (x231_87 p v1 v2 v3 v4 v5 v8 i v3.toNatClampNeg v6 (Int32.ofInt 0) Jr Lr).2.1 (p 7) = Jr (p 7) := x231_87_frJ _ _ _ _ _ (hp 7 0 (by omega) (by omega) (by omega)) (hp 7 4 (by omega) (by omega) (by omega))
      have e5 : Jc (p 31) 5 = Jr (p 7) 7 := by
        rw [h7 7 (by omega)]
        exact zR_7 hR
      have fc : ∀ g, g < 66 → g ≠ 25 → (∀ i, i < 17 → g ≠ 48 + i) → (x125_114 p sp ln v1 v2 v3 v4 v5 w6 w7 i v3.toNatClampNeg (Int32.ofInt 0) (nt_u (x80 (fun i => p (48 + i)) (fun i => p (31 + i)) Jc) (p 48) 6 w8) Lc).1 (p g) = Jc (p g) := fun g hg n25 h => (x125_114_frJ _ _ _ _ (hp g 25 hg (by omega) n25) (hp g 48 hg (by omega) (h 0 (by omega))) (hp g 58 hg (by omega) (h 10 (by omega))) (hp g 59 hg (by omega) (h 11 (by omega))) (hp g 60 hg (by omega) (h 12 (by omega))) (hp g 61 hg (by omega) (h 13 (by omega))) (hp g 62 hg (by omega) (h 14 (by omega))) (hp g 63 hg (by omega) (h 15 (by omega))) (hp g 64 hg (by omega) (h 16 (by omega)))).trans (f48 _ (fun i hi => hp g (48 + i) hg (by omega) (h i hi)))
      have R31 : zR (fun i => p (31 + i)) (x125_114 p sp ln v1 v2 v3 v4 v5 w6 w7 i v3.toNatClampNeg (Int32.ofInt 0) (nt_u (x80 (fun i => p (48 + i)) (fun i => p (31 + i)) Jc) (p 48) 6 w8) Lc).1 e := zR_aj (fun i hi => fc (31 + i) (by omega) (by omega) (fun j hj => by omega)) hR
      have zW87 : xr_W ((x231_87 p v1 v2 v3 v4 v5 v8 i v3.toNatClampNeg v6 (Int32.ofInt 0) Jr Lr).2.1 (p 4)) := zw_87 (hp 4 0 (by omega) (by omega) (by omega)) _ _ _ _ _ (W4.w)
      have bits : x236 (x79 (fun i => p (48 + i)) (x125_114 p sp ln v1 v2 v3 v4 v5 w6 w7 i v3.toNatClampNeg (Int32.ofInt 0) (nt_u (x80 (fun i => p (48 + i)) (fun i => p (31 + i)) Jc) (p 48) 6 w8) Lc).1) = x214 (x228 p (x231_87 p v1 v2 v3 v4 v5 v8 i v3.toNatClampNeg v6 (Int32.ofInt 0) Jr Lr).2.1) := by
        rw [k3]
        exact zb_eq zW87
      have p4 : ∀ j, j < 212 → x229 p (x231_87 p v1 v2 v3 v4 v5 v8 i v3.toNatClampNeg v6 (Int32.ofInt 0) Jr Lr).2.1 (p 4) j = e j := fun j hj => by
        rw [(zpb (Ne.symm n47)).1 j hj, r7]
        exact h7 j hj
      have p7 : ∀ j, j < 212 → x229 p (x231_87 p v1 v2 v3 v4 v5 v8 i v3.toNatClampNeg v6 (Int32.ofInt 0) Jr Lr).2.1 (p 7) j = e j := fun j hj => by
        rw [x229_frJ (Ne.symm n47), r7]
        exact h7 j hj
      have Q2 : zRQ p sp ln T (x125_114 p sp ln v1 v2 v3 v4 v5 w6 w7 i v3.toNatClampNeg (Int32.ofInt 0) (nt_u (x80 (fun i => p (48 + i)) (fun i => p (31 + i)) Jc) (p 48) 6 w8) Lc).1 (x229 p (x231_87 p v1 v2 v3 v4 v5 v8 i v3.toNatClampNeg v6 (Int32.ofInt 0) Jr Lr).2.1) := zRQ_ag hQ ((x125_114_frJ _ _ _ _ hQ.1 (hsq 0 (by omega)) (hsq 10 (by omega)) (hsq 11 (by omega)) (hsq 12 (by omega)) (hsq 13 (by omega)) (hsq 14 (by omega)) (hsq 15 (by omega)) (hsq 16 (by omega))).trans (f48 sp hsq)) ((x229_frJ (hp 1 4 (by omega) (by omega) (by omega))).trans (x231_87_frJ _ _ _ _ _ (hp 1 0 (by omega) (by omega) (by omega)) (hp 1 4 (by omega) (by omega) (by omega)))) ((x229_frJ (hp 2 4 (by omega) (by omega) (by omega))).trans (x231_87_frJ _ _ _ _ _ (hp 2 0 (by omega) (by omega) (by omega)) (hp 2 4 (by omega) (by omega) (by omega)))) ((x229_frJ (hp 3 4 (by omega) (by omega) (by omega))).trans (x231_87_frJ _ _ _ _ _ (hp 3 0 (by omega) (by omega) (by omega)) (hp 3 4 (by omega) (by omega) (by omega))))
      by_cases c5 : v5 = 0
      · rw [if_pos c5]
        exact ih (i + Int32.ofInt 1) _ _ _ _ _ _ _ _ _ (zi_i h1 i0) R31 p4 p7 k1 (by rw [if_pos c5] at hv ⊢; rw [k2, e5]; exact congrArg (fun a => a + _) hv) Q2
      · rw [if_neg c5]
        exact ih (i + Int32.ofInt 1) _ _ _ _ _ _ _ _ _ (zi_i h1 i0) R31 p4 p7 k1 (by rw [if_neg c5] at hv ⊢; rw [bits]; exact congrArg (fun a => a + _) hv) Q2
end
section
theorem zyyN_l {p : Nat → Nat} {v1 v2 v3 v4 v5 : Int32} {e : Nat → Int32} (ev : v1 = Int32.ofInt (-1)) (X : zX p (fun i => p (48 + i))) (hW : zW e (e 4).toInt) (hd : (e 4).toInt ≤ 200) (h3 : v3.toInt ≤ 100) : ∀ (c : Nat) (i w6 w7 w8 v8 : Int32) (v6 : Int64) (Jc Jr : Nat → Nat → Int32) (Lr : Nat → Nat → Int64), 0 ≤ i.toInt → zR (fun i => p (31 + i)) Jc e → (∀ j, j < 212 → Jr (p 4) j = e j) → (∀ j, j < 212 → Jr (p 7) j = e j) → v6 = w8.toInt64 → v8 = (if v5 = 0 then w6 else w7) → (x125N_85 p v1 v2 v3 v4 v5 c w6 w7 w8 i Jc).1 = (x231_78 p v1 v2 v3 v4 v5 c v6 v8 i Jr Lr).1 := by
  have hp := X.hp
  intro c
  induction c with
  | zero =>
    intro i w6 w7 w8 v8 v6 Jc Jr Lr i0 hR h4 h7 hx hv
    rw [x125N_85, x231_78]
    by_cases c5 : v5 = 0
    · rw [if_pos c5] at hv ⊢
      exact hv.symm
    · rw [if_neg c5] at hv ⊢
      exact hv.symm
  | succ c ih =>
    intro i w6 w7 w8 v8 v6 Jc Jr Lr i0 hR h4 h7 hx hv
    rw [x125N_85, x231_78]
    by_cases h1 : v2 ≤ i
    · rw [if_pos h1, if_pos h1]
      by_cases c5 : v5 = 0
      · rw [if_pos c5] at hv ⊢
        exact hv.symm
      · rw [if_neg c5] at hv ⊢
        exact hv.symm
    · rw [if_neg h1, if_neg h1]
      have n47 : p 4 ≠ p 7 := hp 4 7 (by omega) (by omega) (by omega)
      have zq48 : zq (fun i => p (48 + i)) := X.hq
      have W4 : zW (Jr (p 4)) (Jr (p 4) 4).toInt := by
        rw [h4 4 (by omega)]
        exact zW_ae h4 hW
      have R48 : zR (fun i => p (48 + i)) (nt_u (x80 (fun i => p (48 + i)) (fun i => p (31 + i)) Jc) (p 48) 6 w8) (Jr (p 4)) := zR_x6 zq48 (zR_ae h4 (zR_copy zq48 hR))
      have f48 : ∀ a, (∀ i, i < 17 → a ≠ p (48 + i)) → nt_u (x80 (fun i => p (48 + i)) (fun i => p (31 + i)) Jc) (p 48) 6 w8 a = Jc a := fun a h => (me_uo (h 0 (by omega))).trans (z48_f h)
      have i3 : (Int32.ofInt 0).toInt = 0 := by decide
      have key : zyE p (x125N_114 p v1 v2 v3 v4 v5 w6 w7 i v3.toNatClampNeg (Int32.ofInt 0) (nt_u (x80 (fun i => p (48 + i)) (fun i => p (31 + i)) Jc) (p 48) 6 w8)) (x231_87 p v1 v2 v3 v4 v5 v8 i v3.toNatClampNeg v6 (Int32.ofInt 0) Jr Lr) := by
        by_cases c3 : 0 ≤ v3.toInt
        · exact zyrN_l ev X v3.toNatClampNeg (Int32.ofInt 0) v6 _ Jr Lr (by decide) (by rw [i3]; exact c3) (by rw [zn_t, i3]; omega) (by rw [h4 4 (by omega), i3]; omega) R48 W4 (by rw [me_us]; exact hx)
        · have e0 : v3.toNatClampNeg = 0 := by rw [zn_t]; omega
          rw [e0, x125N_114, x231_87]
          exact ⟨by dsimp only; rw [me_us]; exact hx, zR_7 R48, zq_79 R48 W4.w⟩
      obtain ⟨k1, k2, k3⟩ := key
      have r7 : (x231_87 p v1 v2 v3 v4 v5 v8 i v3.toNatClampNeg v6 (Int32.ofInt 0) Jr Lr).2.1 (p 7) = Jr (p 7) := x231_87_frJ _ _ _ _ _ (hp 7 0 (by omega) (by omega) (by omega)) (hp 7 4 (by omega) (by omega) (by omega))
      have e5 : Jc (p 31) 5 = Jr (p 7) 7 := by
        rw [h7 7 (by omega)]
        exact zR_7 hR
      have fc : ∀ g, g < 66 → g ≠ 25 → (∀ i, i < 17 → g ≠ 48 + i) → (x125N_114 p v1 v2 v3 v4 v5 w6 w7 i v3.toNatClampNeg (Int32.ofInt 0) (nt_u (x80 (fun i => p (48 + i)) (fun i => p (31 + i)) Jc) (p 48) 6 w8)) (p g) = Jc (p g) := fun g hg n25 h => (x125N_114_frJ _ _ _ (hp g 48 hg (by omega) (h 0 (by omega))) (hp g 58 hg (by omega) (h 10 (by omega))) (hp g 59 hg (by omega) (h 11 (by omega))) (hp g 60 hg (by omega) (h 12 (by omega))) (hp g 61 hg (by omega) (h 13 (by omega))) (hp g 63 hg (by omega) (h 15 (by omega))) (hp g 64 hg (by omega) (h 16 (by omega)))).trans (f48 _ (fun i hi => hp g (48 + i) hg (by omega) (h i hi)))
      have R31 : zR (fun i => p (31 + i)) (x125N_114 p v1 v2 v3 v4 v5 w6 w7 i v3.toNatClampNeg (Int32.ofInt 0) (nt_u (x80 (fun i => p (48 + i)) (fun i => p (31 + i)) Jc) (p 48) 6 w8)) e := zR_aj (fun i hi => fc (31 + i) (by omega) (by omega) (fun j hj => by omega)) hR
      have zW87 : xr_W ((x231_87 p v1 v2 v3 v4 v5 v8 i v3.toNatClampNeg v6 (Int32.ofInt 0) Jr Lr).2.1 (p 4)) := zw_87 (hp 4 0 (by omega) (by omega) (by omega)) _ _ _ _ _ (W4.w)
      have bits : x236 (x79 (fun i => p (48 + i)) (x125N_114 p v1 v2 v3 v4 v5 w6 w7 i v3.toNatClampNeg (Int32.ofInt 0) (nt_u (x80 (fun i => p (48 + i)) (fun i => p (31 + i)) Jc) (p 48) 6 w8))) = x214 (x228 p (x231_87 p v1 v2 v3 v4 v5 v8 i v3.toNatClampNeg v6 (Int32.ofInt 0) Jr Lr).2.1) := by
        rw [k3]
        exact zb_eq zW87
      have p4 : ∀ j, j < 212 → x229 p (x231_87 p v1 v2 v3 v4 v5 v8 i v3.toNatClampNeg v6 (Int32.ofInt 0) Jr Lr).2.1 (p 4) j = e j := fun j hj => by
        rw [(zpb (Ne.symm n47)).1 j hj, r7]
        exact h7 j hj
      have p7 : ∀ j, j < 212 → x229 p (x231_87 p v1 v2 v3 v4 v5 v8 i v3.toNatClampNeg v6 (Int32.ofInt 0) Jr Lr).2.1 (p 7) j = e j := fun j hj => by
        rw [x229_frJ (Ne.symm n47), r7]
        exact h7 j hj
      by_cases c5 : v5 = 0
      · rw [if_pos c5]
        exact ih (i + Int32.ofInt 1) _ _ _ _ _ _ _ _ (zi_i h1 i0) R31 p4 p7 k1 (by rw [if_pos c5] at hv ⊢; rw [k2, e5]; exact congrArg (fun a => a + _) hv)
      · rw [if_neg c5]
        exact ih (i + Int32.ofInt 1) _ _ _ _ _ _ _ _ (zi_i h1 i0) R31 p4 p7 k1 (by rw [if_neg c5] at hv ⊢; rw [bits]; exact congrArg (fun a => a + _) hv)
end
section
theorem z_j20 : (20 : Int64).toInt = 20 := by decide
theorem z_i20 {x : Int32} : Int32.ofInt 20 < x ↔ 20 < x.toInt := by
  rw [Int32.lt_iff_toInt_lt, show (Int32.ofInt 20).toInt = 20 from by decide]
theorem z_k100 {x : Int32} : x ≤ Int32.ofInt 100 ↔ x.toInt ≤ 100 := by
  rw [Int32.le_iff_toInt_le, show (Int32.ofInt 100).toInt = 100 from by decide]
theorem z_k1 {x : Int32} : x ≤ Int32.ofInt 1 ↔ x.toInt ≤ 1 := by
  rw [Int32.le_iff_toInt_le, show (Int32.ofInt 1).toInt = 1 from by decide]
theorem zq_125 {p : Nat → Nat} {v1 v2 v3 v4 v5 : Int32} {sp ln T : Nat} {Jc Jr : Nat → Nat → Int32} {Lc Lr : Nat → Nat → Int64} (hs : ∀ i, i < 66 → sp ≠ p i) (ht : v1.toInt = (T : Nat)) (hQ : zRQ p sp ln T Jc Jr) (X : zX p (fun i => p (48 + i))) (hR : zR (fun i => p (31 + i)) Jc (Jr (p 4))) (hW : zW (Jr (p 4)) (Jr (p 4) 4).toInt) (hd : (Jr (p 4) 4).toInt ≤ 200) (h4 : Jc (p 16) 4 = Jr (p 0) 2) (h0 : 0 ≤ (Jr (p 0) 2).toInt) (h9 : Jc (p 31) 6 = Jr (p 4) 9) : zq_A (x125 p sp ln v1 v2 v3 v4 v5 Jc Lc) (x231 p v1 v2 v3 v4 v5 Jr Lr) := by
  have may := zmay (q := fun i => p (31 + i)) (v1 := v1) hR hW.w h4 h0
  have hp := X.hp
  have n47 : p 4 ≠ p 7 := hp 4 7 (by omega) (by omega) (by omega)
  have same : ∀ y : Int32, zq_A ((y, Jc, Lc) : Int32 × (Nat → Nat → Int32) × (Nat → Nat → Int64)) (y, Jr, Lr) := fun y => rfl
  unfold x125 x231
  by_cases hm : x187 p v1 Jr = 0
  · rw [if_pos hm]
    by_cases a : Jc (p 31) 1 = 0
    · rw [if_pos a]
      exact same _
    · rw [if_neg a, if_pos (Classical.byContradiction fun c => may.mp ⟨a, c⟩ hm)]
      exact same _
  · obtain ⟨a, b⟩ := may.mpr hm
    have a : ¬ Jc (p 31) 1 = 0 := a
    rw [if_neg hm, if_neg a, if_neg b, z_145, z_145, z_145, z_145, z_j0, z_j1, z_j100, z_j20]
    by_cases c0 : v2.toInt < 1
    · rw [if_pos (z_i1.mpr c0), if_pos (show v2.toInt < 1 ∨ 20 < v2.toInt from Or.inl c0), if_pos (show Int32.ofInt 0 = 0 from rfl)]
      exact same _
    · rw [if_neg (fun h => c0 (z_i1.mp h))]
      by_cases d0 : 20 < v2.toInt
      · rw [if_pos (z_i20.mpr d0), if_pos (show v2.toInt < 1 ∨ 20 < v2.toInt from Or.inr d0), if_pos (show Int32.ofInt 0 = 0 from rfl)]
        exact same _
      · rw [if_neg (fun h => d0 (z_i20.mp h)), if_neg (show ¬ (v2.toInt < 1 ∨ 20 < v2.toInt) from by omega), if_neg (show ¬ Int32.ofInt 1 = 0 from by decide)]
        by_cases c1 : v3.toInt < 1
        · rw [if_pos (z_i1.mpr c1), if_pos (show v3.toInt < 1 ∨ 100 < v3.toInt from Or.inl c1), if_pos (show Int32.ofInt 0 = 0 from rfl)]
          exact same _
        · rw [if_neg (fun h => c1 (z_i1.mp h))]
          by_cases d1 : 100 < v3.toInt
          · rw [if_neg (fun h => by have := z_k100.mp h; omega), if_pos (show v3.toInt < 1 ∨ 100 < v3.toInt from Or.inr d1), if_pos (show Int32.ofInt 0 = 0 from rfl)]
            exact same _
          · rw [if_pos (z_k100.mpr (by omega)), if_neg (show ¬ (v3.toInt < 1 ∨ 100 < v3.toInt) from by omega), if_neg (show ¬ Int32.ofInt 1 = 0 from by decide)]
            by_cases c2 : v4.toInt < 0
            · rw [if_pos (z_i0.mpr c2), if_pos (show v4.toInt < 0 ∨ 100 < v4.toInt from Or.inl c2), if_pos (show Int32.ofInt 0 = 0 from rfl)]
              exact same _
            · rw [if_neg (fun h => c2 (z_i0.mp h))]
              by_cases d2 : 100 < v4.toInt
              · rw [if_pos (z_i100.mpr d2), if_pos (show v4.toInt < 0 ∨ 100 < v4.toInt from Or.inr d2), if_pos (show Int32.ofInt 0 = 0 from rfl)]
                exact same _
              · rw [if_neg (fun h => d2 (z_i100.mp h)), if_neg (show ¬ (v4.toInt < 0 ∨ 100 < v4.toInt) from by omega), if_neg (show ¬ Int32.ofInt 1 = 0 from by decide)]
                by_cases c3 : v5.toInt < 0
                · rw [if_pos (z_i0.mpr c3), if_pos (show v5.toInt < 0 ∨ 1 < v5.toInt from Or.inl c3), if_pos (show Int32.ofInt 0 = 0 from rfl)]
                  exact same _
                · rw [if_neg (fun h => c3 (z_i0.mp h))]
                  by_cases d3 : 1 < v5.toInt
                  · rw [if_neg (fun h => by have := z_k1.mp h; omega), if_pos (show v5.toInt < 0 ∨ 1 < v5.toInt from Or.inr d3), if_pos (show Int32.ofInt 0 = 0 from rfl)]
                    exact same _
                  · rw [if_pos (z_k1.mpr (by omega)), if_neg (show ¬ (v5.toInt < 0 ∨ 1 < v5.toInt) from by omega), if_neg (show ¬ Int32.ofInt 1 = 0 from by decide)]
                    have r4 : x227 p Jr (p 4) = Jr (p 4) := x227_frJ n47
                    have iv : Int32.ofInt 0 = (if v5 = 0 then Int32.ofInt 0 else Int32.ofInt 0) := by split <;> rfl
                    exact zyy_l (e := Jr (p 4)) (fun i hi => hs _ (by omega)) (fun i hi => hs _ (by omega)) ht X hW hd (by omega) v2.toNatClampNeg (Int32.ofInt 0) (Int32.ofInt 0) (Int32.ofInt 0) (Jc (p 31) 6) (Int32.ofInt 0) _ Jc (x227 p Jr) Lc Lr (by decide) hR (fun j _ => by rw [r4]) (fun j hj => zkp n47 hj) (by rw [h9]) iv (zRQ_ag hQ rfl (x227_frJ (hp 1 7 (by omega) (by omega) (by omega))) (x227_frJ (hp 2 7 (by omega) (by omega) (by omega))) (x227_frJ (hp 3 7 (by omega) (by omega) (by omega))))
end
section
theorem zq_125N {p : Nat → Nat} {v1 v2 v3 v4 v5 : Int32} {Jc Jr : Nat → Nat → Int32} {Lr : Nat → Nat → Int64} (hv : v1 < 0) (X : zX p (fun i => p (48 + i))) (hR : zR (fun i => p (31 + i)) Jc (Jr (p 4))) (hW : zW (Jr (p 4)) (Jr (p 4) 4).toInt) (hd : (Jr (p 4) 4).toInt ≤ 200) (h4 : Jc (p 16) 4 = Jr (p 0) 2) (h0 : 0 ≤ (Jr (p 0) 2).toInt) (h9 : Jc (p 31) 6 = Jr (p 4) 9) : zq_A (((x125N p v1 v2 v3 v4 v5 Jc).1, (x125N p v1 v2 v3 v4 v5 Jc).2, Lr)) (x231 p v1 v2 v3 v4 v5 Jr Lr) := by
  have may := zmay (q := fun i => p (31 + i)) (v1 := v1) hR hW.w h4 h0
  have hp := X.hp
  have n47 : p 4 ≠ p 7 := hp 4 7 (by omega) (by omega) (by omega)
  have same : ∀ y : Int32, zq_A ((y, Jc, Lr) : Int32 × (Nat → Nat → Int32) × (Nat → Nat → Int64)) (y, Jr, Lr) := fun y => rfl
  unfold x125N x231
  by_cases hm : x187 p v1 Jr = 0
  · rw [if_pos hm]
    by_cases a : Jc (p 31) 1 = 0
    · rw [if_pos a]
      exact same _
    · rw [if_neg a, if_pos (Classical.byContradiction fun c => may.mp ⟨a, c⟩ hm)]
      exact same _
  · obtain ⟨a, b⟩ := may.mpr hm
    have a : ¬ Jc (p 31) 1 = 0 := a
    rw [if_neg hm, if_neg a, if_neg b, z_145, z_145, z_145, z_145, z_j0, z_j1, z_j100, z_j20]
    by_cases c0 : v2.toInt < 1
    · rw [if_pos (z_i1.mpr c0), if_pos (show v2.toInt < 1 ∨ 20 < v2.toInt from Or.inl c0), if_pos (show Int32.ofInt 0 = 0 from rfl)]
      exact same _
    · rw [if_neg (fun h => c0 (z_i1.mp h))]
      by_cases d0 : 20 < v2.toInt
      · rw [if_pos (z_i20.mpr d0), if_pos (show v2.toInt < 1 ∨ 20 < v2.toInt from Or.inr d0), if_pos (show Int32.ofInt 0 = 0 from rfl)]
        exact same _
      · rw [if_neg (fun h => d0 (z_i20.mp h)), if_neg (show ¬ (v2.toInt < 1 ∨ 20 < v2.toInt) from by omega), if_neg (show ¬ Int32.ofInt 1 = 0 from by decide)]
        by_cases c1 : v3.toInt < 1
        · rw [if_pos (z_i1.mpr c1), if_pos (show v3.toInt < 1 ∨ 100 < v3.toInt from Or.inl c1), if_pos (show Int32.ofInt 0 = 0 from rfl)]
          exact same _
        · rw [if_neg (fun h => c1 (z_i1.mp h))]
          by_cases d1 : 100 < v3.toInt
          · rw [if_neg (fun h => by have := z_k100.mp h; omega), if_pos (show v3.toInt < 1 ∨ 100 < v3.toInt from Or.inr d1), if_pos (show Int32.ofInt 0 = 0 from rfl)]
            exact same _
          · rw [if_pos (z_k100.mpr (by omega)), if_neg (show ¬ (v3.toInt < 1 ∨ 100 < v3.toInt) from by omega), if_neg (show ¬ Int32.ofInt 1 = 0 from by decide)]
            by_cases c2 : v4.toInt < 0
            · rw [if_pos (z_i0.mpr c2), if_pos (show v4.toInt < 0 ∨ 100 < v4.toInt from Or.inl c2), if_pos (show Int32.ofInt 0 = 0 from rfl)]
              exact same _
            · rw [if_neg (fun h => c2 (z_i0.mp h))]
              by_cases d2 : 100 < v4.toInt
              · rw [if_pos (z_i100.mpr d2), if_pos (show v4.toInt < 0 ∨ 100 < v4.toInt from Or.inr d2), if_pos (show Int32.ofInt 0 = 0 from rfl)]
                exact same _
              · rw [if_neg (fun h => d2 (z_i100.mp h)), if_neg (show ¬ (v4.toInt < 0 ∨ 100 < v4.toInt) from by omega), if_neg (show ¬ Int32.ofInt 1 = 0 from by decide)]
                by_cases c3 : v5.toInt < 0
                · rw [if_pos (z_i0.mpr c3), if_pos (show v5.toInt < 0 ∨ 1 < v5.toInt from Or.inl c3), if_pos (show Int32.ofInt 0 = 0 from rfl)]
                  exact same _
                · rw [if_neg (fun h => c3 (z_i0.mp h))]
                  by_cases d3 : 1 < v5.toInt
                  · rw [if_neg (fun h => by have := z_k1.mp h; omega), if_pos (show v5.toInt < 0 ∨ 1 < v5.toInt from Or.inr d3), if_pos (show Int32.ofInt 0 = 0 from rfl)]
                    exact same _
                  · rw [if_pos (z_k1.mpr (by omega)), if_neg (show ¬ (v5.toInt < 0 ∨ 1 < v5.toInt) from by omega), if_neg (show ¬ Int32.ofInt 1 = 0 from by decide)]
                    have ev : v1 = Int32.ofInt (-1) := by
                      unfold x111 at b
                      by_cases g : v1 < Int32.ofInt (-1)
                      · rw [if_pos g] at b
                        exact absurd rfl b
                      · have g1 : ¬ v1.toInt < (Int32.ofInt (-1)).toInt := fun h => g (Int32.lt_iff_toInt_lt.mpr h)
                        have g2 := z_i0.mp hv
                        rw [show (Int32.ofInt (-1)).toInt = -1 from by decide] at g1
                        exact Int32.toInt_inj.mp (by rw [show (Int32.ofInt (-1)).toInt = -1 from by decide]; omega)
                    have r4 : x227 p Jr (p 4) = Jr (p 4) := x227_frJ n47
                    have iv : Int32.ofInt 0 = (if v5 = 0 then Int32.ofInt 0 else Int32.ofInt 0) := by split <;> rfl
                    exact zyyN_l (e := Jr (p 4)) ev X hW hd (by omega) v2.toNatClampNeg (Int32.ofInt 0) (Int32.ofInt 0) (Int32.ofInt 0) (Jc (p 31) 6) (Int32.ofInt 0) _ Jc (x227 p Jr) Lr (by decide) hR (fun j _ => by rw [r4]) (fun j hj => zkp n47 hj) (by rw [h9]) iv
end
section
theorem zz_a_years {X : nt_X} {pl : Nat → Nat} {v v1 mk xi : Nat → Int} {M M1 M2 : nt_M} {y1 y2 a b c d e : Int32} (hB : ly_B pl v M) (hS : ly_S pl mk xi (v 2) M) (hB1 : ly_B pl v1 M1) (hE : lq_E pl M) (hx : v 0 = v 1) (e1 : nt_ev X 99 125 [.ref (pl 16), .int a, .int b, .int c, .int d, .int e] M (some (.int y1), M1)) (e2 : nt_ev X 99 231 [.ref (pl 0), .int a, .int b, .int c, .int d, .int e] M1 (some (.int y2), M2)) (hZ : zz_E pl M) : y1 = y2 := by
  have ne := zz_ne hB
  have r1 := zz_yearsF hB hS e1 hZ
  have hZ0 := hZ
  obtain ⟨⟨hR, hW, hd, hz⟩, hI⟩ := hZ
  have h0 : 0 ≤ (nt_I M (pl 0) 2).toInt := ((hB.2.1.2 0 _ (show ly_E.2.1[0]? = some (11, 0, 0, 9) from rfl)).2.2.2.2 2).1
  obtain ⟨y2e, _⟩ := lq_out (xt231 (p := pl) (J := nt_I M1) (L := nt_J M1) (zz_P hB1) (zz_W hB1) e2)
  have e4 := r1 4 (by omega) (by decide)
  have e0 := r1 0 (by omega) (by decide)
  by_cases hn : a < 0
  · obtain ⟨y1e, _⟩ := lq_out (xt125N (p := pl) (J := nt_I M) (zz_P hB) (zz_Qn hB) (zz_Qm hB) (zz_Nm hB) hn e1)
    rw [y1e, y2e]
    exact zq_125N (Jr := nt_I M1) hn (zz_Xm hB) (by rw [e4]; exact hR) (by rw [e4]; exact hW) (by rw [e4]; exact hd) (by rw [e0]; exact zz_16 hE) (by rw [e0]; exact h0) (by rw [e4]; exact zz_x hB hx)
  · by_cases h1 : nt_I M (pl 16) 4 ≤ a
    · have hx : x111 pl a (nt_I M) = Int32.ofInt 0 := by
        unfold x111
        rw [if_pos h1]
        split <;> rfl
      obtain ⟨y1e, _⟩ := lq_out (xt125H (p := pl) (J := nt_I M) (zz_P hB) (zz_Qn hB) hx e1)
      have hm : x187 pl a (nt_I M1) = 0 := by
        have may := zmay (q := fun i => pl (31 + i)) (p := pl) (Jc := nt_I M) (Jr := nt_I M1) (v1 := a) (by rw [e4]; exact hR) (by rw [e4]; exact hW.w) (by rw [e0]; exact zz_16 hE) (by rw [e0]; exact h0)
        exact Classical.byContradiction fun c => (may.mpr c).2 hx
      have u : x231 pl a b c d e (nt_I M1) (nt_J M1) = (Int32.ofInt (-1), nt_I M1, nt_J M1) := by
        unfold x231
        rw [if_pos hm]
      have y1m : y1 = Int32.ofInt (-1) := by
        rw [y1e]
        unfold x125H
        split <;> rfl
      rw [u] at y2e
      rw [y1m, y2e]
    · obtain ⟨rb, q1, q2, q3, q4, q5⟩ := zz_rule hB hS hZ0 hn h1
      obtain ⟨y1e, _⟩ := lq_out (xt125 (p := pl) (J := nt_I M) (L := nt_J M) (zz_P hB) (zz_Qn hB) (zz_Qm hB) (zz_Nm hB) q3 hn q1 h1 e1)
      rw [y1e, y2e]
      exact zq_125 (Jr := nt_I M1) q3.2.1 q4 (zRQ_ag q5 rfl (r1 1 (by omega) (by decide)) (r1 2 (by omega) (by decide)) (r1 3 (by omega) (by decide))) (zz_Xm hB) (by rw [e4]; exact hR) (by rw [e4]; exact hW) (by rw [e4]; exact hd) (by rw [e0]; exact zz_16 hE) (by rw [e0]; exact h0) (by rw [e4]; exact zz_x hB hx)
end
