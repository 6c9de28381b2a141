theorem zw_87 {p : Nat → Nat} {v1 v2 v3 v4 v5 v8 v9 : Int32} (hd : p 4 ≠ p 0) : ∀ (c : Nat) (v6 : Int64) (i : Int32) (J : Nat → Nat → Int32) (L : Nat → Nat → Int64), xr_W (J (p 4)) → xr_W ((x231_87 p v1 v2 v3 v4 v5 v8 v9 c v6 i J L).2.1 (p 4)) := by
  refine x231_87_rule (I := fun _ _ _ J1 _ => xr_W (J1 (p 4))) (Q := fun r => xr_W (r.2.1 (p 4))) ?_ ?_
  · intro v6 i J L h
    exact h
  · intro c v6 i J L h
    split
    · exact h
    · exact xw_101 (xw_190 hd h) (by decide)
theorem zyy_l {p : Nat → Nat} {v1 v2 v3 v4 v5 : Int32} {sp ln T : Nat} {e : Nat → Int32} (hs31 : ∀ i, i < 17 → sp ≠ p (31 + i)) (hsq : ∀ i, i < 17 → sp ≠ p (48 + i)) (ht : v1.toInt = (T : Nat)) (X : zX p (fun i => p (48 + i))) (hW : zW e (e 4).toInt) (hd : (e 4).toInt ≤ 200) (h3 : v3.toInt ≤ 100) : ∀ (c : Nat) (i w6 w7 w8 v8 : Int32) (v6 : Int64) (Jc Jr : Nat → Nat → Int32) (Lc Lr : Nat → Nat → Int64), 0 ≤ i.toInt → zR (fun i => p (31 + i)) Jc e → (∀ j, j < 212 → Jr (p 4) j = e j) → (∀ j, j < 212 → Jr (p 7) j = e j) → v6 = w8.toInt64 → v8 = (if v5 = 0 then w6 else w7) → zRQ p sp ln T Jc Jr → (x125_85 p sp ln v1 v2 v3 v4 v5 c w6 w7 w8 i Jc Lc).1 = (x231_78 p v1 v2 v3 v4 v5 c v6 v8 i Jr Lr).1 := by
  have hp := X.hp
  intro c
  induction c with
  | zero =>
    intro i w6 w7 w8 v8 v6 Jc Jr Lc Lr i0 hR h4 h7 hx hv hQ
    rw [x125_85, x231_78]
    by_cases c5 : v5 = 0
    · rw [if_pos c5] at hv ⊢
      exact hv.symm
    · rw [if_neg c5] at hv ⊢
      exact hv.symm
  | succ c ih =>
    intro i w6 w7 w8 v8 v6 Jc Jr Lc Lr i0 hR h4 h7 hx hv hQ
    rw [x125_85, x231_78]
    by_cases h1 : v2 ≤ i
    · rw [if_pos h1, if_pos h1]
      by_cases c5 : v5 = 0
      · rw [if_pos c5] at hv ⊢
        exact hv.symm
      · rw [if_neg c5] at hv ⊢
        exact hv.symm
    · rw [if_neg h1, if_neg h1]
      have n47 : p 4 ≠ p 7 := hp 4 7 (by omega) (by omega) (by omega)
      have zq48 : zq (fun i => p (48 + i)) := X.hq
      have W4 : zW (Jr (p 4)) (Jr (p 4) 4).toInt := by
        rw [h4 4 (by omega)]
        exact zW_ae h4 hW
      have R48 : zR (fun i => p (48 + i)) (nt_u (x80 (fun i => p (48 + i)) (fun i => p (31 + i)) Jc) (p 48) 6 w8) (Jr (p 4)) := zR_x6 zq48 (zR_ae h4 (zR_copy zq48 hR))
      have f48 : ∀ a, (∀ i, i < 17 → a ≠ p (48 + i)) → nt_u (x80 (fun i => p (48 + i)) (fun i => p (31 + i)) Jc) (p 48) 6 w8 a = Jc a := fun a h => (me_uo (h 0 (by omega))).trans (z48_f h)
      have i3 : (Int32.ofInt 0).toInt = 0 := by decide
      have key : zyE p (x125_114 p sp ln v1 v2 v3 v4 v5 w6 w7 i v3.toNatClampNeg (Int32.ofInt 0) (nt_u (x80 (fun i => p (48 + i)) (fun i => p (31 + i)) Jc) (p 48) 6 w8) Lc).1 (x231_87 p v1 v2 v3 v4 v5 v8 i v3.toNatClampNeg v6 (Int32.ofInt 0) Jr Lr) := by
        by_cases c3 : 0 ≤ v3.toInt
        · exact zyr_l hsq ht X v3.toNatClampNeg (Int32.ofInt 0) v6 _ Jr Lc Lr (by decide) (by rw [i3]; exact c3) (by rw [zn_t, i3]; omega) (by rw [h4 4 (by omega), i3]; omega) R48 W4 (by rw [me_us]; exact hx) (zRQ_ag hQ (f48 sp hsq) rfl rfl rfl)
        · have e0 : v3.toNatClampNeg = 0 := by rw [zn_t]; omega
          rw [e0, x125_114, x231_87]
          exact ⟨by dsimp only; rw [me_us]; exact hx, zR_7 R48, zq_79 R48 W4.w⟩
      obtain ⟨k1, k2, k3⟩ := key
      have r7 : (x231_87 p v1 v2 v3 v4 v5 v8 i v3.toNatClampNeg v6 (Int32.ofInt 0) Jr Lr).2.1 (p 7) = Jr (p 7) := x231_87_frJ _ _ _ _ _ (hp 7 0 (by omega) (by omega) (by omega)) (hp 7 4 (by omega) (by omega) (by omega))
      have e5 : Jc (p 31) 5 = Jr (p 7) 7 := by
        rw [h7 7 (by omega)]
        exact zR_7 hR
      have fc : ∀ g, g < 66 → g ≠ 25 → (∀ i, i < 17 → g ≠ 48 + i) → (x125_114 p sp ln v1 v2 v3 v4 v5 w6 w7 i v3.toNatClampNeg (Int32.ofInt 0) (nt_u (x80 (fun i => p (48 + i)) (fun i => p (31 + i)) Jc) (p 48) 6 w8) Lc).1 (p g) = Jc (p g) := fun g hg n25 h => (x125_114_frJ _ _ _ _ (hp g 25 hg (by omega) n25) (hp g 48 hg (by omega) (h 0 (by omega))) (hp g 58 hg (by omega) (h 10 (by omega))) (hp g 59 hg (by omega) (h 11 (by omega))) (hp g 60 hg (by omega) (h 12 (by omega))) (hp g 61 hg (by omega) (h 13 (by omega))) (hp g 62 hg (by omega) (h 14 (by omega))) (hp g 63 hg (by omega) (h 15 (by omega))) (hp g 64 hg (by omega) (h 16 (by omega)))).trans (f48 _ (fun i hi => hp g (48 + i) hg (by omega) (h i hi)))
      have R31 : zR (fun i => p (31 + i)) (x125_114 p sp ln v1 v2 v3 v4 v5 w6 w7 i v3.toNatClampNeg (Int32.ofInt 0) (nt_u (x80 (fun i => p (48 + i)) (fun i => p (31 + i)) Jc) (p 48) 6 w8) Lc).1 e := zR_aj (fun i hi => fc (31 + i) (by omega) (by omega) (fun j hj => by omega)) hR
      have zW87 : xr_W ((x231_87 p v1 v2 v3 v4 v5 v8 i v3.toNatClampNeg v6 (Int32.ofInt 0) Jr Lr).2.1 (p 4)) := zw_87 (hp 4 0 (by omega) (by omega) (by omega)) _ _ _ _ _ (W4.w)
      have bits : x236 (x79 (fun i => p (48 + i)) (x125_114 p sp ln v1 v2 v3 v4 v5 w6 w7 i v3.toNatClampNeg (Int32.ofInt 0) (nt_u (x80 (fun i => p (48 + i)) (fun i => p (31 + i)) Jc) (p 48) 6 w8) Lc).1) = x214 (x228 p (x231_87 p v1 v2 v3 v4 v5 v8 i v3.toNatClampNeg v6 (Int32.ofInt 0) Jr Lr).2.1) := by
        rw [k3]
        exact zb_eq zW87
      have p4 : ∀ j, j < 212 → x229 p (x231_87 p v1 v2 v3 v4 v5 v8 i v3.toNatClampNeg v6 (Int32.ofInt 0) Jr Lr).2.1 (p 4) j = e j := fun j hj => by
        rw [(zpb (Ne.symm n47)).1 j hj, r7]
        exact h7 j hj
      have p7 : ∀ j, j < 212 → x229 p (x231_87 p v1 v2 v3 v4 v5 v8 i v3.toNatClampNeg v6 (Int32.ofInt 0) Jr Lr).2.1 (p 7) j = e j := fun j hj => by
        rw [x229_frJ (Ne.symm n47), r7]
        exact h7 j hj
      have Q2 : zRQ p sp ln T (x125_114 p sp ln v1 v2 v3 v4 v5 w6 w7 i v3.toNatClampNeg (Int32.ofInt 0) (nt_u (x80 (fun i => p (48 + i)) (fun i => p (31 + i)) Jc) (p 48) 6 w8) Lc).1 (x229 p (x231_87 p v1 v2 v3 v4 v5 v8 i v3.toNatClampNeg v6 (Int32.ofInt 0) Jr Lr).2.1) := zRQ_ag hQ ((x125_114_frJ _ _ _ _ hQ.1 (hsq 0 (by omega)) (hsq 10 (by omega)) (hsq 11 (by omega)) (hsq 12 (by omega)) (hsq 13 (by omega)) (hsq 14 (by omega)) (hsq 15 (by omega)) (hsq 16 (by omega))).trans (f48 sp hsq)) ((x229_frJ (hp 1 4 (by omega) (by omega) (by omega))).trans (x231_87_frJ _ _ _ _ _ (hp 1 0 (by omega) (by omega) (by omega)) (hp 1 4 (by omega) (by omega) (by omega)))) ((x229_frJ (hp 2 4 (by omega) (by omega) (by omega))).trans (x231_87_frJ _ _ _ _ _ (hp 2 0 (by omega) (by omega) (by omega)) (hp 2 4 (by omega) (by omega) (by omega)))) ((x229_frJ (hp 3 4 (by omega) (by omega) (by omega))).trans (x231_87_frJ _ _ _ _ _ (hp 3 0 (by omega) (by omega) (by omega)) (hp 3 4 (by omega) (by omega) (by omega))))
      by_cases c5 : v5 = 0
      · rw [if_pos c5]
        exact ih (i + Int32.ofInt 1) _ _ _ _ _ _ _ _ _ (zi_i h1 i0) R31 p4 p7 k1 (by rw [if_pos c5] at hv ⊢; rw [k2, e5]; exact congrArg (fun a => a + _) hv) Q2
      · rw [if_neg c5]
        exact ih (i + Int32.ofInt 1) _ _ _ _ _ _ _ _ _ (zi_i h1 i0) R31 p4 p7 k1 (by rw [if_neg c5] at hv ⊢; rw [bits]; exact congrArg (fun a => a + _) hv) Q2
