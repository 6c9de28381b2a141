theorem zyr_l {p : Nat → Nat} {v1 v2 v3 v4 v5 v8 v9 w6 w7 w9 : Int32} {sp ln T : Nat} (hsq : ∀ i, i < 17 → sp ≠ p (48 + i)) (ht : v1.toInt = (T : Nat)) (X : zX p (fun i => p (48 + i))) : ∀ (c : Nat) (i : Int32) (v6 : Int64) (Jc Jr : Nat → Nat → Int32) (Lc Lr : Nat → Nat → Int64), 0 ≤ i.toInt → i.toInt ≤ v3.toInt → v3.toInt - i.toInt ≤ c → (Jr (p 4) 4).toInt + (v3.toInt - i.toInt) ≤ 900 → zR (fun i => p (48 + i)) Jc (Jr (p 4)) → zW (Jr (p 4)) (Jr (p 4) 4).toInt → v6 = (Jc (p 48) 6).toInt64 → zRQ p sp ln T Jc Jr → zyE p (x125_114 p sp ln v1 v2 v3 v4 v5 w6 w7 w9 c i Jc Lc).1 (x231_87 p v1 v2 v3 v4 v5 v8 v9 c v6 i Jr Lr) := by
  intro c
  induction c with
  | zero =>
    intro i v6 Jc Jr Lc Lr i0 iv hc h9 hR hW h6 hQ
    exact ⟨h6, zR_7 hR, zq_79 hR hW.w⟩
  | succ c ih =>
    intro i v6 Jc Jr Lc Lr i0 iv hc h9 hR hW h6 hQ
    by_cases h1 : v3 ≤ i
    · rw [x125_114, x231_87, if_pos h1, if_pos h1]
      exact ⟨h6, zR_7 hR, zq_79 hR hW.w⟩
    · by_cases h2 : Int32.ofInt 99 < Jc (p 48) 2
      · have e4 : Jc (p 48) 2 = Jr (p 4) 4 := zR_4 hR
        have d : 99 < (Jr (p 4) 4).toInt := by
          rw [e4] at h2
          have h2 := Int32.lt_iff_toInt_lt.mp h2
          rw [show (Int32.ofInt 99).toInt = 99 from by decide] at h2
          exact h2
        obtain ⟨k1, k2, k3⟩ := zyr_idle (p := p) (v1 := v1) (v2 := v2) (v3 := v3) (v4 := v4) (v5 := v5) (v8 := v8) (v9 := v9) (c + 1) i v6 Jr Lr i0 iv hW (by omega) h9
        rw [x125_114, if_neg h1, if_pos h2]
        exact ⟨k1.trans h6, (show Jc (p 48) 5 = Jr (p 4) 7 from zR_7 hR).trans k2.symm, (zq_79 hR hW.w).trans k3.symm⟩
      · rw [x125_114, x231_87, if_neg h1, if_neg h1, if_neg h2]
        have lt := z_lt h1
        have z := zpass (Lc := Lc) (Lr := Lr) hsq ht hQ X hR hW (by omega)
        have x6 : (x1 p (fun i => p (48 + i)) sp ln Jc Lc).1 (p 48) 6 = Jc (p 48) 6 := z6_1 X
        have e1 : (x1 p (fun i => p (48 + i)) sp ln Jc Lc).1 (p 49) 1 = (x190 p v1 Jr Lr).1 (p 4) 1 := zR_n z.1 (i := 1) (by omega)
        have D := zdr_l (v1 := v1) (v2 := v2) (v3 := v3) (v4 := v4) (v5 := v5) (v8 := v8) (v9 := v9) (v10 := i) (L := (x190 p v1 Jr Lr).2) X.hq (((x190 p v1 Jr Lr).1 (p 4) 1).toNatClampNeg) (Int32.ofInt 0) v6 (x1 p (fun i => p (48 + i)) sp ln Jc Lc).1 (x190 p v1 Jr Lr).1 (by decide) z.1 z.2.1 (h6.trans (congrArg Int32.toInt64 x6.symm))
        have ex : x81 (fun i => p (48 + i)) v4 (x1 p (fun i => p (48 + i)) sp ln Jc Lc).1 = x81_2 (fun i => p (48 + i)) v4 (((x190 p v1 Jr Lr).1 (p 4) 1).toNatClampNeg) (Int32.ofInt 0) (x1 p (fun i => p (48 + i)) sp ln Jc Lc).1 := (show x81 (fun i => p (48 + i)) v4 (x1 p (fun i => p (48 + i)) sp ln Jc Lc).1 = x81_2 (fun i => p (48 + i)) v4 (((x1 p (fun i => p (48 + i)) sp ln Jc Lc).1 (p 49) 1).toNatClampNeg) (Int32.ofInt 0) (x1 p (fun i => p (48 + i)) sp ln Jc Lc).1 from rfl).trans (congrArg (fun k => x81_2 (fun i => p (48 + i)) v4 k (Int32.ofInt 0) (x1 p (fun i => p (48 + i)) sp ln Jc Lc).1) (congrArg Int32.toNatClampNeg e1))
        rw [← ex] at D
        obtain ⟨D1, D2, D3, D4⟩ := D
        have day := D4 4 (by omega)
        have e4 := z.2.2.2
        have Q1 := zKp_Q X hsq z.2.2.1 hQ
        have Q2 := zRQ_ag (Jc' := x81 (fun i => p (48 + i)) v4 (x1 p (fun i => p (48 + i)) sp ln Jc Lc).1) (Jr' := (x231_101 p v1 v2 v3 v4 v5 v8 v9 i (x190 p v1 Jr Lr).2 (((x190 p v1 Jr Lr).1 (p 4) 1).toNatClampNeg) v6 (Int32.ofInt 0) (x190 p v1 Jr Lr).1).2) Q1 (x81_frJ (hsq 0 (by omega)) (hsq 13 (by omega))) (x231_101_frJ _ _ _ _ (X.hp 1 4 (by omega) (by omega) (by omega))) (x231_101_frJ _ _ _ _ (X.hp 2 4 (by omega) (by omega) (by omega))) (x231_101_frJ _ _ _ _ (X.hp 3 4 (by omega) (by omega) (by omega)))
        exact ih (i + Int32.ofInt 1) _ _ _ (x1 p (fun i => p (48 + i)) sp ln Jc Lc).2 (x190 p v1 Jr Lr).2 (zi_i h1 i0) (by rw [lx_inc h1]; omega) (lx_dec h1 hc) (by rw [day, lx_inc h1]; omega) D1 (by rw [day]; exact D2) D3 Q2
