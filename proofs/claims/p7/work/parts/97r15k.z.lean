theorem zyrN_l {p : Nat → Nat} {v1 v2 v3 v4 v5 v8 v9 w6 w7 w9 : Int32} (ev : v1 = Int32.ofInt (-1)) (X : zX p (fun i => p (48 + i))) : ∀ (c : Nat) (i : Int32) (v6 : Int64) (Jc Jr : Nat → Nat → Int32) (Lr : Nat → Nat → Int64), 0 ≤ i.toInt → i.toInt ≤ v3.toInt → v3.toInt - i.toInt ≤ c → (Jr (p 4) 4).toInt + (v3.toInt - i.toInt) ≤ 900 → zR (fun i => p (48 + i)) Jc (Jr (p 4)) → zW (Jr (p 4)) (Jr (p 4) 4).toInt → v6 = (Jc (p 48) 6).toInt64 → zyE p (x125N_114 p v1 v2 v3 v4 v5 w6 w7 w9 c i Jc) (x231_87 p v1 v2 v3 v4 v5 v8 v9 c v6 i Jr Lr) := by
  intro c
  induction c with
  | zero =>
    intro i v6 Jc Jr Lr i0 iv hc h9 hR hW h6
    exact ⟨h6, zR_7 hR, zq_79 hR hW.w⟩
  | succ c ih =>
    intro i v6 Jc Jr Lr i0 iv hc h9 hR hW h6
    by_cases h1 : v3 ≤ i
    · rw [x125N_114, x231_87, if_pos h1, if_pos h1]
      exact ⟨h6, zR_7 hR, zq_79 hR hW.w⟩
    · by_cases h2 : Int32.ofInt 99 < Jc (p 48) 2
      · have e4 : Jc (p 48) 2 = Jr (p 4) 4 := zR_4 hR
        have d : 99 < (Jr (p 4) 4).toInt := by
          rw [e4] at h2
          have h2 := Int32.lt_iff_toInt_lt.mp h2
          rw [show (Int32.ofInt 99).toInt = 99 from by decide] at h2
          exact h2
        obtain ⟨k1, k2, k3⟩ := zyr_idle (p := p) (v1 := v1) (v2 := v2) (v3 := v3) (v4 := v4) (v5 := v5) (v8 := v8) (v9 := v9) (c + 1) i v6 Jr Lr i0 iv hW (by omega) h9
        rw [x125N_114, if_neg h1, if_pos h2]
        exact ⟨k1.trans h6, (show Jc (p 48) 5 = Jr (p 4) 7 from zR_7 hR).trans k2.symm, (zq_79 hR hW.w).trans k3.symm⟩
      · rw [x125N_114, x231_87, if_neg h1, if_neg h1, if_neg h2]
        have lt := z_lt h1
        have z := zpassN (Lr := Lr) X hR hW (by omega)
        rw [← ev] at z
        have x6 : (x1N p (fun i => p (48 + i)) Jc) (p 48) 6 = Jc (p 48) 6 := z6_1N X
        have e1 : (x1N p (fun i => p (48 + i)) Jc) (p 49) 1 = (x190 p v1 Jr Lr).1 (p 4) 1 := zR_n z.1 (i := 1) (by omega)
        have D := zdr_l (v1 := v1) (v2 := v2) (v3 := v3) (v4 := v4) (v5 := v5) (v8 := v8) (v9 := v9) (v10 := i) (L := (x190 p v1 Jr Lr).2) X.hq (((x190 p v1 Jr Lr).1 (p 4) 1).toNatClampNeg) (Int32.ofInt 0) v6 (x1N p (fun i => p (48 + i)) Jc) (x190 p v1 Jr Lr).1 (by decide) z.1 z.2.1 (h6.trans (congrArg Int32.toInt64 x6.symm))
        have ex : x81 (fun i => p (48 + i)) v4 (x1N p (fun i => p (48 + i)) Jc) = x81_2 (fun i => p (48 + i)) v4 (((x190 p v1 Jr Lr).1 (p 4) 1).toNatClampNeg) (Int32.ofInt 0) (x1N p (fun i => p (48 + i)) Jc) := (show x81 (fun i => p (48 + i)) v4 (x1N p (fun i => p (48 + i)) Jc) = x81_2 (fun i => p (48 + i)) v4 (((x1N p (fun i => p (48 + i)) Jc) (p 49) 1).toNatClampNeg) (Int32.ofInt 0) (x1N p (fun i => p (48 + i)) Jc) from rfl).trans (congrArg (fun k => x81_2 (fun i => p (48 + i)) v4 k (Int32.ofInt 0) (x1N p (fun i => p (48 + i)) Jc)) (congrArg Int32.toNatClampNeg e1))
        rw [← ex] at D
        obtain ⟨D1, D2, D3, D4⟩ := D
        have day := D4 4 (by omega)
        have e4 := z.2.2.2
        exact ih (i + Int32.ofInt 1) _ _ _ (x190 p v1 Jr Lr).2 (zi_i h1 i0) (by rw [lx_inc h1]; omega) (lx_dec h1 hc) (by rw [day, lx_inc h1]; omega) D1 (by rw [day]; exact D2) D3
