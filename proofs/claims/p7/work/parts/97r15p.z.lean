theorem zq_125N {p : Nat → Nat} {v1 v2 v3 v4 v5 : Int32} {Jc Jr : Nat → Nat → Int32} {Lr : Nat → Nat → Int64} (hv : v1 < 0) (X : zX p (fun i => p (48 + i))) (hR : zR (fun i => p (31 + i)) Jc (Jr (p 4))) (hW : zW (Jr (p 4)) (Jr (p 4) 4).toInt) (hd : (Jr (p 4) 4).toInt ≤ 200) (h4 : Jc (p 16) 4 = Jr (p 0) 2) (h0 : 0 ≤ (Jr (p 0) 2).toInt) (h9 : Jc (p 31) 6 = Jr (p 4) 9) : zq_A (((x125N p v1 v2 v3 v4 v5 Jc).1, (x125N p v1 v2 v3 v4 v5 Jc).2, Lr)) (x231 p v1 v2 v3 v4 v5 Jr Lr) := by
  have may := zmay (q := fun i => p (31 + i)) (v1 := v1) hR hW.w h4 h0
  have hp := X.hp
  have n47 : p 4 ≠ p 7 := hp 4 7 (by omega) (by omega) (by omega)
  have same : ∀ y : Int32, zq_A ((y, Jc, Lr) : Int32 × (Nat → Nat → Int32) × (Nat → Nat → Int64)) (y, Jr, Lr) := fun y => rfl
  unfold x125N x231
  by_cases hm : x187 p v1 Jr = 0
  · rw [if_pos hm]
    by_cases a : Jc (p 31) 1 = 0
    · rw [if_pos a]
      exact same _
    · rw [if_neg a, if_pos (Classical.byContradiction fun c => may.mp ⟨a, c⟩ hm)]
      exact same _
  · obtain ⟨a, b⟩ := may.mpr hm
    have a : ¬ Jc (p 31) 1 = 0 := a
    rw [if_neg hm, if_neg a, if_neg b, z_145, z_145, z_145, z_145, z_j0, z_j1, z_j100, z_j20]
    by_cases c0 : v2.toInt < 1
    · rw [if_pos (z_i1.mpr c0), if_pos (show v2.toInt < 1 ∨ 20 < v2.toInt from Or.inl c0), if_pos (show Int32.ofInt 0 = 0 from rfl)]
      exact same _
    · rw [if_neg (fun h => c0 (z_i1.mp h))]
      by_cases d0 : 20 < v2.toInt
      · rw [if_pos (z_i20.mpr d0), if_pos (show v2.toInt < 1 ∨ 20 < v2.toInt from Or.inr d0), if_pos (show Int32.ofInt 0 = 0 from rfl)]
        exact same _
      · rw [if_neg (fun h => d0 (z_i20.mp h)), if_neg (show ¬ (v2.toInt < 1 ∨ 20 < v2.toInt) from by omega), if_neg (show ¬ Int32.ofInt 1 = 0 from by decide)]
        by_cases c1 : v3.toInt < 1
        · rw [if_pos (z_i1.mpr c1), if_pos (show v3.toInt < 1 ∨ 100 < v3.toInt from Or.inl c1), if_pos (show Int32.ofInt 0 = 0 from rfl)]
          exact same _
        · rw [if_neg (fun h => c1 (z_i1.mp h))]
          by_cases d1 : 100 < v3.toInt
          · rw [if_neg (fun h => by have := z_k100.mp h; omega), if_pos (show v3.toInt < 1 ∨ 100 < v3.toInt from Or.inr d1), if_pos (show Int32.ofInt 0 = 0 from rfl)]
            exact same _
          · rw [if_pos (z_k100.mpr (by omega)), if_neg (show ¬ (v3.toInt < 1 ∨ 100 < v3.toInt) from by omega), if_neg (show ¬ Int32.ofInt 1 = 0 from by decide)]
            by_cases c2 : v4.toInt < 0
            · rw [if_pos (z_i0.mpr c2), if_pos (show v4.toInt < 0 ∨ 100 < v4.toInt from Or.inl c2), if_pos (show Int32.ofInt 0 = 0 from rfl)]
              exact same _
            · rw [if_neg (fun h => c2 (z_i0.mp h))]
              by_cases d2 : 100 < v4.toInt
              · rw [if_pos (z_i100.mpr d2), if_pos (show v4.toInt < 0 ∨ 100 < v4.toInt from Or.inr d2), if_pos (show Int32.ofInt 0 = 0 from rfl)]
                exact same _
              · rw [if_neg (fun h => d2 (z_i100.mp h)), if_neg (show ¬ (v4.toInt < 0 ∨ 100 < v4.toInt) from by omega), if_neg (show ¬ Int32.ofInt 1 = 0 from by decide)]
                by_cases c3 : v5.toInt < 0
                · rw [if_pos (z_i0.mpr c3), if_pos (show v5.toInt < 0 ∨ 1 < v5.toInt from Or.inl c3), if_pos (show Int32.ofInt 0 = 0 from rfl)]
                  exact same _
                · rw [if_neg (fun h => c3 (z_i0.mp h))]
                  by_cases d3 : 1 < v5.toInt
                  · rw [if_neg (fun h => by have := z_k1.mp h; omega), if_pos (show v5.toInt < 0 ∨ 1 < v5.toInt from Or.inr d3), if_pos (show Int32.ofInt 0 = 0 from rfl)]
                    exact same _
                  · rw [if_pos (z_k1.mpr (by omega)), if_neg (show ¬ (v5.toInt < 0 ∨ 1 < v5.toInt) from by omega), if_neg (show ¬ Int32.ofInt 1 = 0 from by decide)]
                    have ev : v1 = Int32.ofInt (-1) := by
                      unfold x111 at b
                      by_cases g : v1 < Int32.ofInt (-1)
                      · rw [if_pos g] at b
                        exact absurd rfl b
                      · have g1 : ¬ v1.toInt < (Int32.ofInt (-1)).toInt := fun h => g (Int32.lt_iff_toInt_lt.mpr h)
                        have g2 := z_i0.mp hv
                        rw [show (Int32.ofInt (-1)).toInt = -1 from by decide] at g1
                        exact Int32.toInt_inj.mp (by rw [show (Int32.ofInt (-1)).toInt = -1 from by decide]; omega)
                    have r4 : x227 p Jr (p 4) = Jr (p 4) := x227_frJ n47
                    have iv : Int32.ofInt 0 = (if v5 = 0 then Int32.ofInt 0 else Int32.ofInt 0) := by split <;> rfl
                    exact zyyN_l (e := Jr (p 4)) ev X hW hd (by omega) v2.toNatClampNeg (Int32.ofInt 0) (Int32.ofInt 0) (Int32.ofInt 0) (Jc (p 31) 6) (Int32.ofInt 0) _ Jc (x227 p Jr) Lr (by decide) hR (fun j _ => by rw [r4]) (fun j hj => zkp n47 hj) (by rw [h9]) iv
