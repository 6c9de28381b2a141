/-! the class: by rules -/
/-! $Reckoner.push -/
def x42 (p : Nat → Nat) (v1 : Int64) (J : Nat → Nat → Int32) (L : Nat → Nat → Int64) : (Nat → Nat → Int32) × (Nat → Nat → Int64) := if (Int32.ofNat 60) ≤ (J (p 25) 2) then (J, L)
  else (nt_u J (p 25) 2 ((J (p 25) 2) + (Int32.ofInt 1)), nt_u L (p 27) ((J (p 25) 2).toNatClampNeg) v1)
theorem xt42 {X : nt_X} {d : Nat} {M : nt_M} {o : Option Value × nt_M} {p : Nat → Nat} {v1 : Int64} {J : Nat → Nat → Int32} {L : Nat → Nat → Int64} (hp : xs_P M p) (k : nt_ev X d 42 [.ref (p 25), .long v1] (me_w (lw M L) J) o) : o = (none, me_w (lw M ((x42 p v1 J L).2)) ((x42 p v1 J L).1)) := by
  have k : nt_rn X d 42 (0, [(0, .ref (p 25)), (1, .long v1)], [], me_w (lw M L) J) o := k
  have k := ly_revb 1 (c' := (1, [(0, .ref (p 25)), (1, .long v1)], [.ref (p 25)], me_w (lw M L) J)) rfl k
  have k := lz_get (a := (p 25)) (g := 302) (M := me_w (lw M L) J) (v := .int (J (p 25) 2)) rfl (congrArg Value.int (rfl)) k
  have k := ly_revb 1 (c' := (5, [(0, .ref (p 25)), (1, .long v1)], [.ref (p 25), .int (J (p 25) 2)], me_w (lw M L) J)) rfl k
  have k := lz_get (a := (p 25)) (g := 301) (M := me_w (lw M L) J) (v := .ref (p 27)) rfl (nt_gfR rfl (hp.1 (25, 1, 27) (by decide))) k
  have k := lz_len rfl (hp.2.2.1 27 (by omega)) k
  rw [show nt_l (me_w (lw M L) J) (p 27) = 60 from hp.2.2.2] at k
  have k : nt_rn X _ 42 (9, [(0, .ref (p 25)), (1, .long v1)], [.int (Int32.ofNat 60), .int (J (p 25) 2)], me_w (lw M L) J) _ := k
  have k := ly_revb 1 (c' := (if (Int32.ofNat 60) ≤ (J (p 25) 2) then 32 else 12, [(0, .ref (p 25)), (1, .long v1)], [], me_w (lw M L) J)) rfl k
  by_cases h9 : (Int32.ofNat 60) ≤ (J (p 25) 2)
  · rw [if_pos h9] at k
    have k := lz_rv rfl rfl k
    rw [k, x42, if_pos h9]
  · rw [if_neg h9] at k
    have k := ly_revb 1 (c' := (13, [(0, .ref (p 25)), (1, .long v1)], [.ref (p 25)], me_w (lw M L) J)) rfl k
    have k := lz_get (a := (p 25)) (g := 301) (M := me_w (lw M L) J) (v := .ref (p 27)) rfl (nt_gfR rfl (hp.1 (25, 1, 27) (by decide))) k
    have k := ly_revb 1 (c' := (17, [(0, .ref (p 25)), (1, .long v1)], [.ref (p 25), .ref (p 27)], me_w (lw M L) J)) rfl k
    have k := lz_get (a := (p 25)) (g := 302) (M := me_w (lw M L) J) (v := .int (J (p 25) 2)) rfl (congrArg Value.int (rfl)) k
    have k := ly_revb 1 (c' := (21, [(0, .ref (p 25)), (1, .long v1)], [.long v1, .int (J (p 25) 2), .ref (p 27)], me_w (lw M L) J)) rfl k
    have k := mx_last (q := (J (p 25) 2).toNatClampNeg) rfl rfl k
    have k : nt_rn X _ 42 (22, [(0, .ref (p 25)), (1, .long v1)], [], me_w (lw M (nt_u L (p 27) ((J (p 25) 2).toNatClampNeg) v1)) J) _ := k
    have k := ly_revb 2 (c' := (24, [(0, .ref (p 25)), (1, .long v1)], [.ref (p 25), .ref (p 25)], me_w (lw M (nt_u L (p 27) ((J (p 25) 2).toNatClampNeg) v1)) J)) rfl k
    have k := lz_get (a := (p 25)) (g := 302) (M := me_w (lw M (nt_u L (p 27) ((J (p 25) 2).toNatClampNeg) v1)) J) (v := .int (J (p 25) 2)) rfl (congrArg Value.int (rfl)) k
    have k := ly_revb 2 (c' := (29, [(0, .ref (p 25)), (1, .long v1)], [.int ((J (p 25) 2) + (Int32.ofInt 1)), .ref (p 25)], me_w (lw M (nt_u L (p 27) ((J (p 25) 2).toNatClampNeg) v1)) J)) rfl k
    have k := me_put rfl (by decide) k
    have k : nt_rn X _ 42 (32, [(0, .ref (p 25)), (1, .long v1)], [], me_w (lw M (nt_u L (p 27) ((J (p 25) 2).toNatClampNeg) v1)) (nt_u J (p 25) 2 ((J (p 25) 2) + (Int32.ofInt 1)))) _ := k
    have k := lz_rv rfl rfl k
    rw [k, x42, if_neg h9]
theorem x42_frJ {p : Nat → Nat} {v1 : Int64} {J : Nat → Nat → Int32} {L : Nat → Nat → Int64} {b : Nat} (n0 : b ≠ p 25) : (x42 p v1 J L).1 b = J b := by
  unfold x42
  by_cases h : (Int32.ofNat 60) ≤ (J (p 25) 2)
  · rw [if_pos h]
    all_goals first | (dsimp only; exact (show J b = J b from rfl)) | exact (show J b = J b from rfl)
  · rw [if_neg h]
    all_goals first | (dsimp only; exact (show (nt_u J (p 25) 2 ((J (p 25) 2) + (Int32.ofInt 1))) b = J b from mu_o n0)) | exact (show (nt_u J (p 25) 2 ((J (p 25) 2) + (Int32.ofInt 1))) b = J b from mu_o n0)
theorem x42_frL {p : Nat → Nat} {v1 : Int64} {J : Nat → Nat → Int32} {L : Nat → Nat → Int64} {b : Nat} (n0 : b ≠ p 27) : (x42 p v1 J L).2 b = L b := by
  unfold x42
  by_cases h : (Int32.ofNat 60) ≤ (J (p 25) 2)
  · rw [if_pos h]
    all_goals first | (dsimp only; exact (show L b = L b from rfl)) | exact (show L b = L b from rfl)
  · rw [if_neg h]
    all_goals first | (dsimp only; exact (show (nt_u L (p 27) ((J (p 25) 2).toNatClampNeg) v1) b = L b from mu_o n0)) | exact (show (nt_u L (p 27) ((J (p 25) 2).toNatClampNeg) v1) b = L b from mu_o n0)
/-! $Reckoner.joined -/
def x44 (v0 : Int32) (v1 : Int64) (v3 : Int64) : Int64 := if v0.toInt < 10 ∨ 19 < v0.toInt then (v1 ||| v3)
  else if v0 = Int32.ofInt 10 then (v1 + v3)
    else if v0 = Int32.ofInt 11 then (v1 - v3)
      else if v0 = Int32.ofInt 12 then (v1 * v3)
        else if v0 = Int32.ofInt 13 then if (lg_cmp v3 (Int64.ofNat 0)) = 0 then (Int64.ofNat 0)
            else (v1 / v3)
          else if v0 = Int32.ofInt 14 then if 0 ≤ (lg_cmp v1 v3) then (Int64.ofNat 0)
              else (Int64.ofNat 1)
            else if v0 = Int32.ofInt 15 then if 0 < (lg_cmp v1 v3) then (Int64.ofNat 0)
                else (Int64.ofNat 1)
              else if v0 = Int32.ofInt 16 then if (lg_cmp v1 v3) = 0 then (Int64.ofNat 1)
                  else (Int64.ofNat 0)
                else if v0 = Int32.ofInt 17 then if (lg_cmp v1 v3) < 0 then (Int64.ofNat 0)
                    else (Int64.ofNat 1)
                  else if v0 = Int32.ofInt 18 then if (lg_cmp v1 v3) ≤ 0 then (Int64.ofNat 0)
                      else (Int64.ofNat 1)
                    else (v1 &&& v3)
theorem xt44 {X : nt_X} {d : Nat} {M : nt_M} {o : Option Value × nt_M} {v0 : Int32} {v1 : Int64} {v3 : Int64} {J : Nat → Nat → Int32}  (k : nt_ev X d 44 [.int v0, .long v1, .long v3] (me_w M J) o) : o = (some (.long (x44 v0 v1 v3)), me_w M J) := by
  have k : nt_rn X d 44 (0, [(0, .int v0), (1, .long v1), (3, .long v3)], [], me_w M J) o := k
  have k := ly_revb 1 (c' := (1, [(0, .int v0), (1, .long v1), (3, .long v3)], [.int v0], me_w M J)) rfl k
  by_cases h1 : v0.toInt < 10 ∨ 19 < v0.toInt
  · have k := mx_tsd (q := 146) rfl h1 (by decide) k
    have k : nt_rn X _ 44 (146, [(0, .int v0), (1, .long v1), (3, .long v3)], [], me_w M J) _ := k
    have k := ly_revb 3 (c' := (149, [(0, .int v0), (1, .long v1), (3, .long v3)], [.long (v1 ||| v3)], me_w M J)) rfl k
    have k := mx_rl rfl rfl k
    rw [k, x44, if_pos h1]
  · by_cases h1_10 : v0 = Int32.ofInt 10
    · have k := mx_tsc (q := 56) (off := 55) rfl h1 (by rw [h1_10]; rfl) (by decide) k
      have k : nt_rn X _ 44 (56, [(0, .int v0), (1, .long v1), (3, .long v3)], [], me_w M J) _ := k
      have k := ly_revb 3 (c' := (59, [(0, .int v0), (1, .long v1), (3, .long v3)], [.long (v1 + v3)], me_w M J)) rfl k
      have k := mx_rl rfl rfl k
      rw [k, x44, if_neg h1, if_pos h1_10]
    · by_cases h1_11 : v0 = Int32.ofInt 11
      · have k := mx_tsc (q := 60) (off := 59) rfl h1 (by rw [h1_11]; rfl) (by decide) k
        have k : nt_rn X _ 44 (60, [(0, .int v0), (1, .long v1), (3, .long v3)], [], me_w M J) _ := k
        have k := ly_revb 3 (c' := (63, [(0, .int v0), (1, .long v1), (3, .long v3)], [.long (v1 - v3)], me_w M J)) rfl k
        have k := mx_rl rfl rfl k
        rw [k, x44, if_neg h1, if_neg h1_10, if_pos h1_11]
      · by_cases h1_12 : v0 = Int32.ofInt 12
        · have k := mx_tsc (q := 64) (off := 63) rfl h1 (by rw [h1_12]; rfl) (by decide) k
          have k : nt_rn X _ 44 (64, [(0, .int v0), (1, .long v1), (3, .long v3)], [], me_w M J) _ := k
          have k := ly_revb 3 (c' := (67, [(0, .int v0), (1, .long v1), (3, .long v3)], [.long (v1 * v3)], me_w M J)) rfl k
          have k := mx_rl rfl rfl k
          rw [k, x44, if_neg h1, if_neg h1_10, if_neg h1_11, if_pos h1_12]
        · by_cases h1_13 : v0 = Int32.ofInt 13
          · have k := mx_tsc (q := 68) (off := 67) rfl h1 (by rw [h1_13]; rfl) (by decide) k
            have k : nt_rn X _ 44 (68, [(0, .int v0), (1, .long v1), (3, .long v3)], [], me_w M J) _ := k
            have k := ly_revb 4 (c' := (if (lg_cmp v3 (Int64.ofNat 0)) = 0 then 74 else 78, [(0, .int v0), (1, .long v1), (3, .long v3)], [], me_w M J)) rfl k
            by_cases h71 : (lg_cmp v3 (Int64.ofNat 0)) = 0
            · rw [if_pos h71] at k
              have k := ly_revb 2 (c' := (81, [(0, .int v0), (1, .long v1), (3, .long v3)], [.long (Int64.ofNat 0)], me_w M J)) rfl k
              have k := mx_rl rfl rfl k
              rw [k, x44, if_neg h1, if_neg h1_10, if_neg h1_11, if_neg h1_12, if_pos h1_13, if_pos h71]
            · rw [if_neg h71] at k
              have k := ly_revb 2 (c' := (80, [(0, .int v0), (1, .long v1), (3, .long v3)], [.long v3, .long v1], me_w M J)) rfl k
              obtain ⟨hd80, k⟩ := mx_ldiv rfl k
              have k := mx_rl rfl rfl k
              rw [k, x44, if_neg h1, if_neg h1_10, if_neg h1_11, if_neg h1_12, if_pos h1_13, if_neg h71]
          · by_cases h1_14 : v0 = Int32.ofInt 14
            · have k := mx_tsc (q := 82) (off := 81) rfl h1 (by rw [h1_14]; rfl) (by decide) k
              have k : nt_rn X _ 44 (82, [(0, .int v0), (1, .long v1), (3, .long v3)], [], me_w M J) _ := k
              have k := ly_revb 4 (c' := (if 0 ≤ (lg_cmp v1 v3) then 92 else 88, [(0, .int v0), (1, .long v1), (3, .long v3)], [], me_w M J)) rfl k
              by_cases h85 : 0 ≤ (lg_cmp v1 v3)
              · rw [if_pos h85] at k
                have k := ly_revb 1 (c' := (93, [(0, .int v0), (1, .long v1), (3, .long v3)], [.long (Int64.ofNat 0)], me_w M J)) rfl k
                have k := mx_rl rfl rfl k
                rw [k, x44, if_neg h1, if_neg h1_10, if_neg h1_11, if_neg h1_12, if_neg h1_13, if_pos h1_14, if_pos h85]
              · rw [if_neg h85] at k
                have k := ly_revb 2 (c' := (93, [(0, .int v0), (1, .long v1), (3, .long v3)], [.long (Int64.ofNat 1)], me_w M J)) rfl k
                have k := mx_rl rfl rfl k
                rw [k, x44, if_neg h1, if_neg h1_10, if_neg h1_11, if_neg h1_12, if_neg h1_13, if_pos h1_14, if_neg h85]
            · by_cases h1_15 : v0 = Int32.ofInt 15
              · have k := mx_tsc (q := 94) (off := 93) rfl h1 (by rw [h1_15]; rfl) (by decide) k
                have k : nt_rn X _ 44 (94, [(0, .int v0), (1, .long v1), (3, .long v3)], [], me_w M J) _ := k
                have k := ly_revb 4 (c' := (if 0 < (lg_cmp v1 v3) then 104 else 100, [(0, .int v0), (1, .long v1), (3, .long v3)], [], me_w M J)) rfl k
                by_cases h97 : 0 < (lg_cmp v1 v3)
                · rw [if_pos h97] at k
                  have k := ly_revb 1 (c' := (105, [(0, .int v0), (1, .long v1), (3, .long v3)], [.long (Int64.ofNat 0)], me_w M J)) rfl k
                  have k := mx_rl rfl rfl k
                  rw [k, x44, if_neg h1, if_neg h1_10, if_neg h1_11, if_neg h1_12, if_neg h1_13, if_neg h1_14, if_pos h1_15, if_pos h97]
                · rw [if_neg h97] at k
                  have k := ly_revb 2 (c' := (105, [(0, .int v0), (1, .long v1), (3, .long v3)], [.long (Int64.ofNat 1)], me_w M J)) rfl k
                  have k := mx_rl rfl rfl k
                  rw [k, x44, if_neg h1, if_neg h1_10, if_neg h1_11, if_neg h1_12, if_neg h1_13, if_neg h1_14, if_pos h1_15, if_neg h97]
              · by_cases h1_16 : v0 = Int32.ofInt 16
                · have k := mx_tsc (q := 106) (off := 105) rfl h1 (by rw [h1_16]; rfl) (by decide) k
                  have k : nt_rn X _ 44 (106, [(0, .int v0), (1, .long v1), (3, .long v3)], [], me_w M J) _ := k
                  have k := ly_revb 4 (c' := (if (lg_cmp v1 v3) = 0 then 112 else 116, [(0, .int v0), (1, .long v1), (3, .long v3)], [], me_w M J)) rfl k
                  by_cases h109 : (lg_cmp v1 v3) = 0
                  · rw [if_pos h109] at k
                    have k := ly_revb 2 (c' := (117, [(0, .int v0), (1, .long v1), (3, .long v3)], [.long (Int64.ofNat 1)], me_w M J)) rfl k
                    have k := mx_rl rfl rfl k
                    rw [k, x44, if_neg h1, if_neg h1_10, if_neg h1_11, if_neg h1_12, if_neg h1_13, if_neg h1_14, if_neg h1_15, if_pos h1_16, if_pos h109]
                  · rw [if_neg h109] at k
                    have k := ly_revb 1 (c' := (117, [(0, .int v0), (1, .long v1), (3, .long v3)], [.long (Int64.ofNat 0)], me_w M J)) rfl k
                    have k := mx_rl rfl rfl k
                    rw [k, x44, if_neg h1, if_neg h1_10, if_neg h1_11, if_neg h1_12, if_neg h1_13, if_neg h1_14, if_neg h1_15, if_pos h1_16, if_neg h109]
                · by_cases h1_17 : v0 = Int32.ofInt 17
                  · have k := mx_tsc (q := 118) (off := 117) rfl h1 (by rw [h1_17]; rfl) (by decide) k
                    have k : nt_rn X _ 44 (118, [(0, .int v0), (1, .long v1), (3, .long v3)], [], me_w M J) _ := k
                    have k := ly_revb 4 (c' := (if (lg_cmp v1 v3) < 0 then 128 else 124, [(0, .int v0), (1, .long v1), (3, .long v3)], [], me_w M J)) rfl k
                    by_cases h121 : (lg_cmp v1 v3) < 0
                    · rw [if_pos h121] at k
                      have k := ly_revb 1 (c' := (129, [(0, .int v0), (1, .long v1), (3, .long v3)], [.long (Int64.ofNat 0)], me_w M J)) rfl k
                      have k := mx_rl rfl rfl k
                      rw [k, x44, if_neg h1, if_neg h1_10, if_neg h1_11, if_neg h1_12, if_neg h1_13, if_neg h1_14, if_neg h1_15, if_neg h1_16, if_pos h1_17, if_pos h121]
                    · rw [if_neg h121] at k
                      have k := ly_revb 2 (c' := (129, [(0, .int v0), (1, .long v1), (3, .long v3)], [.long (Int64.ofNat 1)], me_w M J)) rfl k
                      have k := mx_rl rfl rfl k
                      rw [k, x44, if_neg h1, if_neg h1_10, if_neg h1_11, if_neg h1_12, if_neg h1_13, if_neg h1_14, if_neg h1_15, if_neg h1_16, if_pos h1_17, if_neg h121]
                  · by_cases h1_18 : v0 = Int32.ofInt 18
                    · have k := mx_tsc (q := 130) (off := 129) rfl h1 (by rw [h1_18]; rfl) (by decide) k
                      have k : nt_rn X _ 44 (130, [(0, .int v0), (1, .long v1), (3, .long v3)], [], me_w M J) _ := k
                      have k := ly_revb 4 (c' := (if (lg_cmp v1 v3) ≤ 0 then 140 else 136, [(0, .int v0), (1, .long v1), (3, .long v3)], [], me_w M J)) rfl k
                      by_cases h133 : (lg_cmp v1 v3) ≤ 0
                      · rw [if_pos h133] at k
                        have k := ly_revb 1 (c' := (141, [(0, .int v0), (1, .long v1), (3, .long v3)], [.long (Int64.ofNat 0)], me_w M J)) rfl k
                        have k := mx_rl rfl rfl k
                        rw [k, x44, if_neg h1, if_neg h1_10, if_neg h1_11, if_neg h1_12, if_neg h1_13, if_neg h1_14, if_neg h1_15, if_neg h1_16, if_neg h1_17, if_pos h1_18, if_pos h133]
                      · rw [if_neg h133] at k
                        have k := ly_revb 2 (c' := (141, [(0, .int v0), (1, .long v1), (3, .long v3)], [.long (Int64.ofNat 1)], me_w M J)) rfl k
                        have k := mx_rl rfl rfl k
                        rw [k, x44, if_neg h1, if_neg h1_10, if_neg h1_11, if_neg h1_12, if_neg h1_13, if_neg h1_14, if_neg h1_15, if_neg h1_16, if_neg h1_17, if_pos h1_18, if_neg h133]
                    · have hz : v0 = Int32.ofInt 19 := by
                        have z1 := h1
                        have y0 : v0.toInt ≠ 10 := fun e => h1_10 (Int32.toInt_inj.mp (e.trans (by decide)))
                        have y1 : v0.toInt ≠ 11 := fun e => h1_11 (Int32.toInt_inj.mp (e.trans (by decide)))
                        have y2 : v0.toInt ≠ 12 := fun e => h1_12 (Int32.toInt_inj.mp (e.trans (by decide)))
                        have y3 : v0.toInt ≠ 13 := fun e => h1_13 (Int32.toInt_inj.mp (e.trans (by decide)))
                        have y4 : v0.toInt ≠ 14 := fun e => h1_14 (Int32.toInt_inj.mp (e.trans (by decide)))
                        have y5 : v0.toInt ≠ 15 := fun e => h1_15 (Int32.toInt_inj.mp (e.trans (by decide)))
                        have y6 : v0.toInt ≠ 16 := fun e => h1_16 (Int32.toInt_inj.mp (e.trans (by decide)))
                        have y7 : v0.toInt ≠ 17 := fun e => h1_17 (Int32.toInt_inj.mp (e.trans (by decide)))
                        have y8 : v0.toInt ≠ 18 := fun e => h1_18 (Int32.toInt_inj.mp (e.trans (by decide)))
                        exact Int32.toInt_inj.mp ((show v0.toInt = 19 by omega).trans (by decide))
                      have k := mx_tsc (q := 142) (off := 141) rfl h1 (by rw [hz]; rfl) (by decide) k
                      have k : nt_rn X _ 44 (142, [(0, .int v0), (1, .long v1), (3, .long v3)], [], me_w M J) _ := k
                      have k := ly_revb 3 (c' := (145, [(0, .int v0), (1, .long v1), (3, .long v3)], [.long (v1 &&& v3)], me_w M J)) rfl k
                      have k := mx_rl rfl rfl k
                      rw [k, x44, if_neg h1, if_neg h1_10, if_neg h1_11, if_neg h1_12, if_neg h1_13, if_neg h1_14, if_neg h1_15, if_neg h1_16, if_neg h1_17, if_neg h1_18]
/-! $Reckoner.apply -/
def x43 (p : Nat → Nat) (v1 : Int32) (J : Nat → Nat → Int32) (L : Nat → Nat → Int64) : (Nat → Nat → Int32) × (Nat → Nat → Int64) := if v1 = (Int32.ofInt 21) then if (J (p 25) 2) < (Int32.ofInt 1) then if (J (p 25) 2) < (Int32.ofInt 2) then (J, L)
      else (nt_u J (p 25) 2 ((J (p 25) 2) - (Int32.ofInt 1)), nt_u L (p 27) ((((J (p 25) 2) - (Int32.ofInt 1)) - (Int32.ofInt 1)).toNatClampNeg) (x44 v1 (L (p 27) ((((J (p 25) 2) - (Int32.ofInt 1)) - (Int32.ofInt 1)).toNatClampNeg)) (L (p 27) (((J (p 25) 2) - (Int32.ofInt 1)).toNatClampNeg))))
    else (J, nt_u L (p 27) (((J (p 25) 2) - (Int32.ofInt 1)).toNatClampNeg) ((Int64.ofNat 1) - (L (p 27) (((J (p 25) 2) - (Int32.ofInt 1)).toNatClampNeg))))
  else if (J (p 25) 2) < (Int32.ofInt 2) then (J, L)
    else (nt_u J (p 25) 2 ((J (p 25) 2) - (Int32.ofInt 1)), nt_u L (p 27) ((((J (p 25) 2) - (Int32.ofInt 1)) - (Int32.ofInt 1)).toNatClampNeg) (x44 v1 (L (p 27) ((((J (p 25) 2) - (Int32.ofInt 1)) - (Int32.ofInt 1)).toNatClampNeg)) (L (p 27) (((J (p 25) 2) - (Int32.ofInt 1)).toNatClampNeg))))
theorem xt43 {X : nt_X} {d : Nat} {M : nt_M} {o : Option Value × nt_M} {p : Nat → Nat} {v1 : Int32} {J : Nat → Nat → Int32} {L : Nat → Nat → Int64} (hp : xs_P M p) (k : nt_ev X d 43 [.ref (p 25), .int v1] (me_w (lw M L) J) o) : o = (none, me_w (lw M ((x43 p v1 J L).2)) ((x43 p v1 J L).1)) := by
  have k : nt_rn X d 43 (0, [(0, .ref (p 25)), (1, .int v1)], [], me_w (lw M L) J) o := k
  have k := ly_revb 3 (c' := (if v1 = (Int32.ofInt 21) then 6 else 41, [(0, .ref (p 25)), (1, .int v1)], [], me_w (lw M L) J)) rfl k
  by_cases h3 : v1 = (Int32.ofInt 21)
  · rw [if_pos h3] at k
    have k := ly_revb 1 (c' := (7, [(0, .ref (p 25)), (1, .int v1)], [.ref (p 25)], me_w (lw M L) J)) rfl k
    have k := lz_get (a := (p 25)) (g := 302) (M := me_w (lw M L) J) (v := .int (J (p 25) 2)) rfl (congrArg Value.int (rfl)) k
    have k := ly_revb 2 (c' := (if (J (p 25) 2) < (Int32.ofInt 1) then 41 else 14, [(0, .ref (p 25)), (1, .int v1)], [], me_w (lw M L) J)) rfl k
    by_cases h11 : (J (p 25) 2) < (Int32.ofInt 1)
    · rw [if_pos h11] at k
      have k := ly_revb 1 (c' := (42, [(0, .ref (p 25)), (1, .int v1)], [.ref (p 25)], me_w (lw M L) J)) rfl k
      have k := lz_get (a := (p 25)) (g := 302) (M := me_w (lw M L) J) (v := .int (J (p 25) 2)) rfl (congrArg Value.int (rfl)) k
      have k := ly_revb 2 (c' := (if (J (p 25) 2) < (Int32.ofInt 2) then 94 else 49, [(0, .ref (p 25)), (1, .int v1)], [], me_w (lw M L) J)) rfl k
      by_cases h46 : (J (p 25) 2) < (Int32.ofInt 2)
      · rw [if_pos h46] at k
        have k := lz_rv rfl rfl k
        rw [k, x43, if_pos h3, if_pos h11, if_pos h46]
      · rw [if_neg h46] at k
        have k := ly_revb 2 (c' := (51, [(0, .ref (p 25)), (1, .int v1)], [.ref (p 25), .ref (p 25)], me_w (lw M L) J)) rfl k
        have k := lz_get (a := (p 25)) (g := 302) (M := me_w (lw M L) J) (v := .int (J (p 25) 2)) rfl (congrArg Value.int (rfl)) k
        have k := ly_revb 2 (c' := (56, [(0, .ref (p 25)), (1, .int v1)], [.int ((J (p 25) 2) - (Int32.ofInt 1)), .ref (p 25)], me_w (lw M L) J)) rfl k
        have k := me_put rfl (by decide) k
        have k : nt_rn X _ 43 (59, [(0, .ref (p 25)), (1, .int v1)], [], me_w (lw M L) (nt_u J (p 25) 2 ((J (p 25) 2) - (Int32.ofInt 1)))) _ := k
        have k := ly_revb 1 (c' := (60, [(0, .ref (p 25)), (1, .int v1)], [.ref (p 25)], me_w (lw M L) (nt_u J (p 25) 2 ((J (p 25) 2) - (Int32.ofInt 1))))) rfl k
        have k := lz_get (a := (p 25)) (g := 301) (M := me_w (lw M L) (nt_u J (p 25) 2 ((J (p 25) 2) - (Int32.ofInt 1)))) (v := .ref (p 27)) rfl (nt_gfR rfl (hp.1 (25, 1, 27) (by decide))) k
        have k := ly_revb 1 (c' := (64, [(0, .ref (p 25)), (1, .int v1)], [.ref (p 25), .ref (p 27)], me_w (lw M L) (nt_u J (p 25) 2 ((J (p 25) 2) - (Int32.ofInt 1))))) rfl k
        have k := lz_get (a := (p 25)) (g := 302) (M := me_w (lw M L) (nt_u J (p 25) 2 ((J (p 25) 2) - (Int32.ofInt 1)))) (v := .int ((J (p 25) 2) - (Int32.ofInt 1))) rfl (congrArg Value.int (mu_s)) k
        have k := ly_revb 4 (c' := (71, [(0, .ref (p 25)), (1, .int v1)], [.ref (p 25), .int v1, .int (((J (p 25) 2) - (Int32.ofInt 1)) - (Int32.ofInt 1)), .ref (p 27)], me_w (lw M L) (nt_u J (p 25) 2 ((J (p 25) 2) - (Int32.ofInt 1))))) rfl k
        have k := lz_get (a := (p 25)) (g := 301) (M := me_w (lw M L) (nt_u J (p 25) 2 ((J (p 25) 2) - (Int32.ofInt 1)))) (v := .ref (p 27)) rfl (nt_gfR rfl (hp.1 (25, 1, 27) (by decide))) k
        have k := ly_revb 1 (c' := (75, [(0, .ref (p 25)), (1, .int v1)], [.ref (p 25), .ref (p 27), .int v1, .int (((J (p 25) 2) - (Int32.ofInt 1)) - (Int32.ofInt 1)), .ref (p 27)], me_w (lw M L) (nt_u J (p 25) 2 ((J (p 25) 2) - (Int32.ofInt 1))))) rfl k
        have k := lz_get (a := (p 25)) (g := 302) (M := me_w (lw M L) (nt_u J (p 25) 2 ((J (p 25) 2) - (Int32.ofInt 1)))) (v := .int ((J (p 25) 2) - (Int32.ofInt 1))) rfl (congrArg Value.int (mu_s)) k
        have k := ly_revb 2 (c' := (80, [(0, .ref (p 25)), (1, .int v1)], [.int (((J (p 25) 2) - (Int32.ofInt 1)) - (Int32.ofInt 1)), .ref (p 27), .int v1, .int (((J (p 25) 2) - (Int32.ofInt 1)) - (Int32.ofInt 1)), .ref (p 27)], me_w (lw M L) (nt_u J (p 25) 2 ((J (p 25) 2) - (Int32.ofInt 1))))) rfl k
        have k := mx_lald (v := L (p 27) ((((J (p 25) 2) - (Int32.ofInt 1)) - (Int32.ofInt 1)).toNatClampNeg)) rfl (rfl) k
        have k := ly_revb 1 (c' := (82, [(0, .ref (p 25)), (1, .int v1)], [.ref (p 25), .long (L (p 27) ((((J (p 25) 2) - (Int32.ofInt 1)) - (Int32.ofInt 1)).toNatClampNeg)), .int v1, .int (((J (p 25) 2) - (Int32.ofInt 1)) - (Int32.ofInt 1)), .ref (p 27)], me_w (lw M L) (nt_u J (p 25) 2 ((J (p 25) 2) - (Int32.ofInt 1))))) rfl k
        have k := lz_get (a := (p 25)) (g := 301) (M := me_w (lw M L) (nt_u J (p 25) 2 ((J (p 25) 2) - (Int32.ofInt 1)))) (v := .ref (p 27)) rfl (nt_gfR rfl (hp.1 (25, 1, 27) (by decide))) k
        have k := ly_revb 1 (c' := (86, [(0, .ref (p 25)), (1, .int v1)], [.ref (p 25), .ref (p 27), .long (L (p 27) ((((J (p 25) 2) - (Int32.ofInt 1)) - (Int32.ofInt 1)).toNatClampNeg)), .int v1, .int (((J (p 25) 2) - (Int32.ofInt 1)) - (Int32.ofInt 1)), .ref (p 27)], me_w (lw M L) (nt_u J (p 25) 2 ((J (p 25) 2) - (Int32.ofInt 1))))) rfl k
        have k := lz_get (a := (p 25)) (g := 302) (M := me_w (lw M L) (nt_u J (p 25) 2 ((J (p 25) 2) - (Int32.ofInt 1)))) (v := .int ((J (p 25) 2) - (Int32.ofInt 1))) rfl (congrArg Value.int (mu_s)) k
        have k := mx_lald (v := L (p 27) (((J (p 25) 2) - (Int32.ofInt 1)).toNatClampNeg)) rfl (rfl) k
        obtain ⟨d1, o1, ed, kc, k⟩ := lz_c (g := 44) (q := 0) (vs := [.int v1, .long (L (p 27) ((((J (p 25) 2) - (Int32.ofInt 1)) - (Int32.ofInt 1)).toNatClampNeg)), .long (L (p 27) (((J (p 25) 2) - (Int32.ofInt 1)).toNatClampNeg))]) (rest := [.int (((J (p 25) 2) - (Int32.ofInt 1)) - (Int32.ofInt 1)), .ref (p 27)]) rfl rfl (by decide) (Or.inl ⟨_, rfl, rfl⟩) rfl k
        have e1 := xt44  kc
        subst e1
        have k : nt_rn X _ 43 (93, [(0, .ref (p 25)), (1, .int v1)], [.long (x44 v1 (L (p 27) ((((J (p 25) 2) - (Int32.ofInt 1)) - (Int32.ofInt 1)).toNatClampNeg)) (L (p 27) (((J (p 25) 2) - (Int32.ofInt 1)).toNatClampNeg))), .int (((J (p 25) 2) - (Int32.ofInt 1)) - (Int32.ofInt 1)), .ref (p 27)], me_w (lw M L) (nt_u J (p 25) 2 ((J (p 25) 2) - (Int32.ofInt 1)))) _ := k
        have k := mx_last (q := (((J (p 25) 2) - (Int32.ofInt 1)) - (Int32.ofInt 1)).toNatClampNeg) rfl rfl k
        have k : nt_rn X _ 43 (94, [(0, .ref (p 25)), (1, .int v1)], [], me_w (lw M (nt_u L (p 27) ((((J (p 25) 2) - (Int32.ofInt 1)) - (Int32.ofInt 1)).toNatClampNeg) (x44 v1 (L (p 27) ((((J (p 25) 2) - (Int32.ofInt 1)) - (Int32.ofInt 1)).toNatClampNeg)) (L (p 27) (((J (p 25) 2) - (Int32.ofInt 1)).toNatClampNeg))))) (nt_u J (p 25) 2 ((J (p 25) 2) - (Int32.ofInt 1)))) _ := k
        have k := lz_rv rfl rfl k
        rw [k, x43, if_pos h3, if_pos h11, if_neg h46]
    · rw [if_neg h11] at k
      have k := ly_revb 1 (c' := (15, [(0, .ref (p 25)), (1, .int v1)], [.ref (p 25)], me_w (lw M L) J)) rfl k
      have k := lz_get (a := (p 25)) (g := 301) (M := me_w (lw M L) J) (v := .ref (p 27)) rfl (nt_gfR rfl (hp.1 (25, 1, 27) (by decide))) k
      have k := ly_revb 1 (c' := (19, [(0, .ref (p 25)), (1, .int v1)], [.ref (p 25), .ref (p 27)], me_w (lw M L) J)) rfl k
      have k := lz_get (a := (p 25)) (g := 302) (M := me_w (lw M L) J) (v := .int (J (p 25) 2)) rfl (congrArg Value.int (rfl)) k
      have k := ly_revb 4 (c' := (26, [(0, .ref (p 25)), (1, .int v1)], [.ref (p 25), .long (Int64.ofNat 1), .int ((J (p 25) 2) - (Int32.ofInt 1)), .ref (p 27)], me_w (lw M L) J)) rfl k
      have k := lz_get (a := (p 25)) (g := 301) (M := me_w (lw M L) J) (v := .ref (p 27)) rfl (nt_gfR rfl (hp.1 (25, 1, 27) (by decide))) k
      have k := ly_revb 1 (c' := (30, [(0, .ref (p 25)), (1, .int v1)], [.ref (p 25), .ref (p 27), .long (Int64.ofNat 1), .int ((J (p 25) 2) - (Int32.ofInt 1)), .ref (p 27)], me_w (lw M L) J)) rfl k
      have k := lz_get (a := (p 25)) (g := 302) (M := me_w (lw M L) J) (v := .int (J (p 25) 2)) rfl (congrArg Value.int (rfl)) k
      have k := ly_revb 2 (c' := (35, [(0, .ref (p 25)), (1, .int v1)], [.int ((J (p 25) 2) - (Int32.ofInt 1)), .ref (p 27), .long (Int64.ofNat 1), .int ((J (p 25) 2) - (Int32.ofInt 1)), .ref (p 27)], me_w (lw M L) J)) rfl k
      have k := mx_lald (v := L (p 27) (((J (p 25) 2) - (Int32.ofInt 1)).toNatClampNeg)) rfl (rfl) k
      have k := ly_revb 1 (c' := (37, [(0, .ref (p 25)), (1, .int v1)], [.long ((Int64.ofNat 1) - (L (p 27) (((J (p 25) 2) - (Int32.ofInt 1)).toNatClampNeg))), .int ((J (p 25) 2) - (Int32.ofInt 1)), .ref (p 27)], me_w (lw M L) J)) rfl k
      have k := mx_last (q := ((J (p 25) 2) - (Int32.ofInt 1)).toNatClampNeg) rfl rfl k
      have k : nt_rn X _ 43 (38, [(0, .ref (p 25)), (1, .int v1)], [], me_w (lw M (nt_u L (p 27) (((J (p 25) 2) - (Int32.ofInt 1)).toNatClampNeg) ((Int64.ofNat 1) - (L (p 27) (((J (p 25) 2) - (Int32.ofInt 1)).toNatClampNeg))))) J) _ := k
      have k := ly_revb 1 (c' := (94, [(0, .ref (p 25)), (1, .int v1)], [], me_w (lw M (nt_u L (p 27) (((J (p 25) 2) - (Int32.ofInt 1)).toNatClampNeg) ((Int64.ofNat 1) - (L (p 27) (((J (p 25) 2) - (Int32.ofInt 1)).toNatClampNeg))))) J)) rfl k
      have k := lz_rv rfl rfl k
      rw [k, x43, if_pos h3, if_neg h11]
  · rw [if_neg h3] at k
    have k := ly_revb 1 (c' := (42, [(0, .ref (p 25)), (1, .int v1)], [.ref (p 25)], me_w (lw M L) J)) rfl k
    have k := lz_get (a := (p 25)) (g := 302) (M := me_w (lw M L) J) (v := .int (J (p 25) 2)) rfl (congrArg Value.int (rfl)) k
    have k := ly_revb 2 (c' := (if (J (p 25) 2) < (Int32.ofInt 2) then 94 else 49, [(0, .ref (p 25)), (1, .int v1)], [], me_w (lw M L) J)) rfl k
    by_cases h46 : (J (p 25) 2) < (Int32.ofInt 2)
    · rw [if_pos h46] at k
      have k := lz_rv rfl rfl k
      rw [k, x43, if_neg h3, if_pos h46]
    · rw [if_neg h46] at k
      have k := ly_revb 2 (c' := (51, [(0, .ref (p 25)), (1, .int v1)], [.ref (p 25), .ref (p 25)], me_w (lw M L) J)) rfl k
      have k := lz_get (a := (p 25)) (g := 302) (M := me_w (lw M L) J) (v := .int (J (p 25) 2)) rfl (congrArg Value.int (rfl)) k
      have k := ly_revb 2 (c' := (56, [(0, .ref (p 25)), (1, .int v1)], [.int ((J (p 25) 2) - (Int32.ofInt 1)), .ref (p 25)], me_w (lw M L) J)) rfl k
      have k := me_put rfl (by decide) k
      have k : nt_rn X _ 43 (59, [(0, .ref (p 25)), (1, .int v1)], [], me_w (lw M L) (nt_u J (p 25) 2 ((J (p 25) 2) - (Int32.ofInt 1)))) _ := k
      have k := ly_revb 1 (c' := (60, [(0, .ref (p 25)), (1, .int v1)], [.ref (p 25)], me_w (lw M L) (nt_u J (p 25) 2 ((J (p 25) 2) - (Int32.ofInt 1))))) rfl k
      have k := lz_get (a := (p 25)) (g := 301) (M := me_w (lw M L) (nt_u J (p 25) 2 ((J (p 25) 2) - (Int32.ofInt 1)))) (v := .ref (p 27)) rfl (nt_gfR rfl (hp.1 (25, 1, 27) (by decide))) k
      have k := ly_revb 1 (c' := (64, [(0, .ref (p 25)), (1, .int v1)], [.ref (p 25), .ref (p 27)], me_w (lw M L) (nt_u J (p 25) 2 ((J (p 25) 2) - (Int32.ofInt 1))))) rfl k
      have k := lz_get (a := (p 25)) (g := 302) (M := me_w (lw M L) (nt_u J (p 25) 2 ((J (p 25) 2) - (Int32.ofInt 1)))) (v := .int ((J (p 25) 2) - (Int32.ofInt 1))) rfl (congrArg Value.int (mu_s)) k
      have k := ly_revb 4 (c' := (71, [(0, .ref (p 25)), (1, .int v1)], [.ref (p 25), .int v1, .int (((J (p 25) 2) - (Int32.ofInt 1)) - (Int32.ofInt 1)), .ref (p 27)], me_w (lw M L) (nt_u J (p 25) 2 ((J (p 25) 2) - (Int32.ofInt 1))))) rfl k
      have k := lz_get (a := (p 25)) (g := 301) (M := me_w (lw M L) (nt_u J (p 25) 2 ((J (p 25) 2) - (Int32.ofInt 1)))) (v := .ref (p 27)) rfl (nt_gfR rfl (hp.1 (25, 1, 27) (by decide))) k
      have k := ly_revb 1 (c' := (75, [(0, .ref (p 25)), (1, .int v1)], [.ref (p 25), .ref (p 27), .int v1, .int (((J (p 25) 2) - (Int32.ofInt 1)) - (Int32.ofInt 1)), .ref (p 27)], me_w (lw M L) (nt_u J (p 25) 2 ((J (p 25) 2) - (Int32.ofInt 1))))) rfl k
      have k := lz_get (a := (p 25)) (g := 302) (M := me_w (lw M L) (nt_u J (p 25) 2 ((J (p 25) 2) - (Int32.ofInt 1)))) (v := .int ((J (p 25) 2) - (Int32.ofInt 1))) rfl (congrArg Value.int (mu_s)) k
      have k := ly_revb 2 (c' := (80, [(0, .ref (p 25)), (1, .int v1)], [.int (((J (p 25) 2) - (Int32.ofInt 1)) - (Int32.ofInt 1)), .ref (p 27), .int v1, .int (((J (p 25) 2) - (Int32.ofInt 1)) - (Int32.ofInt 1)), .ref (p 27)], me_w (lw M L) (nt_u J (p 25) 2 ((J (p 25) 2) - (Int32.ofInt 1))))) rfl k
      have k := mx_lald (v := L (p 27) ((((J (p 25) 2) - (Int32.ofInt 1)) - (Int32.ofInt 1)).toNatClampNeg)) rfl (rfl) k
      have k := ly_revb 1 (c' := (82, [(0, .ref (p 25)), (1, .int v1)], [.ref (p 25), .long (L (p 27) ((((J (p 25) 2) - (Int32.ofInt 1)) - (Int32.ofInt 1)).toNatClampNeg)), .int v1, .int (((J (p 25) 2) - (Int32.ofInt 1)) - (Int32.ofInt 1)), .ref (p 27)], me_w (lw M L) (nt_u J (p 25) 2 ((J (p 25) 2) - (Int32.ofInt 1))))) rfl k
      have k := lz_get (a := (p 25)) (g := 301) (M := me_w (lw M L) (nt_u J (p 25) 2 ((J (p 25) 2) - (Int32.ofInt 1)))) (v := .ref (p 27)) rfl (nt_gfR rfl (hp.1 (25, 1, 27) (by decide))) k
      have k := ly_revb 1 (c' := (86, [(0, .ref (p 25)), (1, .int v1)], [.ref (p 25), .ref (p 27), .long (L (p 27) ((((J (p 25) 2) - (Int32.ofInt 1)) - (Int32.ofInt 1)).toNatClampNeg)), .int v1, .int (((J (p 25) 2) - (Int32.ofInt 1)) - (Int32.ofInt 1)), .ref (p 27)], me_w (lw M L) (nt_u J (p 25) 2 ((J (p 25) 2) - (Int32.ofInt 1))))) rfl k
      have k := lz_get (a := (p 25)) (g := 302) (M := me_w (lw M L) (nt_u J (p 25) 2 ((J (p 25) 2) - (Int32.ofInt 1)))) (v := .int ((J (p 25) 2) - (Int32.ofInt 1))) rfl (congrArg Value.int (mu_s)) k
      have k := mx_lald (v := L (p 27) (((J (p 25) 2) - (Int32.ofInt 1)).toNatClampNeg)) rfl (rfl) k
      obtain ⟨d1, o1, ed, kc, k⟩ := lz_c (g := 44) (q := 0) (vs := [.int v1, .long (L (p 27) ((((J (p 25) 2) - (Int32.ofInt 1)) - (Int32.ofInt 1)).toNatClampNeg)), .long (L (p 27) (((J (p 25) 2) - (Int32.ofInt 1)).toNatClampNeg))]) (rest := [.int (((J (p 25) 2) - (Int32.ofInt 1)) - (Int32.ofInt 1)), .ref (p 27)]) rfl rfl (by decide) (Or.inl ⟨_, rfl, rfl⟩) rfl k
      have e1 := xt44  kc
      subst e1
      have k : nt_rn X _ 43 (93, [(0, .ref (p 25)), (1, .int v1)], [.long (x44 v1 (L (p 27) ((((J (p 25) 2) - (Int32.ofInt 1)) - (Int32.ofInt 1)).toNatClampNeg)) (L (p 27) (((J (p 25) 2) - (Int32.ofInt 1)).toNatClampNeg))), .int (((J (p 25) 2) - (Int32.ofInt 1)) - (Int32.ofInt 1)), .ref (p 27)], me_w (lw M L) (nt_u J (p 25) 2 ((J (p 25) 2) - (Int32.ofInt 1)))) _ := k
      have k := mx_last (q := (((J (p 25) 2) - (Int32.ofInt 1)) - (Int32.ofInt 1)).toNatClampNeg) rfl rfl k
      have k : nt_rn X _ 43 (94, [(0, .ref (p 25)), (1, .int v1)], [], me_w (lw M (nt_u L (p 27) ((((J (p 25) 2) - (Int32.ofInt 1)) - (Int32.ofInt 1)).toNatClampNeg) (x44 v1 (L (p 27) ((((J (p 25) 2) - (Int32.ofInt 1)) - (Int32.ofInt 1)).toNatClampNeg)) (L (p 27) (((J (p 25) 2) - (Int32.ofInt 1)).toNatClampNeg))))) (nt_u J (p 25) 2 ((J (p 25) 2) - (Int32.ofInt 1)))) _ := k
      have k := lz_rv rfl rfl k
      rw [k, x43, if_neg h3, if_neg h46]
theorem x43_frJ {p : Nat → Nat} {v1 : Int32} {J : Nat → Nat → Int32} {L : Nat → Nat → Int64} {b : Nat} (n0 : b ≠ p 25) : (x43 p v1 J L).1 b = J b := by
  unfold x43
  by_cases h : v1 = (Int32.ofInt 21)
  · rw [if_pos h]
    by_cases h : (J (p 25) 2) < (Int32.ofInt 1)
    · rw [if_pos h]
      by_cases h : (J (p 25) 2) < (Int32.ofInt 2)
      · rw [if_pos h]
        all_goals first | (dsimp only; exact (show J b = J b from rfl)) | exact (show J b = J b from rfl)
      · rw [if_neg h]
        all_goals first | (dsimp only; exact (show (nt_u J (p 25) 2 ((J (p 25) 2) - (Int32.ofInt 1))) b = J b from mu_o n0)) | exact (show (nt_u J (p 25) 2 ((J (p 25) 2) - (Int32.ofInt 1))) b = J b from mu_o n0)
    · rw [if_neg h]
      all_goals first | (dsimp only; exact (show J b = J b from rfl)) | exact (show J b = J b from rfl)
  · rw [if_neg h]
    by_cases h : (J (p 25) 2) < (Int32.ofInt 2)
    · rw [if_pos h]
      all_goals first | (dsimp only; exact (show J b = J b from rfl)) | exact (show J b = J b from rfl)
    · rw [if_neg h]
      all_goals first | (dsimp only; exact (show (nt_u J (p 25) 2 ((J (p 25) 2) - (Int32.ofInt 1))) b = J b from mu_o n0)) | exact (show (nt_u J (p 25) 2 ((J (p 25) 2) - (Int32.ofInt 1))) b = J b from mu_o n0)
theorem x43_frL {p : Nat → Nat} {v1 : Int32} {J : Nat → Nat → Int32} {L : Nat → Nat → Int64} {b : Nat} (n0 : b ≠ p 27) : (x43 p v1 J L).2 b = L b := by
  unfold x43
  by_cases h : v1 = (Int32.ofInt 21)
  · rw [if_pos h]
    by_cases h : (J (p 25) 2) < (Int32.ofInt 1)
    · rw [if_pos h]
      by_cases h : (J (p 25) 2) < (Int32.ofInt 2)
      · rw [if_pos h]
        all_goals first | (dsimp only; exact (show L b = L b from rfl)) | exact (show L b = L b from rfl)
      · rw [if_neg h]
        all_goals first | (dsimp only; exact (show (nt_u L (p 27) ((((J (p 25) 2) - (Int32.ofInt 1)) - (Int32.ofInt 1)).toNatClampNeg) (x44 v1 (L (p 27) ((((J (p 25) 2) - (Int32.ofInt 1)) - (Int32.ofInt 1)).toNatClampNeg)) (L (p 27) (((J (p 25) 2) - (Int32.ofInt 1)).toNatClampNeg)))) b = L b from mu_o n0)) | exact (show (nt_u L (p 27) ((((J (p 25) 2) - (Int32.ofInt 1)) - (Int32.ofInt 1)).toNatClampNeg) (x44 v1 (L (p 27) ((((J (p 25) 2) - (Int32.ofInt 1)) - (Int32.ofInt 1)).toNatClampNeg)) (L (p 27) (((J (p 25) 2) - (Int32.ofInt 1)).toNatClampNeg)))) b = L b from mu_o n0)
    · rw [if_neg h]
      all_goals first | (dsimp only; exact (show (nt_u L (p 27) (((J (p 25) 2) - (Int32.ofInt 1)).toNatClampNeg) ((Int64.ofNat 1) - (L (p 27) (((J (p 25) 2) - (Int32.ofInt 1)).toNatClampNeg)))) b = L b from mu_o n0)) | exact (show (nt_u L (p 27) (((J (p 25) 2) - (Int32.ofInt 1)).toNatClampNeg) ((Int64.ofNat 1) - (L (p 27) (((J (p 25) 2) - (Int32.ofInt 1)).toNatClampNeg)))) b = L b from mu_o n0)
  · rw [if_neg h]
    by_cases h : (J (p 25) 2) < (Int32.ofInt 2)
    · rw [if_pos h]
      all_goals first | (dsimp only; exact (show L b = L b from rfl)) | exact (show L b = L b from rfl)
    · rw [if_neg h]
      all_goals first | (dsimp only; exact (show (nt_u L (p 27) ((((J (p 25) 2) - (Int32.ofInt 1)) - (Int32.ofInt 1)).toNatClampNeg) (x44 v1 (L (p 27) ((((J (p 25) 2) - (Int32.ofInt 1)) - (Int32.ofInt 1)).toNatClampNeg)) (L (p 27) (((J (p 25) 2) - (Int32.ofInt 1)).toNatClampNeg)))) b = L b from mu_o n0)) | exact (show (nt_u L (p 27) ((((J (p 25) 2) - (Int32.ofInt 1)) - (Int32.ofInt 1)).toNatClampNeg) (x44 v1 (L (p 27) ((((J (p 25) 2) - (Int32.ofInt 1)) - (Int32.ofInt 1)).toNatClampNeg)) (L (p 27) (((J (p 25) 2) - (Int32.ofInt 1)).toNatClampNeg)))) b = L b from mu_o n0)
/-! $Reckoner.sum -/
def x45 (p : Nat → Nat) (J : Nat → Nat → Int32) (L : Nat → Nat → Int64) : Int64 := (L (p 25) 3)
theorem xt45 {X : nt_X} {d : Nat} {M : nt_M} {o : Option Value × nt_M} {p : Nat → Nat} {J : Nat → Nat → Int32} {L : Nat → Nat → Int64} (hp : xs_P M p) (k : nt_ev X d 45 [.ref (p 25)] (me_w (lw M L) J) o) : o = (some (.long (x45 p J L)), me_w (lw M L) J) := by
  have k : nt_rn X d 45 (0, [(0, .ref (p 25))], [], me_w (lw M L) J) o := k
  have k := ly_revb 1 (c' := (1, [(0, .ref (p 25))], [.ref (p 25)], me_w (lw M L) J)) rfl k
  have k := lz_get (a := (p 25)) (g := 303) (M := me_w (lw M L) J) (v := .long (L (p 25) 3)) rfl (congrArg Value.long (rfl)) k
  have k := mx_rl rfl rfl k
  rw [k, x45]
/-! $Reckoner.isTaken -/
def x41_7 (p : Nat → Nat) (sp : Nat) (ln : Nat) : Nat → Int32 → (Nat → Nat → Int32) → (Nat → Nat → Int64) → Int32 × (Nat → Nat → Int32) × (Nat → Nat → Int64)
  | 0, v2, J, L => (Int32.ofInt 0, J, L)
  | c + 1, v2, J, L => if (Int32.ofNat ln) ≤ v2 then (Int32.ofInt 0, J, L)
    else if (J sp v2.toNatClampNeg) < (Int32.ofInt 100) then if (J sp v2.toNatClampNeg) < 0 then if (J sp v2.toNatClampNeg) = (Int32.ofInt 22) then if (J sp v2.toNatClampNeg) = (Int32.ofInt 22) then (Int32.ofInt 1, J, nt_u L (p 25) 3 (L (p 27) 0))
            else if (lg_cmp (L (p 27) 1) (Int64.ofNat 0)) = 0 then (x41_7 p sp ln c (v2 + (Int32.ofInt 1)) (nt_u J (p 25) 2 (Int32.ofInt 0)) L)
              else (Int32.ofInt 1, J, nt_u L (p 25) 3 (L (p 27) 0))
          else if (J sp v2.toNatClampNeg) = (Int32.ofInt 23) then if (J sp v2.toNatClampNeg) = (Int32.ofInt 22) then (Int32.ofInt 1, J, nt_u L (p 25) 3 (L (p 27) 0))
              else if (lg_cmp (L (p 27) 1) (Int64.ofNat 0)) = 0 then (x41_7 p sp ln c (v2 + (Int32.ofInt 1)) (nt_u J (p 25) 2 (Int32.ofInt 0)) L)
                else (Int32.ofInt 1, J, nt_u L (p 25) 3 (L (p 27) 0))
            else (x41_7 p sp ln c (v2 + (Int32.ofInt 1)) ((x43 p (J sp v2.toNatClampNeg) J L).1) ((x43 p (J sp v2.toNatClampNeg) J L).2))
        else if (Int32.ofInt 10) ≤ (J sp v2.toNatClampNeg) then if (J sp v2.toNatClampNeg) = (Int32.ofInt 22) then if (J sp v2.toNatClampNeg) = (Int32.ofInt 22) then (Int32.ofInt 1, J, nt_u L (p 25) 3 (L (p 27) 0))
              else if (lg_cmp (L (p 27) 1) (Int64.ofNat 0)) = 0 then (x41_7 p sp ln c (v2 + (Int32.ofInt 1)) (nt_u J (p 25) 2 (Int32.ofInt 0)) L)
                else (Int32.ofInt 1, J, nt_u L (p 25) 3 (L (p 27) 0))
            else if (J sp v2.toNatClampNeg) = (Int32.ofInt 23) then if (J sp v2.toNatClampNeg) = (Int32.ofInt 22) then (Int32.ofInt 1, J, nt_u L (p 25) 3 (L (p 27) 0))
                else if (lg_cmp (L (p 27) 1) (Int64.ofNat 0)) = 0 then (x41_7 p sp ln c (v2 + (Int32.ofInt 1)) (nt_u J (p 25) 2 (Int32.ofInt 0)) L)
                  else (Int32.ofInt 1, J, nt_u L (p 25) 3 (L (p 27) 0))
              else (x41_7 p sp ln c (v2 + (Int32.ofInt 1)) ((x43 p (J sp v2.toNatClampNeg) J L).1) ((x43 p (J sp v2.toNatClampNeg) J L).2))
          else (x41_7 p sp ln c (v2 + (Int32.ofInt 1)) ((x42 p (L (p 26) ((J sp v2.toNatClampNeg).toNatClampNeg)) J L).1) ((x42 p (L (p 26) ((J sp v2.toNatClampNeg).toNatClampNeg)) J L).2))
      else (x41_7 p sp ln c (v2 + (Int32.ofInt 1)) ((x42 p (((J sp v2.toNatClampNeg) - (Int32.ofInt 100)).toInt64) J L).1) ((x42 p (((J sp v2.toNatClampNeg) - (Int32.ofInt 100)).toInt64) J L).2))
theorem xt41_7 {X : nt_X} {d : Nat} {M : nt_M} {o : Option Value × nt_M} {p : Nat → Nat} {sp : Nat} {ln : Nat} {ru : Nat} (hp : xs_P M p) (hs : xs_S M p ru sp ln) : ∀ (c : Nat) (v2 : Int32) (v3 : Int32) (J : Nat → Nat → Int32) (L : Nat → Nat → Int64), (Int32.ofNat ln).toInt - v2.toInt ≤ c → nt_rn X d 41 (7, [(0, .ref (p 25)), (1, .ref sp), (2, .int v2), (3, .int v3)], [], me_w (lw M L) J) o → o = (some (.int ((x41_7 p sp ln c v2 J L).1)), me_w (lw M ((x41_7 p sp ln c v2 J L).2.2)) ((x41_7 p sp ln c v2 J L).2.1)) := by
  intro c
  induction c with
  | zero =>
    intro v2 v3 J L hc k
    have k := ly_revb 2 (c' := (9, [(0, .ref (p 25)), (1, .ref sp), (2, .int v2), (3, .int v3)], [.ref sp, .int v2], me_w (lw M L) J)) rfl k
    have k := lz_len rfl (hs.2.2.1) k
    rw [show nt_l (me_w (lw M L) J) sp = ln from hs.2.2.2] at k
    have k : nt_rn X _ 41 (10, [(0, .ref (p 25)), (1, .ref sp), (2, .int v2), (3, .int v3)], [.int (Int32.ofNat ln), .int v2], me_w (lw M L) J) _ := k
    have k := ly_revb 1 (c' := (if (Int32.ofNat ln) ≤ v2 then 118 else 13, [(0, .ref (p 25)), (1, .ref sp), (2, .int v2), (3, .int v3)], [], me_w (lw M L) J)) rfl k
    have h10 : (Int32.ofNat ln) ≤ v2 := lx_end hc
    rw [if_pos h10] at k
    have k := ly_revb 1 (c' := (119, [(0, .ref (p 25)), (1, .ref sp), (2, .int v2), (3, .int v3)], [.int (Int32.ofInt 0)], me_w (lw M L) J)) rfl k
    have k := lz_ri rfl (by decide) k
    rw [k, x41_7]
  | succ c ih =>
    intro v2 v3 J L hc k
    have k := ly_revb 2 (c' := (9, [(0, .ref (p 25)), (1, .ref sp), (2, .int v2), (3, .int v3)], [.ref sp, .int v2], me_w (lw M L) J)) rfl k
    have k := lz_len rfl (hs.2.2.1) k
    rw [show nt_l (me_w (lw M L) J) sp = ln from hs.2.2.2] at k
    have k : nt_rn X _ 41 (10, [(0, .ref (p 25)), (1, .ref sp), (2, .int v2), (3, .int v3)], [.int (Int32.ofNat ln), .int v2], me_w (lw M L) J) _ := k
    have k := ly_revb 1 (c' := (if (Int32.ofNat ln) ≤ v2 then 118 else 13, [(0, .ref (p 25)), (1, .ref sp), (2, .int v2), (3, .int v3)], [], me_w (lw M L) J)) rfl k
    by_cases h10 : (Int32.ofNat ln) ≤ v2
    · rw [if_pos h10] at k
      have k := ly_revb 1 (c' := (119, [(0, .ref (p 25)), (1, .ref sp), (2, .int v2), (3, .int v3)], [.int (Int32.ofInt 0)], me_w (lw M L) J)) rfl k
      have k := lz_ri rfl (by decide) k
      rw [k, x41_7, if_pos h10]
    · rw [if_neg h10] at k
      have k := ly_revb 2 (c' := (15, [(0, .ref (p 25)), (1, .ref sp), (2, .int v2), (3, .int v3)], [.int v2, .ref sp], me_w (lw M L) J)) rfl k
      have k := mx_iald (v := J sp v2.toNatClampNeg) rfl (hs.2.2.1) (rfl) k
      have k := ly_revb 4 (c' := (if (J sp v2.toNatClampNeg) < (Int32.ofInt 100) then 35 else 23, [(3, .int (J sp v2.toNatClampNeg)), (0, .ref (p 25)), (1, .ref sp), (2, .int v2)], [], me_w (lw M L) J)) rfl k
      by_cases h20 : (J sp v2.toNatClampNeg) < (Int32.ofInt 100)
      · rw [if_pos h20] at k
        have k := ly_revb 2 (c' := (if (J sp v2.toNatClampNeg) < 0 then 58 else 39, [(3, .int (J sp v2.toNatClampNeg)), (0, .ref (p 25)), (1, .ref sp), (2, .int v2)], [], me_w (lw M L) J)) rfl k
        by_cases h36 : (J sp v2.toNatClampNeg) < 0
        · rw [if_pos h36] at k
          have k := ly_revb 3 (c' := (if (J sp v2.toNatClampNeg) = (Int32.ofInt 22) then 70 else 64, [(3, .int (J sp v2.toNatClampNeg)), (0, .ref (p 25)), (1, .ref sp), (2, .int v2)], [], me_w (lw M L) J)) rfl k
          by_cases h61 : (J sp v2.toNatClampNeg) = (Int32.ofInt 22)
          · rw [if_pos h61] at k
            have k := ly_revb 3 (c' := (if (J sp v2.toNatClampNeg) = (Int32.ofInt 22) then 87 else 76, [(3, .int (J sp v2.toNatClampNeg)), (0, .ref (p 25)), (1, .ref sp), (2, .int v2)], [], me_w (lw M L) J)) rfl k
            by_cases h73 : (J sp v2.toNatClampNeg) = (Int32.ofInt 22)
            · rw [if_pos h73] at k
              have k := ly_revb 2 (c' := (89, [(3, .int (J sp v2.toNatClampNeg)), (0, .ref (p 25)), (1, .ref sp), (2, .int v2)], [.ref (p 25), .ref (p 25)], me_w (lw M L) J)) rfl k
              have k := lz_get (a := (p 25)) (g := 301) (M := me_w (lw M L) J) (v := .ref (p 27)) rfl (nt_gfR rfl (hp.1 (25, 1, 27) (by decide))) k
              have k := ly_revb 1 (c' := (93, [(3, .int (J sp v2.toNatClampNeg)), (0, .ref (p 25)), (1, .ref sp), (2, .int v2)], [.int (Int32.ofInt 0), .ref (p 27), .ref (p 25)], me_w (lw M L) J)) rfl k
              have k := mx_lald (v := L (p 27) 0) rfl ((congrArg (L (p 27)) (show (Int32.ofInt 0).toNatClampNeg = 0 from rfl)).trans (rfl)) k
              have k := mx_putl rfl (by decide) k
              have k : nt_rn X _ 41 (97, [(3, .int (J sp v2.toNatClampNeg)), (0, .ref (p 25)), (1, .ref sp), (2, .int v2)], [], me_w (lw M (nt_u L (p 25) 3 (L (p 27) 0))) J) _ := k
              have k := ly_revb 1 (c' := (98, [(3, .int (J sp v2.toNatClampNeg)), (0, .ref (p 25)), (1, .ref sp), (2, .int v2)], [.int (Int32.ofInt 1)], me_w (lw M (nt_u L (p 25) 3 (L (p 27) 0))) J)) rfl k
              have k := lz_ri rfl (by decide) k
              rw [k, x41_7, if_neg h10, if_pos h20, if_pos h36, if_pos h61, if_pos h73]
            · rw [if_neg h73] at k
              have k := ly_revb 1 (c' := (77, [(3, .int (J sp v2.toNatClampNeg)), (0, .ref (p 25)), (1, .ref sp), (2, .int v2)], [.ref (p 25)], me_w (lw M L) J)) rfl k
              have k := lz_get (a := (p 25)) (g := 301) (M := me_w (lw M L) J) (v := .ref (p 27)) rfl (nt_gfR rfl (hp.1 (25, 1, 27) (by decide))) k
              have k := ly_revb 1 (c' := (81, [(3, .int (J sp v2.toNatClampNeg)), (0, .ref (p 25)), (1, .ref sp), (2, .int v2)], [.int (Int32.ofInt 1), .ref (p 27)], me_w (lw M L) J)) rfl k
              have k := mx_lald (v := L (p 27) 1) rfl ((congrArg (L (p 27)) (show (Int32.ofInt 1).toNatClampNeg = 1 from rfl)).trans (rfl)) k
              have k := ly_revb 3 (c' := (if (lg_cmp (L (p 27) 1) (Int64.ofNat 0)) = 0 then 99 else 87, [(3, .int (J sp v2.toNatClampNeg)), (0, .ref (p 25)), (1, .ref sp), (2, .int v2)], [], me_w (lw M L) J)) rfl k
              by_cases h84 : (lg_cmp (L (p 27) 1) (Int64.ofNat 0)) = 0
              · rw [if_pos h84] at k
                have k := ly_revb 2 (c' := (101, [(3, .int (J sp v2.toNatClampNeg)), (0, .ref (p 25)), (1, .ref sp), (2, .int v2)], [.int (Int32.ofInt 0), .ref (p 25)], me_w (lw M L) J)) rfl k
                have k := me_put rfl (by decide) k
                have k : nt_rn X _ 41 (104, [(3, .int (J sp v2.toNatClampNeg)), (0, .ref (p 25)), (1, .ref sp), (2, .int v2)], [], me_w (lw M L) (nt_u J (p 25) 2 (Int32.ofInt 0))) _ := k
                have k := ly_revb 3 (c' := (7, [(2, .int (v2 + (Int32.ofInt 1))), (3, .int (J sp v2.toNatClampNeg)), (0, .ref (p 25)), (1, .ref sp)], [], me_w (lw M L) (nt_u J (p 25) 2 (Int32.ofInt 0)))) rfl k
                have k := nt_rn_w (a := [(2, .int (v2 + (Int32.ofInt 1))), (3, .int (J sp v2.toNatClampNeg)), (0, .ref (p 25)), (1, .ref sp)]) (b := [(0, .ref (p 25)), (1, .ref sp), (2, .int (v2 + (Int32.ofInt 1))), (3, .int (J sp v2.toNatClampNeg))]) ⟨rfl, rfl, rfl, rfl, trivial⟩ rfl k
                have k := ih (v2 + (Int32.ofInt 1)) (J sp v2.toNatClampNeg) (nt_u J (p 25) 2 (Int32.ofInt 0)) L (lx_dec h10 hc) k
                rw [k, x41_7, if_neg h10, if_pos h20, if_pos h36, if_pos h61, if_neg h73, if_pos h84]
              · rw [if_neg h84] at k
                have k := ly_revb 2 (c' := (89, [(3, .int (J sp v2.toNatClampNeg)), (0, .ref (p 25)), (1, .ref sp), (2, .int v2)], [.ref (p 25), .ref (p 25)], me_w (lw M L) J)) rfl k
                have k := lz_get (a := (p 25)) (g := 301) (M := me_w (lw M L) J) (v := .ref (p 27)) rfl (nt_gfR rfl (hp.1 (25, 1, 27) (by decide))) k
                have k := ly_revb 1 (c' := (93, [(3, .int (J sp v2.toNatClampNeg)), (0, .ref (p 25)), (1, .ref sp), (2, .int v2)], [.int (Int32.ofInt 0), .ref (p 27), .ref (p 25)], me_w (lw M L) J)) rfl k
                have k := mx_lald (v := L (p 27) 0) rfl ((congrArg (L (p 27)) (show (Int32.ofInt 0).toNatClampNeg = 0 from rfl)).trans (rfl)) k
                have k := mx_putl rfl (by decide) k
                have k : nt_rn X _ 41 (97, [(3, .int (J sp v2.toNatClampNeg)), (0, .ref (p 25)), (1, .ref sp), (2, .int v2)], [], me_w (lw M (nt_u L (p 25) 3 (L (p 27) 0))) J) _ := k
                have k := ly_revb 1 (c' := (98, [(3, .int (J sp v2.toNatClampNeg)), (0, .ref (p 25)), (1, .ref sp), (2, .int v2)], [.int (Int32.ofInt 1)], me_w (lw M (nt_u L (p 25) 3 (L (p 27) 0))) J)) rfl k
                have k := lz_ri rfl (by decide) k
                rw [k, x41_7, if_neg h10, if_pos h20, if_pos h36, if_pos h61, if_neg h73, if_neg h84]
          · rw [if_neg h61] at k
            have k := ly_revb 3 (c' := (if (J sp v2.toNatClampNeg) = (Int32.ofInt 23) then 70 else 107, [(3, .int (J sp v2.toNatClampNeg)), (0, .ref (p 25)), (1, .ref sp), (2, .int v2)], [], me_w (lw M L) J)) rfl k
            by_cases h67 : (J sp v2.toNatClampNeg) = (Int32.ofInt 23)
            · rw [if_pos h67] at k
              have k := ly_revb 3 (c' := (if (J sp v2.toNatClampNeg) = (Int32.ofInt 22) then 87 else 76, [(3, .int (J sp v2.toNatClampNeg)), (0, .ref (p 25)), (1, .ref sp), (2, .int v2)], [], me_w (lw M L) J)) rfl k
              by_cases h73 : (J sp v2.toNatClampNeg) = (Int32.ofInt 22)
              · rw [if_pos h73] at k
                have k := ly_revb 2 (c' := (89, [(3, .int (J sp v2.toNatClampNeg)), (0, .ref (p 25)), (1, .ref sp), (2, .int v2)], [.ref (p 25), .ref (p 25)], me_w (lw M L) J)) rfl k
                have k := lz_get (a := (p 25)) (g := 301) (M := me_w (lw M L) J) (v := .ref (p 27)) rfl (nt_gfR rfl (hp.1 (25, 1, 27) (by decide))) k
                have k := ly_revb 1 (c' := (93, [(3, .int (J sp v2.toNatClampNeg)), (0, .ref (p 25)), (1, .ref sp), (2, .int v2)], [.int (Int32.ofInt 0), .ref (p 27), .ref (p 25)], me_w (lw M L) J)) rfl k
                have k := mx_lald (v := L (p 27) 0) rfl ((congrArg (L (p 27)) (show (Int32.ofInt 0).toNatClampNeg = 0 from rfl)).trans (rfl)) k
                have k := mx_putl rfl (by decide) k
                have k : nt_rn X _ 41 (97, [(3, .int (J sp v2.toNatClampNeg)), (0, .ref (p 25)), (1, .ref sp), (2, .int v2)], [], me_w (lw M (nt_u L (p 25) 3 (L (p 27) 0))) J) _ := k
                have k := ly_revb 1 (c' := (98, [(3, .int (J sp v2.toNatClampNeg)), (0, .ref (p 25)), (1, .ref sp), (2, .int v2)], [.int (Int32.ofInt 1)], me_w (lw M (nt_u L (p 25) 3 (L (p 27) 0))) J)) rfl k
                have k := lz_ri rfl (by decide) k
                rw [k, x41_7, if_neg h10, if_pos h20, if_pos h36, if_neg h61, if_pos h67, if_pos h73]
              · rw [if_neg h73] at k
                have k := ly_revb 1 (c' := (77, [(3, .int (J sp v2.toNatClampNeg)), (0, .ref (p 25)), (1, .ref sp), (2, .int v2)], [.ref (p 25)], me_w (lw M L) J)) rfl k
                have k := lz_get (a := (p 25)) (g := 301) (M := me_w (lw M L) J) (v := .ref (p 27)) rfl (nt_gfR rfl (hp.1 (25, 1, 27) (by decide))) k
                have k := ly_revb 1 (c' := (81, [(3, .int (J sp v2.toNatClampNeg)), (0, .ref (p 25)), (1, .ref sp), (2, .int v2)], [.int (Int32.ofInt 1), .ref (p 27)], me_w (lw M L) J)) rfl k
                have k := mx_lald (v := L (p 27) 1) rfl ((congrArg (L (p 27)) (show (Int32.ofInt 1).toNatClampNeg = 1 from rfl)).trans (rfl)) k
                have k := ly_revb 3 (c' := (if (lg_cmp (L (p 27) 1) (Int64.ofNat 0)) = 0 then 99 else 87, [(3, .int (J sp v2.toNatClampNeg)), (0, .ref (p 25)), (1, .ref sp), (2, .int v2)], [], me_w (lw M L) J)) rfl k
                by_cases h84 : (lg_cmp (L (p 27) 1) (Int64.ofNat 0)) = 0
                · rw [if_pos h84] at k
                  have k := ly_revb 2 (c' := (101, [(3, .int (J sp v2.toNatClampNeg)), (0, .ref (p 25)), (1, .ref sp), (2, .int v2)], [.int (Int32.ofInt 0), .ref (p 25)], me_w (lw M L) J)) rfl k
                  have k := me_put rfl (by decide) k
                  have k : nt_rn X _ 41 (104, [(3, .int (J sp v2.toNatClampNeg)), (0, .ref (p 25)), (1, .ref sp), (2, .int v2)], [], me_w (lw M L) (nt_u J (p 25) 2 (Int32.ofInt 0))) _ := k
                  have k := ly_revb 3 (c' := (7, [(2, .int (v2 + (Int32.ofInt 1))), (3, .int (J sp v2.toNatClampNeg)), (0, .ref (p 25)), (1, .ref sp)], [], me_w (lw M L) (nt_u J (p 25) 2 (Int32.ofInt 0)))) rfl k
                  have k := nt_rn_w (a := [(2, .int (v2 + (Int32.ofInt 1))), (3, .int (J sp v2.toNatClampNeg)), (0, .ref (p 25)), (1, .ref sp)]) (b := [(0, .ref (p 25)), (1, .ref sp), (2, .int (v2 + (Int32.ofInt 1))), (3, .int (J sp v2.toNatClampNeg))]) ⟨rfl, rfl, rfl, rfl, trivial⟩ rfl k
                  have k := ih (v2 + (Int32.ofInt 1)) (J sp v2.toNatClampNeg) (nt_u J (p 25) 2 (Int32.ofInt 0)) L (lx_dec h10 hc) k
                  rw [k, x41_7, if_neg h10, if_pos h20, if_pos h36, if_neg h61, if_pos h67, if_neg h73, if_pos h84]
                · rw [if_neg h84] at k
                  have k := ly_revb 2 (c' := (89, [(3, .int (J sp v2.toNatClampNeg)), (0, .ref (p 25)), (1, .ref sp), (2, .int v2)], [.ref (p 25), .ref (p 25)], me_w (lw M L) J)) rfl k
                  have k := lz_get (a := (p 25)) (g := 301) (M := me_w (lw M L) J) (v := .ref (p 27)) rfl (nt_gfR rfl (hp.1 (25, 1, 27) (by decide))) k
                  have k := ly_revb 1 (c' := (93, [(3, .int (J sp v2.toNatClampNeg)), (0, .ref (p 25)), (1, .ref sp), (2, .int v2)], [.int (Int32.ofInt 0), .ref (p 27), .ref (p 25)], me_w (lw M L) J)) rfl k
                  have k := mx_lald (v := L (p 27) 0) rfl ((congrArg (L (p 27)) (show (Int32.ofInt 0).toNatClampNeg = 0 from rfl)).trans (rfl)) k
                  have k := mx_putl rfl (by decide) k
                  have k : nt_rn X _ 41 (97, [(3, .int (J sp v2.toNatClampNeg)), (0, .ref (p 25)), (1, .ref sp), (2, .int v2)], [], me_w (lw M (nt_u L (p 25) 3 (L (p 27) 0))) J) _ := k
                  have k := ly_revb 1 (c' := (98, [(3, .int (J sp v2.toNatClampNeg)), (0, .ref (p 25)), (1, .ref sp), (2, .int v2)], [.int (Int32.ofInt 1)], me_w (lw M (nt_u L (p 25) 3 (L (p 27) 0))) J)) rfl k
                  have k := lz_ri rfl (by decide) k
                  rw [k, x41_7, if_neg h10, if_pos h20, if_pos h36, if_neg h61, if_pos h67, if_neg h73, if_neg h84]
            · rw [if_neg h67] at k
              have k := ly_revb 2 (c' := (109, [(3, .int (J sp v2.toNatClampNeg)), (0, .ref (p 25)), (1, .ref sp), (2, .int v2)], [.int (J sp v2.toNatClampNeg), .ref (p 25)], me_w (lw M L) J)) rfl k
              obtain ⟨d1, o1, ed, kc, k⟩ := lz_c (g := 43) (q := 1) (vs := [.ref (p 25), .int (J sp v2.toNatClampNeg)]) (rest := []) rfl rfl (by decide) (Or.inr (Or.inl ⟨_, rfl, rfl⟩)) rfl k
              have e1 := xt43 hp kc
              subst e1
              have k : nt_rn X _ 41 (112, [(3, .int (J sp v2.toNatClampNeg)), (0, .ref (p 25)), (1, .ref sp), (2, .int v2)], [], me_w (lw M ((x43 p (J sp v2.toNatClampNeg) J L).2)) ((x43 p (J sp v2.toNatClampNeg) J L).1)) _ := k
              have k := ly_revb 2 (c' := (7, [(2, .int (v2 + (Int32.ofInt 1))), (3, .int (J sp v2.toNatClampNeg)), (0, .ref (p 25)), (1, .ref sp)], [], me_w (lw M ((x43 p (J sp v2.toNatClampNeg) J L).2)) ((x43 p (J sp v2.toNatClampNeg) J L).1))) rfl k
              have k := nt_rn_w (a := [(2, .int (v2 + (Int32.ofInt 1))), (3, .int (J sp v2.toNatClampNeg)), (0, .ref (p 25)), (1, .ref sp)]) (b := [(0, .ref (p 25)), (1, .ref sp), (2, .int (v2 + (Int32.ofInt 1))), (3, .int (J sp v2.toNatClampNeg))]) ⟨rfl, rfl, rfl, rfl, trivial⟩ rfl k
              have k := ih (v2 + (Int32.ofInt 1)) (J sp v2.toNatClampNeg) ((x43 p (J sp v2.toNatClampNeg) J L).1) ((x43 p (J sp v2.toNatClampNeg) J L).2) (lx_dec h10 hc) k
              rw [k, x41_7, if_neg h10, if_pos h20, if_pos h36, if_neg h61, if_neg h67]
        · rw [if_neg h36] at k
          have k := ly_revb 3 (c' := (if (Int32.ofInt 10) ≤ (J sp v2.toNatClampNeg) then 58 else 45, [(3, .int (J sp v2.toNatClampNeg)), (0, .ref (p 25)), (1, .ref sp), (2, .int v2)], [], me_w (lw M L) J)) rfl k
          by_cases h42 : (Int32.ofInt 10) ≤ (J sp v2.toNatClampNeg)
          · rw [if_pos h42] at k
            have k := ly_revb 3 (c' := (if (J sp v2.toNatClampNeg) = (Int32.ofInt 22) then 70 else 64, [(3, .int (J sp v2.toNatClampNeg)), (0, .ref (p 25)), (1, .ref sp), (2, .int v2)], [], me_w (lw M L) J)) rfl k
            by_cases h61 : (J sp v2.toNatClampNeg) = (Int32.ofInt 22)
            · rw [if_pos h61] at k
              have k := ly_revb 3 (c' := (if (J sp v2.toNatClampNeg) = (Int32.ofInt 22) then 87 else 76, [(3, .int (J sp v2.toNatClampNeg)), (0, .ref (p 25)), (1, .ref sp), (2, .int v2)], [], me_w (lw M L) J)) rfl k
              by_cases h73 : (J sp v2.toNatClampNeg) = (Int32.ofInt 22)
              · rw [if_pos h73] at k
                have k := ly_revb 2 (c' := (89, [(3, .int (J sp v2.toNatClampNeg)), (0, .ref (p 25)), (1, .ref sp), (2, .int v2)], [.ref (p 25), .ref (p 25)], me_w (lw M L) J)) rfl k
                have k := lz_get (a := (p 25)) (g := 301) (M := me_w (lw M L) J) (v := .ref (p 27)) rfl (nt_gfR rfl (hp.1 (25, 1, 27) (by decide))) k
                have k := ly_revb 1 (c' := (93, [(3, .int (J sp v2.toNatClampNeg)), (0, .ref (p 25)), (1, .ref sp), (2, .int v2)], [.int (Int32.ofInt 0), .ref (p 27), .ref (p 25)], me_w (lw M L) J)) rfl k
                have k := mx_lald (v := L (p 27) 0) rfl ((congrArg (L (p 27)) (show (Int32.ofInt 0).toNatClampNeg = 0 from rfl)).trans (rfl)) k
                have k := mx_putl rfl (by decide) k
                have k : nt_rn X _ 41 (97, [(3, .int (J sp v2.toNatClampNeg)), (0, .ref (p 25)), (1, .ref sp), (2, .int v2)], [], me_w (lw M (nt_u L (p 25) 3 (L (p 27) 0))) J) _ := k
                have k := ly_revb 1 (c' := (98, [(3, .int (J sp v2.toNatClampNeg)), (0, .ref (p 25)), (1, .ref sp), (2, .int v2)], [.int (Int32.ofInt 1)], me_w (lw M (nt_u L (p 25) 3 (L (p 27) 0))) J)) rfl k
                have k := lz_ri rfl (by decide) k
                rw [k, x41_7, if_neg h10, if_pos h20, if_neg h36, if_pos h42, if_pos h61, if_pos h73]
              · rw [if_neg h73] at k
                have k := ly_revb 1 (c' := (77, [(3, .int (J sp v2.toNatClampNeg)), (0, .ref (p 25)), (1, .ref sp), (2, .int v2)], [.ref (p 25)], me_w (lw M L) J)) rfl k
                have k := lz_get (a := (p 25)) (g := 301) (M := me_w (lw M L) J) (v := .ref (p 27)) rfl (nt_gfR rfl (hp.1 (25, 1, 27) (by decide))) k
                have k := ly_revb 1 (c' := (81, [(3, .int (J sp v2.toNatClampNeg)), (0, .ref (p 25)), (1, .ref sp), (2, .int v2)], [.int (Int32.ofInt 1), .ref (p 27)], me_w (lw M L) J)) rfl k
                have k := mx_lald (v := L (p 27) 1) rfl ((congrArg (L (p 27)) (show (Int32.ofInt 1).toNatClampNeg = 1 from rfl)).trans (rfl)) k
                have k := ly_revb 3 (c' := (if (lg_cmp (L (p 27) 1) (Int64.ofNat 0)) = 0 then 99 else 87, [(3, .int (J sp v2.toNatClampNeg)), (0, .ref (p 25)), (1, .ref sp), (2, .int v2)], [], me_w (lw M L) J)) rfl k
                by_cases h84 : (lg_cmp (L (p 27) 1) (Int64.ofNat 0)) = 0
                · rw [if_pos h84] at k
                  have k := ly_revb 2 (c' := (101, [(3, .int (J sp v2.toNatClampNeg)), (0, .ref (p 25)), (1, .ref sp), (2, .int v2)], [.int (Int32.ofInt 0), .ref (p 25)], me_w (lw M L) J)) rfl k
                  have k := me_put rfl (by decide) k
                  have k : nt_rn X _ 41 (104, [(3, .int (J sp v2.toNatClampNeg)), (0, .ref (p 25)), (1, .ref sp), (2, .int v2)], [], me_w (lw M L) (nt_u J (p 25) 2 (Int32.ofInt 0))) _ := k
                  have k := ly_revb 3 (c' := (7, [(2, .int (v2 + (Int32.ofInt 1))), (3, .int (J sp v2.toNatClampNeg)), (0, .ref (p 25)), (1, .ref sp)], [], me_w (lw M L) (nt_u J (p 25) 2 (Int32.ofInt 0)))) rfl k
                  have k := nt_rn_w (a := [(2, .int (v2 + (Int32.ofInt 1))), (3, .int (J sp v2.toNatClampNeg)), (0, .ref (p 25)), (1, .ref sp)]) (b := [(0, .ref (p 25)), (1, .ref sp), (2, .int (v2 + (Int32.ofInt 1))), (3, .int (J sp v2.toNatClampNeg))]) ⟨rfl, rfl, rfl, rfl, trivial⟩ rfl k
                  have k := ih (v2 + (Int32.ofInt 1)) (J sp v2.toNatClampNeg) (nt_u J (p 25) 2 (Int32.ofInt 0)) L (lx_dec h10 hc) k
                  rw [k, x41_7, if_neg h10, if_pos h20, if_neg h36, if_pos h42, if_pos h61, if_neg h73, if_pos h84]
                · rw [if_neg h84] at k
                  have k := ly_revb 2 (c' := (89, [(3, .int (J sp v2.toNatClampNeg)), (0, .ref (p 25)), (1, .ref sp), (2, .int v2)], [.ref (p 25), .ref (p 25)], me_w (lw M L) J)) rfl k
                  have k := lz_get (a := (p 25)) (g := 301) (M := me_w (lw M L) J) (v := .ref (p 27)) rfl (nt_gfR rfl (hp.1 (25, 1, 27) (by decide))) k
                  have k := ly_revb 1 (c' := (93, [(3, .int (J sp v2.toNatClampNeg)), (0, .ref (p 25)), (1, .ref sp), (2, .int v2)], [.int (Int32.ofInt 0), .ref (p 27), .ref (p 25)], me_w (lw M L) J)) rfl k
                  have k := mx_lald (v := L (p 27) 0) rfl ((congrArg (L (p 27)) (show (Int32.ofInt 0).toNatClampNeg = 0 from rfl)).trans (rfl)) k
                  have k := mx_putl rfl (by decide) k
                  have k : nt_rn X _ 41 (97, [(3, .int (J sp v2.toNatClampNeg)), (0, .ref (p 25)), (1, .ref sp), (2, .int v2)], [], me_w (lw M (nt_u L (p 25) 3 (L (p 27) 0))) J) _ := k
                  have k := ly_revb 1 (c' := (98, [(3, .int (J sp v2.toNatClampNeg)), (0, .ref (p 25)), (1, .ref sp), (2, .int v2)], [.int (Int32.ofInt 1)], me_w (lw M (nt_u L (p 25) 3 (L (p 27) 0))) J)) rfl k
                  have k := lz_ri rfl (by decide) k
                  rw [k, x41_7, if_neg h10, if_pos h20, if_neg h36, if_pos h42, if_pos h61, if_neg h73, if_neg h84]
            · rw [if_neg h61] at k
              have k := ly_revb 3 (c' := (if (J sp v2.toNatClampNeg) = (Int32.ofInt 23) then 70 else 107, [(3, .int (J sp v2.toNatClampNeg)), (0, .ref (p 25)), (1, .ref sp), (2, .int v2)], [], me_w (lw M L) J)) rfl k
              by_cases h67 : (J sp v2.toNatClampNeg) = (Int32.ofInt 23)
              · rw [if_pos h67] at k
                have k := ly_revb 3 (c' := (if (J sp v2.toNatClampNeg) = (Int32.ofInt 22) then 87 else 76, [(3, .int (J sp v2.toNatClampNeg)), (0, .ref (p 25)), (1, .ref sp), (2, .int v2)], [], me_w (lw M L) J)) rfl k
                by_cases h73 : (J sp v2.toNatClampNeg) = (Int32.ofInt 22)
                · rw [if_pos h73] at k
                  have k := ly_revb 2 (c' := (89, [(3, .int (J sp v2.toNatClampNeg)), (0, .ref (p 25)), (1, .ref sp), (2, .int v2)], [.ref (p 25), .ref (p 25)], me_w (lw M L) J)) rfl k
                  have k := lz_get (a := (p 25)) (g := 301) (M := me_w (lw M L) J) (v := .ref (p 27)) rfl (nt_gfR rfl (hp.1 (25, 1, 27) (by decide))) k
                  have k := ly_revb 1 (c' := (93, [(3, .int (J sp v2.toNatClampNeg)), (0, .ref (p 25)), (1, .ref sp), (2, .int v2)], [.int (Int32.ofInt 0), .ref (p 27), .ref (p 25)], me_w (lw M L) J)) rfl k
                  have k := mx_lald (v := L (p 27) 0) rfl ((congrArg (L (p 27)) (show (Int32.ofInt 0).toNatClampNeg = 0 from rfl)).trans (rfl)) k
                  have k := mx_putl rfl (by decide) k
                  have k : nt_rn X _ 41 (97, [(3, .int (J sp v2.toNatClampNeg)), (0, .ref (p 25)), (1, .ref sp), (2, .int v2)], [], me_w (lw M (nt_u L (p 25) 3 (L (p 27) 0))) J) _ := k
                  have k := ly_revb 1 (c' := (98, [(3, .int (J sp v2.toNatClampNeg)), (0, .ref (p 25)), (1, .ref sp), (2, .int v2)], [.int (Int32.ofInt 1)], me_w (lw M (nt_u L (p 25) 3 (L (p 27) 0))) J)) rfl k
                  have k := lz_ri rfl (by decide) k
                  rw [k, x41_7, if_neg h10, if_pos h20, if_neg h36, if_pos h42, if_neg h61, if_pos h67, if_pos h73]
                · rw [if_neg h73] at k
                  have k := ly_revb 1 (c' := (77, [(3, .int (J sp v2.toNatClampNeg)), (0, .ref (p 25)), (1, .ref sp), (2, .int v2)], [.ref (p 25)], me_w (lw M L) J)) rfl k
                  have k := lz_get (a := (p 25)) (g := 301) (M := me_w (lw M L) J) (v := .ref (p 27)) rfl (nt_gfR rfl (hp.1 (25, 1, 27) (by decide))) k
                  have k := ly_revb 1 (c' := (81, [(3, .int (J sp v2.toNatClampNeg)), (0, .ref (p 25)), (1, .ref sp), (2, .int v2)], [.int (Int32.ofInt 1), .ref (p 27)], me_w (lw M L) J)) rfl k
                  have k := mx_lald (v := L (p 27) 1) rfl ((congrArg (L (p 27)) (show (Int32.ofInt 1).toNatClampNeg = 1 from rfl)).trans (rfl)) k
                  have k := ly_revb 3 (c' := (if (lg_cmp (L (p 27) 1) (Int64.ofNat 0)) = 0 then 99 else 87, [(3, .int (J sp v2.toNatClampNeg)), (0, .ref (p 25)), (1, .ref sp), (2, .int v2)], [], me_w (lw M L) J)) rfl k
                  by_cases h84 : (lg_cmp (L (p 27) 1) (Int64.ofNat 0)) = 0
                  · rw [if_pos h84] at k
                    have k := ly_revb 2 (c' := (101, [(3, .int (J sp v2.toNatClampNeg)), (0, .ref (p 25)), (1, .ref sp), (2, .int v2)], [.int (Int32.ofInt 0), .ref (p 25)], me_w (lw M L) J)) rfl k
                    have k := me_put rfl (by decide) k
                    have k : nt_rn X _ 41 (104, [(3, .int (J sp v2.toNatClampNeg)), (0, .ref (p 25)), (1, .ref sp), (2, .int v2)], [], me_w (lw M L) (nt_u J (p 25) 2 (Int32.ofInt 0))) _ := k
                    have k := ly_revb 3 (c' := (7, [(2, .int (v2 + (Int32.ofInt 1))), (3, .int (J sp v2.toNatClampNeg)), (0, .ref (p 25)), (1, .ref sp)], [], me_w (lw M L) (nt_u J (p 25) 2 (Int32.ofInt 0)))) rfl k
                    have k := nt_rn_w (a := [(2, .int (v2 + (Int32.ofInt 1))), (3, .int (J sp v2.toNatClampNeg)), (0, .ref (p 25)), (1, .ref sp)]) (b := [(0, .ref (p 25)), (1, .ref sp), (2, .int (v2 + (Int32.ofInt 1))), (3, .int (J sp v2.toNatClampNeg))]) ⟨rfl, rfl, rfl, rfl, trivial⟩ rfl k
                    have k := ih (v2 + (Int32.ofInt 1)) (J sp v2.toNatClampNeg) (nt_u J (p 25) 2 (Int32.ofInt 0)) L (lx_dec h10 hc) k
                    rw [k, x41_7, if_neg h10, if_pos h20, if_neg h36, if_pos h42, if_neg h61, if_pos h67, if_neg h73, if_pos h84]
                  · rw [if_neg h84] at k
                    have k := ly_revb 2 (c' := (89, [(3, .int (J sp v2.toNatClampNeg)), (0, .ref (p 25)), (1, .ref sp), (2, .int v2)], [.ref (p 25), .ref (p 25)], me_w (lw M L) J)) rfl k
                    have k := lz_get (a := (p 25)) (g := 301) (M := me_w (lw M L) J) (v := .ref (p 27)) rfl (nt_gfR rfl (hp.1 (25, 1, 27) (by decide))) k
                    have k := ly_revb 1 (c' := (93, [(3, .int (J sp v2.toNatClampNeg)), (0, .ref (p 25)), (1, .ref sp), (2, .int v2)], [.int (Int32.ofInt 0), .ref (p 27), .ref (p 25)], me_w (lw M L) J)) rfl k
                    have k := mx_lald (v := L (p 27) 0) rfl ((congrArg (L (p 27)) (show (Int32.ofInt 0).toNatClampNeg = 0 from rfl)).trans (rfl)) k
                    have k := mx_putl rfl (by decide) k
                    have k : nt_rn X _ 41 (97, [(3, .int (J sp v2.toNatClampNeg)), (0, .ref (p 25)), (1, .ref sp), (2, .int v2)], [], me_w (lw M (nt_u L (p 25) 3 (L (p 27) 0))) J) _ := k
                    have k := ly_revb 1 (c' := (98, [(3, .int (J sp v2.toNatClampNeg)), (0, .ref (p 25)), (1, .ref sp), (2, .int v2)], [.int (Int32.ofInt 1)], me_w (lw M (nt_u L (p 25) 3 (L (p 27) 0))) J)) rfl k
                    have k := lz_ri rfl (by decide) k
                    rw [k, x41_7, if_neg h10, if_pos h20, if_neg h36, if_pos h42, if_neg h61, if_pos h67, if_neg h73, if_neg h84]
              · rw [if_neg h67] at k
                have k := ly_revb 2 (c' := (109, [(3, .int (J sp v2.toNatClampNeg)), (0, .ref (p 25)), (1, .ref sp), (2, .int v2)], [.int (J sp v2.toNatClampNeg), .ref (p 25)], me_w (lw M L) J)) rfl k
                obtain ⟨d1, o1, ed, kc, k⟩ := lz_c (g := 43) (q := 1) (vs := [.ref (p 25), .int (J sp v2.toNatClampNeg)]) (rest := []) rfl rfl (by decide) (Or.inr (Or.inl ⟨_, rfl, rfl⟩)) rfl k
                have e1 := xt43 hp kc
                subst e1
                have k : nt_rn X _ 41 (112, [(3, .int (J sp v2.toNatClampNeg)), (0, .ref (p 25)), (1, .ref sp), (2, .int v2)], [], me_w (lw M ((x43 p (J sp v2.toNatClampNeg) J L).2)) ((x43 p (J sp v2.toNatClampNeg) J L).1)) _ := k
                have k := ly_revb 2 (c' := (7, [(2, .int (v2 + (Int32.ofInt 1))), (3, .int (J sp v2.toNatClampNeg)), (0, .ref (p 25)), (1, .ref sp)], [], me_w (lw M ((x43 p (J sp v2.toNatClampNeg) J L).2)) ((x43 p (J sp v2.toNatClampNeg) J L).1))) rfl k
                have k := nt_rn_w (a := [(2, .int (v2 + (Int32.ofInt 1))), (3, .int (J sp v2.toNatClampNeg)), (0, .ref (p 25)), (1, .ref sp)]) (b := [(0, .ref (p 25)), (1, .ref sp), (2, .int (v2 + (Int32.ofInt 1))), (3, .int (J sp v2.toNatClampNeg))]) ⟨rfl, rfl, rfl, rfl, trivial⟩ rfl k
                have k := ih (v2 + (Int32.ofInt 1)) (J sp v2.toNatClampNeg) ((x43 p (J sp v2.toNatClampNeg) J L).1) ((x43 p (J sp v2.toNatClampNeg) J L).2) (lx_dec h10 hc) k
                rw [k, x41_7, if_neg h10, if_pos h20, if_neg h36, if_pos h42, if_neg h61, if_neg h67]
          · rw [if_neg h42] at k
            have k := ly_revb 2 (c' := (47, [(3, .int (J sp v2.toNatClampNeg)), (0, .ref (p 25)), (1, .ref sp), (2, .int v2)], [.ref (p 25), .ref (p 25)], me_w (lw M L) J)) rfl k
            have k := lz_get (a := (p 25)) (g := 300) (M := me_w (lw M L) J) (v := .ref (p 26)) rfl (nt_gfR rfl (hp.1 (25, 0, 26) (by decide))) k
            have k := ly_revb 1 (c' := (51, [(3, .int (J sp v2.toNatClampNeg)), (0, .ref (p 25)), (1, .ref sp), (2, .int v2)], [.int (J sp v2.toNatClampNeg), .ref (p 26), .ref (p 25)], me_w (lw M L) J)) rfl k
            have k := mx_lald (v := L (p 26) ((J sp v2.toNatClampNeg).toNatClampNeg)) rfl (rfl) k
            obtain ⟨d1, o1, ed, kc, k⟩ := lz_c (g := 42) (q := 1) (vs := [.ref (p 25), .long (L (p 26) ((J sp v2.toNatClampNeg).toNatClampNeg))]) (rest := []) rfl rfl (by decide) (Or.inr (Or.inl ⟨_, rfl, rfl⟩)) rfl k
            have e1 := xt42 hp kc
            subst e1
            have k : nt_rn X _ 41 (55, [(3, .int (J sp v2.toNatClampNeg)), (0, .ref (p 25)), (1, .ref sp), (2, .int v2)], [], me_w (lw M ((x42 p (L (p 26) ((J sp v2.toNatClampNeg).toNatClampNeg)) J L).2)) ((x42 p (L (p 26) ((J sp v2.toNatClampNeg).toNatClampNeg)) J L).1)) _ := k
            have k := ly_revb 3 (c' := (7, [(2, .int (v2 + (Int32.ofInt 1))), (3, .int (J sp v2.toNatClampNeg)), (0, .ref (p 25)), (1, .ref sp)], [], me_w (lw M ((x42 p (L (p 26) ((J sp v2.toNatClampNeg).toNatClampNeg)) J L).2)) ((x42 p (L (p 26) ((J sp v2.toNatClampNeg).toNatClampNeg)) J L).1))) rfl k
            have k := nt_rn_w (a := [(2, .int (v2 + (Int32.ofInt 1))), (3, .int (J sp v2.toNatClampNeg)), (0, .ref (p 25)), (1, .ref sp)]) (b := [(0, .ref (p 25)), (1, .ref sp), (2, .int (v2 + (Int32.ofInt 1))), (3, .int (J sp v2.toNatClampNeg))]) ⟨rfl, rfl, rfl, rfl, trivial⟩ rfl k
            have k := ih (v2 + (Int32.ofInt 1)) (J sp v2.toNatClampNeg) ((x42 p (L (p 26) ((J sp v2.toNatClampNeg).toNatClampNeg)) J L).1) ((x42 p (L (p 26) ((J sp v2.toNatClampNeg).toNatClampNeg)) J L).2) (lx_dec h10 hc) k
            rw [k, x41_7, if_neg h10, if_pos h20, if_neg h36, if_neg h42]
      · rw [if_neg h20] at k
        have k := ly_revb 5 (c' := (29, [(3, .int (J sp v2.toNatClampNeg)), (0, .ref (p 25)), (1, .ref sp), (2, .int v2)], [.long (((J sp v2.toNatClampNeg) - (Int32.ofInt 100)).toInt64), .ref (p 25)], me_w (lw M L) J)) rfl k
        obtain ⟨d1, o1, ed, kc, k⟩ := lz_c (g := 42) (q := 1) (vs := [.ref (p 25), .long (((J sp v2.toNatClampNeg) - (Int32.ofInt 100)).toInt64)]) (rest := []) rfl rfl (by decide) (Or.inr (Or.inl ⟨_, rfl, rfl⟩)) rfl k
        have e1 := xt42 hp kc
        subst e1
        have k : nt_rn X _ 41 (32, [(3, .int (J sp v2.toNatClampNeg)), (0, .ref (p 25)), (1, .ref sp), (2, .int v2)], [], me_w (lw M ((x42 p (((J sp v2.toNatClampNeg) - (Int32.ofInt 100)).toInt64) J L).2)) ((x42 p (((J sp v2.toNatClampNeg) - (Int32.ofInt 100)).toInt64) J L).1)) _ := k
        have k := ly_revb 3 (c' := (7, [(2, .int (v2 + (Int32.ofInt 1))), (3, .int (J sp v2.toNatClampNeg)), (0, .ref (p 25)), (1, .ref sp)], [], me_w (lw M ((x42 p (((J sp v2.toNatClampNeg) - (Int32.ofInt 100)).toInt64) J L).2)) ((x42 p (((J sp v2.toNatClampNeg) - (Int32.ofInt 100)).toInt64) J L).1))) rfl k
        have k := nt_rn_w (a := [(2, .int (v2 + (Int32.ofInt 1))), (3, .int (J sp v2.toNatClampNeg)), (0, .ref (p 25)), (1, .ref sp)]) (b := [(0, .ref (p 25)), (1, .ref sp), (2, .int (v2 + (Int32.ofInt 1))), (3, .int (J sp v2.toNatClampNeg))]) ⟨rfl, rfl, rfl, rfl, trivial⟩ rfl k
        have k := ih (v2 + (Int32.ofInt 1)) (J sp v2.toNatClampNeg) ((x42 p (((J sp v2.toNatClampNeg) - (Int32.ofInt 100)).toInt64) J L).1) ((x42 p (((J sp v2.toNatClampNeg) - (Int32.ofInt 100)).toInt64) J L).2) (lx_dec h10 hc) k
        rw [k, x41_7, if_neg h10, if_neg h20]
theorem x41_7_rule {p : Nat → Nat} {sp : Nat} {ln : Nat} {I : Nat → Int32 → (Nat → Nat → Int32) → (Nat → Nat → Int64) → Prop} {Q : Int32 × (Nat → Nat → Int32) × (Nat → Nat → Int64) → Prop} (h0 : ∀ (v2 : Int32) (J : Nat → Nat → Int32) (L : Nat → Nat → Int64), I 0 v2 J L → Q (Int32.ofInt 0, J, L)) (h1 : ∀ (c : Nat) (v2 : Int32) (J : Nat → Nat → Int32) (L : Nat → Nat → Int64), I (c + 1) v2 J L →
    if (Int32.ofNat ln) ≤ v2 then (Q (Int32.ofInt 0, J, L))
    else if (J sp v2.toNatClampNeg) < (Int32.ofInt 100) then if (J sp v2.toNatClampNeg) < 0 then if (J sp v2.toNatClampNeg) = (Int32.ofInt 22) then if (J sp v2.toNatClampNeg) = (Int32.ofInt 22) then (Q (Int32.ofInt 1, J, nt_u L (p 25) 3 (L (p 27) 0)))
            else if (lg_cmp (L (p 27) 1) (Int64.ofNat 0)) = 0 then (I c (v2 + (Int32.ofInt 1)) (nt_u J (p 25) 2 (Int32.ofInt 0)) L)
              else (Q (Int32.ofInt 1, J, nt_u L (p 25) 3 (L (p 27) 0)))
          else if (J sp v2.toNatClampNeg) = (Int32.ofInt 23) then if (J sp v2.toNatClampNeg) = (Int32.ofInt 22) then (Q (Int32.ofInt 1, J, nt_u L (p 25) 3 (L (p 27) 0)))
              else if (lg_cmp (L (p 27) 1) (Int64.ofNat 0)) = 0 then (I c (v2 + (Int32.ofInt 1)) (nt_u J (p 25) 2 (Int32.ofInt 0)) L)
                else (Q (Int32.ofInt 1, J, nt_u L (p 25) 3 (L (p 27) 0)))
            else (I c (v2 + (Int32.ofInt 1)) ((x43 p (J sp v2.toNatClampNeg) J L).1) ((x43 p (J sp v2.toNatClampNeg) J L).2))
        else if (Int32.ofInt 10) ≤ (J sp v2.toNatClampNeg) then if (J sp v2.toNatClampNeg) = (Int32.ofInt 22) then if (J sp v2.toNatClampNeg) = (Int32.ofInt 22) then (Q (Int32.ofInt 1, J, nt_u L (p 25) 3 (L (p 27) 0)))
              else if (lg_cmp (L (p 27) 1) (Int64.ofNat 0)) = 0 then (I c (v2 + (Int32.ofInt 1)) (nt_u J (p 25) 2 (Int32.ofInt 0)) L)
                else (Q (Int32.ofInt 1, J, nt_u L (p 25) 3 (L (p 27) 0)))
            else if (J sp v2.toNatClampNeg) = (Int32.ofInt 23) then if (J sp v2.toNatClampNeg) = (Int32.ofInt 22) then (Q (Int32.ofInt 1, J, nt_u L (p 25) 3 (L (p 27) 0)))
                else if (lg_cmp (L (p 27) 1) (Int64.ofNat 0)) = 0 then (I c (v2 + (Int32.ofInt 1)) (nt_u J (p 25) 2 (Int32.ofInt 0)) L)
                  else (Q (Int32.ofInt 1, J, nt_u L (p 25) 3 (L (p 27) 0)))
              else (I c (v2 + (Int32.ofInt 1)) ((x43 p (J sp v2.toNatClampNeg) J L).1) ((x43 p (J sp v2.toNatClampNeg) J L).2))
          else (I c (v2 + (Int32.ofInt 1)) ((x42 p (L (p 26) ((J sp v2.toNatClampNeg).toNatClampNeg)) J L).1) ((x42 p (L (p 26) ((J sp v2.toNatClampNeg).toNatClampNeg)) J L).2))
      else (I c (v2 + (Int32.ofInt 1)) ((x42 p (((J sp v2.toNatClampNeg) - (Int32.ofInt 100)).toInt64) J L).1) ((x42 p (((J sp v2.toNatClampNeg) - (Int32.ofInt 100)).toInt64) J L).2))) : ∀ (c : Nat) (v2 : Int32) (J : Nat → Nat → Int32) (L : Nat → Nat → Int64), I c v2 J L → Q (x41_7 p sp ln c v2 J L) := by
  intro c
  induction c with
  | zero =>
    intro v2 J L hi
    rw [x41_7]
    exact h0 v2 J L hi
  | succ c ih =>
    intro v2 J L hi
    have hi := h1 c v2 J L hi
    rw [x41_7]
    by_cases h : (Int32.ofNat ln) ≤ v2
    · rw [if_pos h] at hi ⊢
      exact hi
    · rw [if_neg h] at hi ⊢
      by_cases h : (J sp v2.toNatClampNeg) < (Int32.ofInt 100)
      · rw [if_pos h] at hi ⊢
        by_cases h : (J sp v2.toNatClampNeg) < 0
        · rw [if_pos h] at hi ⊢
          by_cases h : (J sp v2.toNatClampNeg) = (Int32.ofInt 22)
          · rw [if_pos h] at hi ⊢
            by_cases h : (J sp v2.toNatClampNeg) = (Int32.ofInt 22)
            · rw [if_pos h] at hi ⊢
              exact hi
            · rw [if_neg h] at hi ⊢
              by_cases h : (lg_cmp (L (p 27) 1) (Int64.ofNat 0)) = 0
              · rw [if_pos h] at hi ⊢
                exact ih _ _ _ hi
              · rw [if_neg h] at hi ⊢
                exact hi
          · rw [if_neg h] at hi ⊢
            by_cases h : (J sp v2.toNatClampNeg) = (Int32.ofInt 23)
            · rw [if_pos h] at hi ⊢
              by_cases h : (J sp v2.toNatClampNeg) = (Int32.ofInt 22)
              · rw [if_pos h] at hi ⊢
                exact hi
              · rw [if_neg h] at hi ⊢
                by_cases h : (lg_cmp (L (p 27) 1) (Int64.ofNat 0)) = 0
                · rw [if_pos h] at hi ⊢
                  exact ih _ _ _ hi
                · rw [if_neg h] at hi ⊢
                  exact hi
            · rw [if_neg h] at hi ⊢
              exact ih _ _ _ hi
        · rw [if_neg h] at hi ⊢
          by_cases h : (Int32.ofInt 10) ≤ (J sp v2.toNatClampNeg)
          · rw [if_pos h] at hi ⊢
            by_cases h : (J sp v2.toNatClampNeg) = (Int32.ofInt 22)
            · rw [if_pos h] at hi ⊢
              by_cases h : (J sp v2.toNatClampNeg) = (Int32.ofInt 22)
              · rw [if_pos h] at hi ⊢
                exact hi
              · rw [if_neg h] at hi ⊢
                by_cases h : (lg_cmp (L (p 27) 1) (Int64.ofNat 0)) = 0
                · rw [if_pos h] at hi ⊢
                  exact ih _ _ _ hi
                · rw [if_neg h] at hi ⊢
                  exact hi
            · rw [if_neg h] at hi ⊢
              by_cases h : (J sp v2.toNatClampNeg) = (Int32.ofInt 23)
              · rw [if_pos h] at hi ⊢
                by_cases h : (J sp v2.toNatClampNeg) = (Int32.ofInt 22)
                · rw [if_pos h] at hi ⊢
                  exact hi
                · rw [if_neg h] at hi ⊢
                  by_cases h : (lg_cmp (L (p 27) 1) (Int64.ofNat 0)) = 0
                  · rw [if_pos h] at hi ⊢
                    exact ih _ _ _ hi
                  · rw [if_neg h] at hi ⊢
                    exact hi
              · rw [if_neg h] at hi ⊢
                exact ih _ _ _ hi
          · rw [if_neg h] at hi ⊢
            exact ih _ _ _ hi
      · rw [if_neg h] at hi ⊢
        exact ih _ _ _ hi
def x41 (p : Nat → Nat) (sp : Nat) (ln : Nat) (J : Nat → Nat → Int32) (L : Nat → Nat → Int64) : Int32 × (Nat → Nat → Int32) × (Nat → Nat → Int64) := (x41_7 p sp ln ((Int32.ofNat ln).toNatClampNeg) (Int32.ofInt 0) (nt_u J (p 25) 2 (Int32.ofInt 0)) L)
theorem xt41 {X : nt_X} {d : Nat} {M : nt_M} {o : Option Value × nt_M} {p : Nat → Nat} {sp : Nat} {ln : Nat} {ru : Nat} {J : Nat → Nat → Int32} {L : Nat → Nat → Int64} (hp : xs_P M p) (hs : xs_S M p ru sp ln) (k : nt_ev X d 41 [.ref (p 25), .ref sp] (me_w (lw M L) J) o) : o = (some (.int ((x41 p sp ln J L).1)), me_w (lw M ((x41 p sp ln J L).2.2)) ((x41 p sp ln J L).2.1)) := by
  have k : nt_rn X d 41 (0, [(0, .ref (p 25)), (1, .ref sp)], [], me_w (lw M L) J) o := k
  have k := ly_revb 2 (c' := (2, [(0, .ref (p 25)), (1, .ref sp)], [.int (Int32.ofInt 0), .ref (p 25)], me_w (lw M L) J)) rfl k
  have k := me_put rfl (by decide) k
  have k : nt_rn X _ 41 (5, [(0, .ref (p 25)), (1, .ref sp)], [], me_w (lw M L) (nt_u J (p 25) 2 (Int32.ofInt 0))) _ := k
  have k := ly_revb 2 (c' := (7, [(2, .int (Int32.ofInt 0)), (0, .ref (p 25)), (1, .ref sp)], [], me_w (lw M L) (nt_u J (p 25) 2 (Int32.ofInt 0)))) rfl k
  have k := nt_rn_w (a := [(2, .int (Int32.ofInt 0)), (0, .ref (p 25)), (1, .ref sp)]) (b := [(0, .ref (p 25)), (1, .ref sp), (2, .int (Int32.ofInt 0)), (3, .int (Int32.ofInt 0))]) ⟨rfl, rfl, rfl, trivial⟩ rfl k
  have k := xt41_7 hp hs  ((Int32.ofNat ln).toNatClampNeg) (Int32.ofInt 0) (Int32.ofInt 0) (nt_u J (p 25) 2 (Int32.ofInt 0)) L (lx_beg (by decide)) k
  rw [k, x41]
theorem x41_7_frJ {p : Nat → Nat} {sp : Nat} {ln : Nat} {b : Nat} : ∀ (c : Nat) (v2 : Int32) (J : Nat → Nat → Int32) (L : Nat → Nat → Int64), b ≠ p 25 → (x41_7 p sp ln c v2 J L).2.1 b = J b := by
  intro c
  induction c with
  | zero =>
    intro v2 J L n0
    rw [x41_7]
    all_goals first | (dsimp only; exact (show J b = J b from rfl)) | exact (show J b = J b from rfl)
  | succ c ih =>
    intro v2 J L n0
    rw [x41_7]
    by_cases h : (Int32.ofNat ln) ≤ v2
    · rw [if_pos h]
      all_goals first | (dsimp only; exact (show J b = J b from rfl)) | exact (show J b = J b from rfl)
    · rw [if_neg h]
      by_cases h : (J sp v2.toNatClampNeg) < (Int32.ofInt 100)
      · rw [if_pos h]
        by_cases h : (J sp v2.toNatClampNeg) < 0
        · rw [if_pos h]
          by_cases h : (J sp v2.toNatClampNeg) = (Int32.ofInt 22)
          · rw [if_pos h]
            by_cases h : (J sp v2.toNatClampNeg) = (Int32.ofInt 22)
            · rw [if_pos h]
              all_goals first | (dsimp only; exact (show J b = J b from rfl)) | exact (show J b = J b from rfl)
            · rw [if_neg h]
              by_cases h : (lg_cmp (L (p 27) 1) (Int64.ofNat 0)) = 0
              · rw [if_pos h]
                exact (ih _ _ _ n0).trans (mu_o n0)
              · rw [if_neg h]
                all_goals first | (dsimp only; exact (show J b = J b from rfl)) | exact (show J b = J b from rfl)
          · rw [if_neg h]
            by_cases h : (J sp v2.toNatClampNeg) = (Int32.ofInt 23)
            · rw [if_pos h]
              by_cases h : (J sp v2.toNatClampNeg) = (Int32.ofInt 22)
              · rw [if_pos h]
                all_goals first | (dsimp only; exact (show J b = J b from rfl)) | exact (show J b = J b from rfl)
              · rw [if_neg h]
                by_cases h : (lg_cmp (L (p 27) 1) (Int64.ofNat 0)) = 0
                · rw [if_pos h]
                  exact (ih _ _ _ n0).trans (mu_o n0)
                · rw [if_neg h]
                  all_goals first | (dsimp only; exact (show J b = J b from rfl)) | exact (show J b = J b from rfl)
            · rw [if_neg h]
              exact (ih _ _ _ n0).trans (x43_frJ  n0)
        · rw [if_neg h]
          by_cases h : (Int32.ofInt 10) ≤ (J sp v2.toNatClampNeg)
          · rw [if_pos h]
            by_cases h : (J sp v2.toNatClampNeg) = (Int32.ofInt 22)
            · rw [if_pos h]
              by_cases h : (J sp v2.toNatClampNeg) = (Int32.ofInt 22)
              · rw [if_pos h]
                all_goals first | (dsimp only; exact (show J b = J b from rfl)) | exact (show J b = J b from rfl)
              · rw [if_neg h]
                by_cases h : (lg_cmp (L (p 27) 1) (Int64.ofNat 0)) = 0
                · rw [if_pos h]
                  exact (ih _ _ _ n0).trans (mu_o n0)
                · rw [if_neg h]
                  all_goals first | (dsimp only; exact (show J b = J b from rfl)) | exact (show J b = J b from rfl)
            · rw [if_neg h]
              by_cases h : (J sp v2.toNatClampNeg) = (Int32.ofInt 23)
              · rw [if_pos h]
                by_cases h : (J sp v2.toNatClampNeg) = (Int32.ofInt 22)
                · rw [if_pos h]
                  all_goals first | (dsimp only; exact (show J b = J b from rfl)) | exact (show J b = J b from rfl)
                · rw [if_neg h]
                  by_cases h : (lg_cmp (L (p 27) 1) (Int64.ofNat 0)) = 0
                  · rw [if_pos h]
                    exact (ih _ _ _ n0).trans (mu_o n0)
                  · rw [if_neg h]
                    all_goals first | (dsimp only; exact (show J b = J b from rfl)) | exact (show J b = J b from rfl)
              · rw [if_neg h]
                exact (ih _ _ _ n0).trans (x43_frJ  n0)
          · rw [if_neg h]
            exact (ih _ _ _ n0).trans (x42_frJ  n0)
      · rw [if_neg h]
        exact (ih _ _ _ n0).trans (x42_frJ  n0)
theorem x41_frJ {p : Nat → Nat} {sp : Nat} {ln : Nat} {J : Nat → Nat → Int32} {L : Nat → Nat → Int64} {b : Nat} (n0 : b ≠ p 25) : (x41 p sp ln J L).2.1 b = J b := by
  unfold x41
  exact (x41_7_frJ _ _ _ _ n0).trans (mu_o n0)
theorem x41_7_frL {p : Nat → Nat} {sp : Nat} {ln : Nat} {b : Nat} : ∀ (c : Nat) (v2 : Int32) (J : Nat → Nat → Int32) (L : Nat → Nat → Int64), b ≠ p 25 → b ≠ p 27 → (x41_7 p sp ln c v2 J L).2.2 b = L b := by
  intro c
  induction c with
  | zero =>
    intro v2 J L n0 n1
    rw [x41_7]
    all_goals first | (dsimp only; exact (show L b = L b from rfl)) | exact (show L b = L b from rfl)
  | succ c ih =>
    intro v2 J L n0 n1
    rw [x41_7]
    by_cases h : (Int32.ofNat ln) ≤ v2
    · rw [if_pos h]
      all_goals first | (dsimp only; exact (show L b = L b from rfl)) | exact (show L b = L b from rfl)
    · rw [if_neg h]
      by_cases h : (J sp v2.toNatClampNeg) < (Int32.ofInt 100)
      · rw [if_pos h]
        by_cases h : (J sp v2.toNatClampNeg) < 0
        · rw [if_pos h]
          by_cases h : (J sp v2.toNatClampNeg) = (Int32.ofInt 22)
          · rw [if_pos h]
            by_cases h : (J sp v2.toNatClampNeg) = (Int32.ofInt 22)
            · rw [if_pos h]
              all_goals first | (dsimp only; exact (show (nt_u L (p 25) 3 (L (p 27) 0)) b = L b from mu_o n0)) | exact (show (nt_u L (p 25) 3 (L (p 27) 0)) b = L b from mu_o n0)
            · rw [if_neg h]
              by_cases h : (lg_cmp (L (p 27) 1) (Int64.ofNat 0)) = 0
              · rw [if_pos h]
                exact (ih _ _ _ n0 n1).trans (rfl)
              · rw [if_neg h]
                all_goals first | (dsimp only; exact (show (nt_u L (p 25) 3 (L (p 27) 0)) b = L b from mu_o n0)) | exact (show (nt_u L (p 25) 3 (L (p 27) 0)) b = L b from mu_o n0)
          · rw [if_neg h]
            by_cases h : (J sp v2.toNatClampNeg) = (Int32.ofInt 23)
            · rw [if_pos h]
              by_cases h : (J sp v2.toNatClampNeg) = (Int32.ofInt 22)
              · rw [if_pos h]
                all_goals first | (dsimp only; exact (show (nt_u L (p 25) 3 (L (p 27) 0)) b = L b from mu_o n0)) | exact (show (nt_u L (p 25) 3 (L (p 27) 0)) b = L b from mu_o n0)
              · rw [if_neg h]
                by_cases h : (lg_cmp (L (p 27) 1) (Int64.ofNat 0)) = 0
                · rw [if_pos h]
                  exact (ih _ _ _ n0 n1).trans (rfl)
                · rw [if_neg h]
                  all_goals first | (dsimp only; exact (show (nt_u L (p 25) 3 (L (p 27) 0)) b = L b from mu_o n0)) | exact (show (nt_u L (p 25) 3 (L (p 27) 0)) b = L b from mu_o n0)
            · rw [if_neg h]
              exact (ih _ _ _ n0 n1).trans (x43_frL n1)
        · rw [if_neg h]
          by_cases h : (Int32.ofInt 10) ≤ (J sp v2.toNatClampNeg)
          · rw [if_pos h]
            by_cases h : (J sp v2.toNatClampNeg) = (Int32.ofInt 22)
            · rw [if_pos h]
              by_cases h : (J sp v2.toNatClampNeg) = (Int32.ofInt 22)
              · rw [if_pos h]
                all_goals first | (dsimp only; exact (show (nt_u L (p 25) 3 (L (p 27) 0)) b = L b from mu_o n0)) | exact (show (nt_u L (p 25) 3 (L (p 27) 0)) b = L b from mu_o n0)
              · rw [if_neg h]
                by_cases h : (lg_cmp (L (p 27) 1) (Int64.ofNat 0)) = 0
                · rw [if_pos h]
                  exact (ih _ _ _ n0 n1).trans (rfl)
                · rw [if_neg h]
                  all_goals first | (dsimp only; exact (show (nt_u L (p 25) 3 (L (p 27) 0)) b = L b from mu_o n0)) | exact (show (nt_u L (p 25) 3 (L (p 27) 0)) b = L b from mu_o n0)
            · rw [if_neg h]
              by_cases h : (J sp v2.toNatClampNeg) = (Int32.ofInt 23)
              · rw [if_pos h]
                by_cases h : (J sp v2.toNatClampNeg) = (Int32.ofInt 22)
                · rw [if_pos h]
                  all_goals first | (dsimp only; exact (show (nt_u L (p 25) 3 (L (p 27) 0)) b = L b from mu_o n0)) | exact (show (nt_u L (p 25) 3 (L (p 27) 0)) b = L b from mu_o n0)
                · rw [if_neg h]
                  by_cases h : (lg_cmp (L (p 27) 1) (Int64.ofNat 0)) = 0
                  · rw [if_pos h]
                    exact (ih _ _ _ n0 n1).trans (rfl)
                  · rw [if_neg h]
                    all_goals first | (dsimp only; exact (show (nt_u L (p 25) 3 (L (p 27) 0)) b = L b from mu_o n0)) | exact (show (nt_u L (p 25) 3 (L (p 27) 0)) b = L b from mu_o n0)
              · rw [if_neg h]
                exact (ih _ _ _ n0 n1).trans (x43_frL n1)
          · rw [if_neg h]
            exact (ih _ _ _ n0 n1).trans (x42_frL n1)
      · rw [if_neg h]
        exact (ih _ _ _ n0 n1).trans (x42_frL n1)
theorem x41_frL {p : Nat → Nat} {sp : Nat} {ln : Nat} {J : Nat → Nat → Int32} {L : Nat → Nat → Int64} {b : Nat} (n0 : b ≠ p 25) (n1 : b ≠ p 27) : (x41 p sp ln J L).2.2 b = L b := by
  unfold x41
  exact (x41_7_frL _ _ _ _ n0 n1).trans (rfl)
/-! $Calendar.tell -/
def x8 (p : Nat → Nat) (q : Nat → Nat) (v2 : Int32) (v3 : Int32) (J : Nat → Nat → Int32) (L : Nat → Nat → Int64) : (Nat → Nat → Int64) := if (J (q 14) v2.toNatClampNeg) = (Int32.ofInt (-1)) then if (J (q 5) v2.toNatClampNeg) = (J (q 6) v3.toNatClampNeg) then (nt_u (nt_u (nt_u (nt_u (nt_u (nt_u (nt_u (nt_u (nt_u (nt_u L (p 26) 0 v2.toInt64) (p 26) 1 ((J (q 3) v2.toNatClampNeg).toInt64)) (p 26) 2 ((J (q 13) v2.toNatClampNeg).toInt64)) (p 26) 3 ((J (q 5) v2.toNatClampNeg).toInt64)) (p 26) 4 ((J (q 6) v3.toNatClampNeg).toInt64)) (p 26) 5 99) (p 26) 6 (Int64.ofNat 1)) (p 26) 7 ((J (q 0) 2).toInt64)) (p 26) 8 ((J (q 0) 3).toInt64)) (p 26) 9 ((x89 q v3 J).toInt64))
    else (nt_u (nt_u (nt_u (nt_u (nt_u (nt_u (nt_u (nt_u (nt_u (nt_u L (p 26) 0 v2.toInt64) (p 26) 1 ((J (q 3) v2.toNatClampNeg).toInt64)) (p 26) 2 ((J (q 13) v2.toNatClampNeg).toInt64)) (p 26) 3 ((J (q 5) v2.toNatClampNeg).toInt64)) (p 26) 4 ((J (q 6) v3.toNatClampNeg).toInt64)) (p 26) 5 99) (p 26) 6 (Int64.ofNat 0)) (p 26) 7 ((J (q 0) 2).toInt64)) (p 26) 8 ((J (q 0) 3).toInt64)) (p 26) 9 ((x89 q v3 J).toInt64))
  else if (J (q 5) v2.toNatClampNeg) = (J (q 6) v3.toNatClampNeg) then (nt_u (nt_u (nt_u (nt_u (nt_u (nt_u (nt_u (nt_u (nt_u (nt_u L (p 26) 0 v2.toInt64) (p 26) 1 ((J (q 3) v2.toNatClampNeg).toInt64)) (p 26) 2 ((J (q 13) v2.toNatClampNeg).toInt64)) (p 26) 3 ((J (q 5) v2.toNatClampNeg).toInt64)) (p 26) 4 ((J (q 6) v3.toNatClampNeg).toInt64)) (p 26) 5 ((J (q 14) v2.toNatClampNeg).toInt64)) (p 26) 6 (Int64.ofNat 1)) (p 26) 7 ((J (q 0) 2).toInt64)) (p 26) 8 ((J (q 0) 3).toInt64)) (p 26) 9 ((x89 q v3 J).toInt64))
    else (nt_u (nt_u (nt_u (nt_u (nt_u (nt_u (nt_u (nt_u (nt_u (nt_u L (p 26) 0 v2.toInt64) (p 26) 1 ((J (q 3) v2.toNatClampNeg).toInt64)) (p 26) 2 ((J (q 13) v2.toNatClampNeg).toInt64)) (p 26) 3 ((J (q 5) v2.toNatClampNeg).toInt64)) (p 26) 4 ((J (q 6) v3.toNatClampNeg).toInt64)) (p 26) 5 ((J (q 14) v2.toNatClampNeg).toInt64)) (p 26) 6 (Int64.ofNat 0)) (p 26) 7 ((J (q 0) 2).toInt64)) (p 26) 8 ((J (q 0) 3).toInt64)) (p 26) 9 ((x89 q v3 J).toInt64))
theorem xt8 {X : nt_X} {d : Nat} {M : nt_M} {o : Option Value × nt_M} {p : Nat → Nat} {q : Nat → Nat} {v2 : Int32} {v3 : Int32} {J : Nat → Nat → Int32} {L : Nat → Nat → Int64} (hp : xs_P M p) (hq : xs_Q M q) (hx : xs_X p q) (k : nt_ev X d 8 [.ref (p 24), .ref (q 0), .int v2, .int v3] (me_w (lw M L) J) o) : o = (none, me_w (lw M (x8 p q v2 v3 J L)) J) := by
  have k : nt_rn X d 8 (0, [(0, .ref (p 24)), (1, .ref (q 0)), (2, .int v2), (3, .int v3)], [], me_w (lw M L) J) o := k
  have k := ly_revb 1 (c' := (1, [(0, .ref (p 24)), (1, .ref (q 0)), (2, .int v2), (3, .int v3)], [.ref (q 0)], me_w (lw M L) J)) rfl k
  have k := lz_get (a := (q 0)) (g := 611) (M := me_w (lw M L) J) (v := .ref (q 14)) rfl (nt_gfR rfl (hq.1 (0, 11, 14) (by decide))) k
  have k := ly_revb 1 (c' := (5, [(0, .ref (p 24)), (1, .ref (q 0)), (2, .int v2), (3, .int v3)], [.int v2, .ref (q 14)], me_w (lw M L) J)) rfl k
  have k := mx_iald (v := J (q 14) v2.toNatClampNeg) rfl (hq.2.2.1 14 (by omega)) (rfl) k
  have k := ly_revb 2 (c' := (9, [(4, .int (J (q 14) v2.toNatClampNeg)), (0, .ref (p 24)), (1, .ref (q 0)), (2, .int v2), (3, .int v3)], [.ref (q 0)], me_w (lw M L) J)) rfl k
  have k := lz_get (a := (q 0)) (g := 600) (M := me_w (lw M L) J) (v := .ref (q 1)) rfl (nt_gfR rfl (hq.1 (0, 0, 1) (by decide))) k
  have k := lz_get (a := (q 1)) (g := 809) (M := me_w (lw M L) J) (v := .ref (q 6)) rfl (nt_gfR rfl (hq.1 (1, 9, 6) (by decide))) k
  have k := ly_revb 1 (c' := (16, [(4, .int (J (q 14) v2.toNatClampNeg)), (0, .ref (p 24)), (1, .ref (q 0)), (2, .int v2), (3, .int v3)], [.int v3, .ref (q 6)], me_w (lw M L) J)) rfl k
  have k := mx_iald (v := J (q 6) v3.toNatClampNeg) rfl (hq.2.2.1 6 (by omega)) (rfl) k
  have k := ly_revb 2 (c' := (20, [(5, .int (J (q 6) v3.toNatClampNeg)), (4, .int (J (q 14) v2.toNatClampNeg)), (0, .ref (p 24)), (1, .ref (q 0)), (2, .int v2), (3, .int v3)], [.ref (p 24)], me_w (lw M L) J)) rfl k
  have k := lz_get (a := (p 24)) (g := 0) (M := me_w (lw M L) J) (v := .ref (p 25)) rfl (nt_gfR rfl (hp.1 (24, 0, 25) (by decide))) k
  have k := lz_get (a := (p 25)) (g := 300) (M := me_w (lw M L) J) (v := .ref (p 26)) rfl (nt_gfR rfl (hp.1 (25, 0, 26) (by decide))) k
  have k := ly_revb 5 (c' := (33, [(6, .ref (p 26)), (5, .int (J (q 6) v3.toNatClampNeg)), (4, .int (J (q 14) v2.toNatClampNeg)), (0, .ref (p 24)), (1, .ref (q 0)), (2, .int v2), (3, .int v3)], [.long v2.toInt64, .int (Int32.ofInt 0), .ref (p 26)], me_w (lw M L) J)) rfl k
  have k := mx_last (q := 0) rfl (show (Int32.ofInt 0).toNatClampNeg = 0 from rfl) k
  have k : nt_rn X _ 8 (34, [(6, .ref (p 26)), (5, .int (J (q 6) v3.toNatClampNeg)), (4, .int (J (q 14) v2.toNatClampNeg)), (0, .ref (p 24)), (1, .ref (q 0)), (2, .int v2), (3, .int v3)], [], me_w (lw M (nt_u L (p 26) 0 v2.toInt64)) J) _ := k
  have k := ly_revb 3 (c' := (38, [(6, .ref (p 26)), (5, .int (J (q 6) v3.toNatClampNeg)), (4, .int (J (q 14) v2.toNatClampNeg)), (0, .ref (p 24)), (1, .ref (q 0)), (2, .int v2), (3, .int v3)], [.ref (q 0), .int (Int32.ofInt 1), .ref (p 26)], me_w (lw M (nt_u L (p 26) 0 v2.toInt64)) J)) rfl k
  have k := lz_get (a := (q 0)) (g := 600) (M := me_w (lw M (nt_u L (p 26) 0 v2.toInt64)) J) (v := .ref (q 1)) rfl (nt_gfR rfl (hq.1 (0, 0, 1) (by decide))) k
  have k := lz_get (a := (q 1)) (g := 806) (M := me_w (lw M (nt_u L (p 26) 0 v2.toInt64)) J) (v := .ref (q 3)) rfl (nt_gfR rfl (hq.1 (1, 6, 3) (by decide))) k
  have k := ly_revb 1 (c' := (45, [(6, .ref (p 26)), (5, .int (J (q 6) v3.toNatClampNeg)), (4, .int (J (q 14) v2.toNatClampNeg)), (0, .ref (p 24)), (1, .ref (q 0)), (2, .int v2), (3, .int v3)], [.int v2, .ref (q 3), .int (Int32.ofInt 1), .ref (p 26)], me_w (lw M (nt_u L (p 26) 0 v2.toInt64)) J)) rfl k
  have k := mx_iald (v := J (q 3) v2.toNatClampNeg) rfl (hq.2.2.1 3 (by omega)) (rfl) k
  have k := ly_revb 1 (c' := (47, [(6, .ref (p 26)), (5, .int (J (q 6) v3.toNatClampNeg)), (4, .int (J (q 14) v2.toNatClampNeg)), (0, .ref (p 24)), (1, .ref (q 0)), (2, .int v2), (3, .int v3)], [.long ((J (q 3) v2.toNatClampNeg).toInt64), .int (Int32.ofInt 1), .ref (p 26)], me_w (lw M (nt_u L (p 26) 0 v2.toInt64)) J)) rfl k
  have k := mx_last (q := 1) rfl (show (Int32.ofInt 1).toNatClampNeg = 1 from rfl) k
  have k : nt_rn X _ 8 (48, [(6, .ref (p 26)), (5, .int (J (q 6) v3.toNatClampNeg)), (4, .int (J (q 14) v2.toNatClampNeg)), (0, .ref (p 24)), (1, .ref (q 0)), (2, .int v2), (3, .int v3)], [], me_w (lw M (nt_u (nt_u L (p 26) 0 v2.toInt64) (p 26) 1 ((J (q 3) v2.toNatClampNeg).toInt64))) J) _ := k
  have k := ly_revb 3 (c' := (52, [(6, .ref (p 26)), (5, .int (J (q 6) v3.toNatClampNeg)), (4, .int (J (q 14) v2.toNatClampNeg)), (0, .ref (p 24)), (1, .ref (q 0)), (2, .int v2), (3, .int v3)], [.ref (q 0), .int (Int32.ofInt 2), .ref (p 26)], me_w (lw M (nt_u (nt_u L (p 26) 0 v2.toInt64) (p 26) 1 ((J (q 3) v2.toNatClampNeg).toInt64))) J)) rfl k
  have k := lz_get (a := (q 0)) (g := 610) (M := me_w (lw M (nt_u (nt_u L (p 26) 0 v2.toInt64) (p 26) 1 ((J (q 3) v2.toNatClampNeg).toInt64))) J) (v := .ref (q 13)) rfl (nt_gfR rfl (hq.1 (0, 10, 13) (by decide))) k
  have k := ly_revb 1 (c' := (56, [(6, .ref (p 26)), (5, .int (J (q 6) v3.toNatClampNeg)), (4, .int (J (q 14) v2.toNatClampNeg)), (0, .ref (p 24)), (1, .ref (q 0)), (2, .int v2), (3, .int v3)], [.int v2, .ref (q 13), .int (Int32.ofInt 2), .ref (p 26)], me_w (lw M (nt_u (nt_u L (p 26) 0 v2.toInt64) (p 26) 1 ((J (q 3) v2.toNatClampNeg).toInt64))) J)) rfl k
  have k := mx_iald (v := J (q 13) v2.toNatClampNeg) rfl (hq.2.2.1 13 (by omega)) (rfl) k
  have k := ly_revb 1 (c' := (58, [(6, .ref (p 26)), (5, .int (J (q 6) v3.toNatClampNeg)), (4, .int (J (q 14) v2.toNatClampNeg)), (0, .ref (p 24)), (1, .ref (q 0)), (2, .int v2), (3, .int v3)], [.long ((J (q 13) v2.toNatClampNeg).toInt64), .int (Int32.ofInt 2), .ref (p 26)], me_w (lw M (nt_u (nt_u L (p 26) 0 v2.toInt64) (p 26) 1 ((J (q 3) v2.toNatClampNeg).toInt64))) J)) rfl k
  have k := mx_last (q := 2) rfl (show (Int32.ofInt 2).toNatClampNeg = 2 from rfl) k
  have k : nt_rn X _ 8 (59, [(6, .ref (p 26)), (5, .int (J (q 6) v3.toNatClampNeg)), (4, .int (J (q 14) v2.toNatClampNeg)), (0, .ref (p 24)), (1, .ref (q 0)), (2, .int v2), (3, .int v3)], [], me_w (lw M (nt_u (nt_u (nt_u L (p 26) 0 v2.toInt64) (p 26) 1 ((J (q 3) v2.toNatClampNeg).toInt64)) (p 26) 2 ((J (q 13) v2.toNatClampNeg).toInt64))) J) _ := k
  have k := ly_revb 3 (c' := (63, [(6, .ref (p 26)), (5, .int (J (q 6) v3.toNatClampNeg)), (4, .int (J (q 14) v2.toNatClampNeg)), (0, .ref (p 24)), (1, .ref (q 0)), (2, .int v2), (3, .int v3)], [.ref (q 0), .int (Int32.ofInt 3), .ref (p 26)], me_w (lw M (nt_u (nt_u (nt_u L (p 26) 0 v2.toInt64) (p 26) 1 ((J (q 3) v2.toNatClampNeg).toInt64)) (p 26) 2 ((J (q 13) v2.toNatClampNeg).toInt64))) J)) rfl k
  have k := lz_get (a := (q 0)) (g := 600) (M := me_w (lw M (nt_u (nt_u (nt_u L (p 26) 0 v2.toInt64) (p 26) 1 ((J (q 3) v2.toNatClampNeg).toInt64)) (p 26) 2 ((J (q 13) v2.toNatClampNeg).toInt64))) J) (v := .ref (q 1)) rfl (nt_gfR rfl (hq.1 (0, 0, 1) (by decide))) k
  have k := lz_get (a := (q 1)) (g := 808) (M := me_w (lw M (nt_u (nt_u (nt_u L (p 26) 0 v2.toInt64) (p 26) 1 ((J (q 3) v2.toNatClampNeg).toInt64)) (p 26) 2 ((J (q 13) v2.toNatClampNeg).toInt64))) J) (v := .ref (q 5)) rfl (nt_gfR rfl (hq.1 (1, 8, 5) (by decide))) k
  have k := ly_revb 1 (c' := (70, [(6, .ref (p 26)), (5, .int (J (q 6) v3.toNatClampNeg)), (4, .int (J (q 14) v2.toNatClampNeg)), (0, .ref (p 24)), (1, .ref (q 0)), (2, .int v2), (3, .int v3)], [.int v2, .ref (q 5), .int (Int32.ofInt 3), .ref (p 26)], me_w (lw M (nt_u (nt_u (nt_u L (p 26) 0 v2.toInt64) (p 26) 1 ((J (q 3) v2.toNatClampNeg).toInt64)) (p 26) 2 ((J (q 13) v2.toNatClampNeg).toInt64))) J)) rfl k
  have k := mx_iald (v := J (q 5) v2.toNatClampNeg) rfl (hq.2.2.1 5 (by omega)) (rfl) k
  have k := ly_revb 1 (c' := (72, [(6, .ref (p 26)), (5, .int (J (q 6) v3.toNatClampNeg)), (4, .int (J (q 14) v2.toNatClampNeg)), (0, .ref (p 24)), (1, .ref (q 0)), (2, .int v2), (3, .int v3)], [.long ((J (q 5) v2.toNatClampNeg).toInt64), .int (Int32.ofInt 3), .ref (p 26)], me_w (lw M (nt_u (nt_u (nt_u L (p 26) 0 v2.toInt64) (p 26) 1 ((J (q 3) v2.toNatClampNeg).toInt64)) (p 26) 2 ((J (q 13) v2.toNatClampNeg).toInt64))) J)) rfl k
  have k := mx_last (q := 3) rfl (show (Int32.ofInt 3).toNatClampNeg = 3 from rfl) k
  have k : nt_rn X _ 8 (73, [(6, .ref (p 26)), (5, .int (J (q 6) v3.toNatClampNeg)), (4, .int (J (q 14) v2.toNatClampNeg)), (0, .ref (p 24)), (1, .ref (q 0)), (2, .int v2), (3, .int v3)], [], me_w (lw M (nt_u (nt_u (nt_u (nt_u L (p 26) 0 v2.toInt64) (p 26) 1 ((J (q 3) v2.toNatClampNeg).toInt64)) (p 26) 2 ((J (q 13) v2.toNatClampNeg).toInt64)) (p 26) 3 ((J (q 5) v2.toNatClampNeg).toInt64))) J) _ := k
  have k := ly_revb 4 (c' := (79, [(6, .ref (p 26)), (5, .int (J (q 6) v3.toNatClampNeg)), (4, .int (J (q 14) v2.toNatClampNeg)), (0, .ref (p 24)), (1, .ref (q 0)), (2, .int v2), (3, .int v3)], [.long ((J (q 6) v3.toNatClampNeg).toInt64), .int (Int32.ofInt 4), .ref (p 26)], me_w (lw M (nt_u (nt_u (nt_u (nt_u L (p 26) 0 v2.toInt64) (p 26) 1 ((J (q 3) v2.toNatClampNeg).toInt64)) (p 26) 2 ((J (q 13) v2.toNatClampNeg).toInt64)) (p 26) 3 ((J (q 5) v2.toNatClampNeg).toInt64))) J)) rfl k
  have k := mx_last (q := 4) rfl (show (Int32.ofInt 4).toNatClampNeg = 4 from rfl) k
  have k : nt_rn X _ 8 (80, [(6, .ref (p 26)), (5, .int (J (q 6) v3.toNatClampNeg)), (4, .int (J (q 14) v2.toNatClampNeg)), (0, .ref (p 24)), (1, .ref (q 0)), (2, .int v2), (3, .int v3)], [], me_w (lw M (nt_u (nt_u (nt_u (nt_u (nt_u L (p 26) 0 v2.toInt64) (p 26) 1 ((J (q 3) v2.toNatClampNeg).toInt64)) (p 26) 2 ((J (q 13) v2.toNatClampNeg).toInt64)) (p 26) 3 ((J (q 5) v2.toNatClampNeg).toInt64)) (p 26) 4 ((J (q 6) v3.toNatClampNeg).toInt64))) J) _ := k
  have k := ly_revb 5 (c' := (if (J (q 14) v2.toNatClampNeg) = (Int32.ofInt (-1)) then 89 else 95, [(6, .ref (p 26)), (5, .int (J (q 6) v3.toNatClampNeg)), (4, .int (J (q 14) v2.toNatClampNeg)), (0, .ref (p 24)), (1, .ref (q 0)), (2, .int v2), (3, .int v3)], [.int (Int32.ofInt 5), .ref (p 26)], me_w (lw M (nt_u (nt_u (nt_u (nt_u (nt_u L (p 26) 0 v2.toInt64) (p 26) 1 ((J (q 3) v2.toNatClampNeg).toInt64)) (p 26) 2 ((J (q 13) v2.toNatClampNeg).toInt64)) (p 26) 3 ((J (q 5) v2.toNatClampNeg).toInt64)) (p 26) 4 ((J (q 6) v3.toNatClampNeg).toInt64))) J)) rfl k
  by_cases h86 : (J (q 14) v2.toNatClampNeg) = (Int32.ofInt (-1))
  · rw [if_pos h86] at k
    have k := ly_revb 2 (c' := (98, [(6, .ref (p 26)), (5, .int (J (q 6) v3.toNatClampNeg)), (4, .int (J (q 14) v2.toNatClampNeg)), (0, .ref (p 24)), (1, .ref (q 0)), (2, .int v2), (3, .int v3)], [.long 99, .int (Int32.ofInt 5), .ref (p 26)], me_w (lw M (nt_u (nt_u (nt_u (nt_u (nt_u L (p 26) 0 v2.toInt64) (p 26) 1 ((J (q 3) v2.toNatClampNeg).toInt64)) (p 26) 2 ((J (q 13) v2.toNatClampNeg).toInt64)) (p 26) 3 ((J (q 5) v2.toNatClampNeg).toInt64)) (p 26) 4 ((J (q 6) v3.toNatClampNeg).toInt64))) J)) rfl k
    have k := mx_last (q := 5) rfl (show (Int32.ofInt 5).toNatClampNeg = 5 from rfl) k
    have k : nt_rn X _ 8 (99, [(6, .ref (p 26)), (5, .int (J (q 6) v3.toNatClampNeg)), (4, .int (J (q 14) v2.toNatClampNeg)), (0, .ref (p 24)), (1, .ref (q 0)), (2, .int v2), (3, .int v3)], [], me_w (lw M (nt_u (nt_u (nt_u (nt_u (nt_u (nt_u L (p 26) 0 v2.toInt64) (p 26) 1 ((J (q 3) v2.toNatClampNeg).toInt64)) (p 26) 2 ((J (q 13) v2.toNatClampNeg).toInt64)) (p 26) 3 ((J (q 5) v2.toNatClampNeg).toInt64)) (p 26) 4 ((J (q 6) v3.toNatClampNeg).toInt64)) (p 26) 5 99)) J) _ := k
    have k := ly_revb 3 (c' := (104, [(6, .ref (p 26)), (5, .int (J (q 6) v3.toNatClampNeg)), (4, .int (J (q 14) v2.toNatClampNeg)), (0, .ref (p 24)), (1, .ref (q 0)), (2, .int v2), (3, .int v3)], [.ref (q 0), .int (Int32.ofInt 6), .ref (p 26)], me_w (lw M (nt_u (nt_u (nt_u (nt_u (nt_u (nt_u L (p 26) 0 v2.toInt64) (p 26) 1 ((J (q 3) v2.toNatClampNeg).toInt64)) (p 26) 2 ((J (q 13) v2.toNatClampNeg).toInt64)) (p 26) 3 ((J (q 5) v2.toNatClampNeg).toInt64)) (p 26) 4 ((J (q 6) v3.toNatClampNeg).toInt64)) (p 26) 5 99)) J)) rfl k
    have k := lz_get (a := (q 0)) (g := 600) (M := me_w (lw M (nt_u (nt_u (nt_u (nt_u (nt_u (nt_u L (p 26) 0 v2.toInt64) (p 26) 1 ((J (q 3) v2.toNatClampNeg).toInt64)) (p 26) 2 ((J (q 13) v2.toNatClampNeg).toInt64)) (p 26) 3 ((J (q 5) v2.toNatClampNeg).toInt64)) (p 26) 4 ((J (q 6) v3.toNatClampNeg).toInt64)) (p 26) 5 99)) J) (v := .ref (q 1)) rfl (nt_gfR rfl (hq.1 (0, 0, 1) (by decide))) k
    have k := lz_get (a := (q 1)) (g := 808) (M := me_w (lw M (nt_u (nt_u (nt_u (nt_u (nt_u (nt_u L (p 26) 0 v2.toInt64) (p 26) 1 ((J (q 3) v2.toNatClampNeg).toInt64)) (p 26) 2 ((J (q 13) v2.toNatClampNeg).toInt64)) (p 26) 3 ((J (q 5) v2.toNatClampNeg).toInt64)) (p 26) 4 ((J (q 6) v3.toNatClampNeg).toInt64)) (p 26) 5 99)) J) (v := .ref (q 5)) rfl (nt_gfR rfl (hq.1 (1, 8, 5) (by decide))) k
    have k := ly_revb 1 (c' := (111, [(6, .ref (p 26)), (5, .int (J (q 6) v3.toNatClampNeg)), (4, .int (J (q 14) v2.toNatClampNeg)), (0, .ref (p 24)), (1, .ref (q 0)), (2, .int v2), (3, .int v3)], [.int v2, .ref (q 5), .int (Int32.ofInt 6), .ref (p 26)], me_w (lw M (nt_u (nt_u (nt_u (nt_u (nt_u (nt_u L (p 26) 0 v2.toInt64) (p 26) 1 ((J (q 3) v2.toNatClampNeg).toInt64)) (p 26) 2 ((J (q 13) v2.toNatClampNeg).toInt64)) (p 26) 3 ((J (q 5) v2.toNatClampNeg).toInt64)) (p 26) 4 ((J (q 6) v3.toNatClampNeg).toInt64)) (p 26) 5 99)) J)) rfl k
    have k := mx_iald (v := J (q 5) v2.toNatClampNeg) rfl (hq.2.2.1 5 (by omega)) (rfl) k
    have k := ly_revb 2 (c' := (if (J (q 5) v2.toNatClampNeg) = (J (q 6) v3.toNatClampNeg) then 117 else 121, [(6, .ref (p 26)), (5, .int (J (q 6) v3.toNatClampNeg)), (4, .int (J (q 14) v2.toNatClampNeg)), (0, .ref (p 24)), (1, .ref (q 0)), (2, .int v2), (3, .int v3)], [.int (Int32.ofInt 6), .ref (p 26)], me_w (lw M (nt_u (nt_u (nt_u (nt_u (nt_u (nt_u L (p 26) 0 v2.toInt64) (p 26) 1 ((J (q 3) v2.toNatClampNeg).toInt64)) (p 26) 2 ((J (q 13) v2.toNatClampNeg).toInt64)) (p 26) 3 ((J (q 5) v2.toNatClampNeg).toInt64)) (p 26) 4 ((J (q 6) v3.toNatClampNeg).toInt64)) (p 26) 5 99)) J)) rfl k
    by_cases h114 : (J (q 5) v2.toNatClampNeg) = (J (q 6) v3.toNatClampNeg)
    · rw [if_pos h114] at k
      have k := ly_revb 2 (c' := (122, [(6, .ref (p 26)), (5, .int (J (q 6) v3.toNatClampNeg)), (4, .int (J (q 14) v2.toNatClampNeg)), (0, .ref (p 24)), (1, .ref (q 0)), (2, .int v2), (3, .int v3)], [.long (Int64.ofNat 1), .int (Int32.ofInt 6), .ref (p 26)], me_w (lw M (nt_u (nt_u (nt_u (nt_u (nt_u (nt_u L (p 26) 0 v2.toInt64) (p 26) 1 ((J (q 3) v2.toNatClampNeg).toInt64)) (p 26) 2 ((J (q 13) v2.toNatClampNeg).toInt64)) (p 26) 3 ((J (q 5) v2.toNatClampNeg).toInt64)) (p 26) 4 ((J (q 6) v3.toNatClampNeg).toInt64)) (p 26) 5 99)) J)) rfl k
      have k := mx_last (q := 6) rfl (show (Int32.ofInt 6).toNatClampNeg = 6 from rfl) k
      have k : nt_rn X _ 8 (123, [(6, .ref (p 26)), (5, .int (J (q 6) v3.toNatClampNeg)), (4, .int (J (q 14) v2.toNatClampNeg)), (0, .ref (p 24)), (1, .ref (q 0)), (2, .int v2), (3, .int v3)], [], me_w (lw M (nt_u (nt_u (nt_u (nt_u (nt_u (nt_u (nt_u L (p 26) 0 v2.toInt64) (p 26) 1 ((J (q 3) v2.toNatClampNeg).toInt64)) (p 26) 2 ((J (q 13) v2.toNatClampNeg).toInt64)) (p 26) 3 ((J (q 5) v2.toNatClampNeg).toInt64)) (p 26) 4 ((J (q 6) v3.toNatClampNeg).toInt64)) (p 26) 5 99) (p 26) 6 (Int64.ofNat 1))) J) _ := k
      have k := ly_revb 3 (c' := (128, [(6, .ref (p 26)), (5, .int (J (q 6) v3.toNatClampNeg)), (4, .int (J (q 14) v2.toNatClampNeg)), (0, .ref (p 24)), (1, .ref (q 0)), (2, .int v2), (3, .int v3)], [.ref (q 0), .int (Int32.ofInt 7), .ref (p 26)], me_w (lw M (nt_u (nt_u (nt_u (nt_u (nt_u (nt_u (nt_u L (p 26) 0 v2.toInt64) (p 26) 1 ((J (q 3) v2.toNatClampNeg).toInt64)) (p 26) 2 ((J (q 13) v2.toNatClampNeg).toInt64)) (p 26) 3 ((J (q 5) v2.toNatClampNeg).toInt64)) (p 26) 4 ((J (q 6) v3.toNatClampNeg).toInt64)) (p 26) 5 99) (p 26) 6 (Int64.ofNat 1))) J)) rfl k
      have k := lz_get (a := (q 0)) (g := 602) (M := me_w (lw M (nt_u (nt_u (nt_u (nt_u (nt_u (nt_u (nt_u L (p 26) 0 v2.toInt64) (p 26) 1 ((J (q 3) v2.toNatClampNeg).toInt64)) (p 26) 2 ((J (q 13) v2.toNatClampNeg).toInt64)) (p 26) 3 ((J (q 5) v2.toNatClampNeg).toInt64)) (p 26) 4 ((J (q 6) v3.toNatClampNeg).toInt64)) (p 26) 5 99) (p 26) 6 (Int64.ofNat 1))) J) (v := .int (J (q 0) 2)) rfl (congrArg Value.int (rfl)) k
      have k := ly_revb 1 (c' := (132, [(6, .ref (p 26)), (5, .int (J (q 6) v3.toNatClampNeg)), (4, .int (J (q 14) v2.toNatClampNeg)), (0, .ref (p 24)), (1, .ref (q 0)), (2, .int v2), (3, .int v3)], [.long ((J (q 0) 2).toInt64), .int (Int32.ofInt 7), .ref (p 26)], me_w (lw M (nt_u (nt_u (nt_u (nt_u (nt_u (nt_u (nt_u L (p 26) 0 v2.toInt64) (p 26) 1 ((J (q 3) v2.toNatClampNeg).toInt64)) (p 26) 2 ((J (q 13) v2.toNatClampNeg).toInt64)) (p 26) 3 ((J (q 5) v2.toNatClampNeg).toInt64)) (p 26) 4 ((J (q 6) v3.toNatClampNeg).toInt64)) (p 26) 5 99) (p 26) 6 (Int64.ofNat 1))) J)) rfl k
      have k := mx_last (q := 7) rfl (show (Int32.ofInt 7).toNatClampNeg = 7 from rfl) k
      have k : nt_rn X _ 8 (133, [(6, .ref (p 26)), (5, .int (J (q 6) v3.toNatClampNeg)), (4, .int (J (q 14) v2.toNatClampNeg)), (0, .ref (p 24)), (1, .ref (q 0)), (2, .int v2), (3, .int v3)], [], me_w (lw M (nt_u (nt_u (nt_u (nt_u (nt_u (nt_u (nt_u (nt_u L (p 26) 0 v2.toInt64) (p 26) 1 ((J (q 3) v2.toNatClampNeg).toInt64)) (p 26) 2 ((J (q 13) v2.toNatClampNeg).toInt64)) (p 26) 3 ((J (q 5) v2.toNatClampNeg).toInt64)) (p 26) 4 ((J (q 6) v3.toNatClampNeg).toInt64)) (p 26) 5 99) (p 26) 6 (Int64.ofNat 1)) (p 26) 7 ((J (q 0) 2).toInt64))) J) _ := k
      have k := ly_revb 3 (c' := (138, [(6, .ref (p 26)), (5, .int (J (q 6) v3.toNatClampNeg)), (4, .int (J (q 14) v2.toNatClampNeg)), (0, .ref (p 24)), (1, .ref (q 0)), (2, .int v2), (3, .int v3)], [.ref (q 0), .int (Int32.ofInt 8), .ref (p 26)], me_w (lw M (nt_u (nt_u (nt_u (nt_u (nt_u (nt_u (nt_u (nt_u L (p 26) 0 v2.toInt64) (p 26) 1 ((J (q 3) v2.toNatClampNeg).toInt64)) (p 26) 2 ((J (q 13) v2.toNatClampNeg).toInt64)) (p 26) 3 ((J (q 5) v2.toNatClampNeg).toInt64)) (p 26) 4 ((J (q 6) v3.toNatClampNeg).toInt64)) (p 26) 5 99) (p 26) 6 (Int64.ofNat 1)) (p 26) 7 ((J (q 0) 2).toInt64))) J)) rfl k
      have k := lz_get (a := (q 0)) (g := 603) (M := me_w (lw M (nt_u (nt_u (nt_u (nt_u (nt_u (nt_u (nt_u (nt_u L (p 26) 0 v2.toInt64) (p 26) 1 ((J (q 3) v2.toNatClampNeg).toInt64)) (p 26) 2 ((J (q 13) v2.toNatClampNeg).toInt64)) (p 26) 3 ((J (q 5) v2.toNatClampNeg).toInt64)) (p 26) 4 ((J (q 6) v3.toNatClampNeg).toInt64)) (p 26) 5 99) (p 26) 6 (Int64.ofNat 1)) (p 26) 7 ((J (q 0) 2).toInt64))) J) (v := .int (J (q 0) 3)) rfl (congrArg Value.int (rfl)) k
      have k := ly_revb 1 (c' := (142, [(6, .ref (p 26)), (5, .int (J (q 6) v3.toNatClampNeg)), (4, .int (J (q 14) v2.toNatClampNeg)), (0, .ref (p 24)), (1, .ref (q 0)), (2, .int v2), (3, .int v3)], [.long ((J (q 0) 3).toInt64), .int (Int32.ofInt 8), .ref (p 26)], me_w (lw M (nt_u (nt_u (nt_u (nt_u (nt_u (nt_u (nt_u (nt_u L (p 26) 0 v2.toInt64) (p 26) 1 ((J (q 3) v2.toNatClampNeg).toInt64)) (p 26) 2 ((J (q 13) v2.toNatClampNeg).toInt64)) (p 26) 3 ((J (q 5) v2.toNatClampNeg).toInt64)) (p 26) 4 ((J (q 6) v3.toNatClampNeg).toInt64)) (p 26) 5 99) (p 26) 6 (Int64.ofNat 1)) (p 26) 7 ((J (q 0) 2).toInt64))) J)) rfl k
      have k := mx_last (q := 8) rfl (show (Int32.ofInt 8).toNatClampNeg = 8 from rfl) k
      have k : nt_rn X _ 8 (143, [(6, .ref (p 26)), (5, .int (J (q 6) v3.toNatClampNeg)), (4, .int (J (q 14) v2.toNatClampNeg)), (0, .ref (p 24)), (1, .ref (q 0)), (2, .int v2), (3, .int v3)], [], me_w (lw M (nt_u (nt_u (nt_u (nt_u (nt_u (nt_u (nt_u (nt_u (nt_u L (p 26) 0 v2.toInt64) (p 26) 1 ((J (q 3) v2.toNatClampNeg).toInt64)) (p 26) 2 ((J (q 13) v2.toNatClampNeg).toInt64)) (p 26) 3 ((J (q 5) v2.toNatClampNeg).toInt64)) (p 26) 4 ((J (q 6) v3.toNatClampNeg).toInt64)) (p 26) 5 99) (p 26) 6 (Int64.ofNat 1)) (p 26) 7 ((J (q 0) 2).toInt64)) (p 26) 8 ((J (q 0) 3).toInt64))) J) _ := k
      have k := ly_revb 3 (c' := (148, [(6, .ref (p 26)), (5, .int (J (q 6) v3.toNatClampNeg)), (4, .int (J (q 14) v2.toNatClampNeg)), (0, .ref (p 24)), (1, .ref (q 0)), (2, .int v2), (3, .int v3)], [.ref (q 0), .int (Int32.ofInt 9), .ref (p 26)], me_w (lw M (nt_u (nt_u (nt_u (nt_u (nt_u (nt_u (nt_u (nt_u (nt_u L (p 26) 0 v2.toInt64) (p 26) 1 ((J (q 3) v2.toNatClampNeg).toInt64)) (p 26) 2 ((J (q 13) v2.toNatClampNeg).toInt64)) (p 26) 3 ((J (q 5) v2.toNatClampNeg).toInt64)) (p 26) 4 ((J (q 6) v3.toNatClampNeg).toInt64)) (p 26) 5 99) (p 26) 6 (Int64.ofNat 1)) (p 26) 7 ((J (q 0) 2).toInt64)) (p 26) 8 ((J (q 0) 3).toInt64))) J)) rfl k
      have k := lz_get (a := (q 0)) (g := 600) (M := me_w (lw M (nt_u (nt_u (nt_u (nt_u (nt_u (nt_u (nt_u (nt_u (nt_u L (p 26) 0 v2.toInt64) (p 26) 1 ((J (q 3) v2.toNatClampNeg).toInt64)) (p 26) 2 ((J (q 13) v2.toNatClampNeg).toInt64)) (p 26) 3 ((J (q 5) v2.toNatClampNeg).toInt64)) (p 26) 4 ((J (q 6) v3.toNatClampNeg).toInt64)) (p 26) 5 99) (p 26) 6 (Int64.ofNat 1)) (p 26) 7 ((J (q 0) 2).toInt64)) (p 26) 8 ((J (q 0) 3).toInt64))) J) (v := .ref (q 1)) rfl (nt_gfR rfl (hq.1 (0, 0, 1) (by decide))) k
      have k := ly_revb 1 (c' := (152, [(6, .ref (p 26)), (5, .int (J (q 6) v3.toNatClampNeg)), (4, .int (J (q 14) v2.toNatClampNeg)), (0, .ref (p 24)), (1, .ref (q 0)), (2, .int v2), (3, .int v3)], [.int v3, .ref (q 1), .int (Int32.ofInt 9), .ref (p 26)], me_w (lw M (nt_u (nt_u (nt_u (nt_u (nt_u (nt_u (nt_u (nt_u (nt_u L (p 26) 0 v2.toInt64) (p 26) 1 ((J (q 3) v2.toNatClampNeg).toInt64)) (p 26) 2 ((J (q 13) v2.toNatClampNeg).toInt64)) (p 26) 3 ((J (q 5) v2.toNatClampNeg).toInt64)) (p 26) 4 ((J (q 6) v3.toNatClampNeg).toInt64)) (p 26) 5 99) (p 26) 6 (Int64.ofNat 1)) (p 26) 7 ((J (q 0) 2).toInt64)) (p 26) 8 ((J (q 0) 3).toInt64))) J)) rfl k
      obtain ⟨d1, o1, ed, kc, k⟩ := lz_c (g := 89) (q := 1) (vs := [.ref (q 1), .int v3]) (rest := [.int (Int32.ofInt 9), .ref (p 26)]) rfl rfl (by decide) (Or.inr (Or.inl ⟨_, rfl, rfl⟩)) rfl k
      have e1 := xt89 (xs_lq hq) kc
      subst e1
      have k : nt_rn X _ 8 (155, [(6, .ref (p 26)), (5, .int (J (q 6) v3.toNatClampNeg)), (4, .int (J (q 14) v2.toNatClampNeg)), (0, .ref (p 24)), (1, .ref (q 0)), (2, .int v2), (3, .int v3)], [.int (x89 q v3 J), .int (Int32.ofInt 9), .ref (p 26)], me_w (lw M (nt_u (nt_u (nt_u (nt_u (nt_u (nt_u (nt_u (nt_u (nt_u L (p 26) 0 v2.toInt64) (p 26) 1 ((J (q 3) v2.toNatClampNeg).toInt64)) (p 26) 2 ((J (q 13) v2.toNatClampNeg).toInt64)) (p 26) 3 ((J (q 5) v2.toNatClampNeg).toInt64)) (p 26) 4 ((J (q 6) v3.toNatClampNeg).toInt64)) (p 26) 5 99) (p 26) 6 (Int64.ofNat 1)) (p 26) 7 ((J (q 0) 2).toInt64)) (p 26) 8 ((J (q 0) 3).toInt64))) J) _ := k
      have k := ly_revb 1 (c' := (156, [(6, .ref (p 26)), (5, .int (J (q 6) v3.toNatClampNeg)), (4, .int (J (q 14) v2.toNatClampNeg)), (0, .ref (p 24)), (1, .ref (q 0)), (2, .int v2), (3, .int v3)], [.long ((x89 q v3 J).toInt64), .int (Int32.ofInt 9), .ref (p 26)], me_w (lw M (nt_u (nt_u (nt_u (nt_u (nt_u (nt_u (nt_u (nt_u (nt_u L (p 26) 0 v2.toInt64) (p 26) 1 ((J (q 3) v2.toNatClampNeg).toInt64)) (p 26) 2 ((J (q 13) v2.toNatClampNeg).toInt64)) (p 26) 3 ((J (q 5) v2.toNatClampNeg).toInt64)) (p 26) 4 ((J (q 6) v3.toNatClampNeg).toInt64)) (p 26) 5 99) (p 26) 6 (Int64.ofNat 1)) (p 26) 7 ((J (q 0) 2).toInt64)) (p 26) 8 ((J (q 0) 3).toInt64))) J)) rfl k
      have k := mx_last (q := 9) rfl (show (Int32.ofInt 9).toNatClampNeg = 9 from rfl) k
      have k : nt_rn X _ 8 (157, [(6, .ref (p 26)), (5, .int (J (q 6) v3.toNatClampNeg)), (4, .int (J (q 14) v2.toNatClampNeg)), (0, .ref (p 24)), (1, .ref (q 0)), (2, .int v2), (3, .int v3)], [], me_w (lw M (nt_u (nt_u (nt_u (nt_u (nt_u (nt_u (nt_u (nt_u (nt_u (nt_u L (p 26) 0 v2.toInt64) (p 26) 1 ((J (q 3) v2.toNatClampNeg).toInt64)) (p 26) 2 ((J (q 13) v2.toNatClampNeg).toInt64)) (p 26) 3 ((J (q 5) v2.toNatClampNeg).toInt64)) (p 26) 4 ((J (q 6) v3.toNatClampNeg).toInt64)) (p 26) 5 99) (p 26) 6 (Int64.ofNat 1)) (p 26) 7 ((J (q 0) 2).toInt64)) (p 26) 8 ((J (q 0) 3).toInt64)) (p 26) 9 ((x89 q v3 J).toInt64))) J) _ := k
      have k := lz_rv rfl rfl k
      rw [k, x8, if_pos h86, if_pos h114]
    · rw [if_neg h114] at k
      have k := ly_revb 1 (c' := (122, [(6, .ref (p 26)), (5, .int (J (q 6) v3.toNatClampNeg)), (4, .int (J (q 14) v2.toNatClampNeg)), (0, .ref (p 24)), (1, .ref (q 0)), (2, .int v2), (3, .int v3)], [.long (Int64.ofNat 0), .int (Int32.ofInt 6), .ref (p 26)], me_w (lw M (nt_u (nt_u (nt_u (nt_u (nt_u (nt_u L (p 26) 0 v2.toInt64) (p 26) 1 ((J (q 3) v2.toNatClampNeg).toInt64)) (p 26) 2 ((J (q 13) v2.toNatClampNeg).toInt64)) (p 26) 3 ((J (q 5) v2.toNatClampNeg).toInt64)) (p 26) 4 ((J (q 6) v3.toNatClampNeg).toInt64)) (p 26) 5 99)) J)) rfl k
      have k := mx_last (q := 6) rfl (show (Int32.ofInt 6).toNatClampNeg = 6 from rfl) k
      have k : nt_rn X _ 8 (123, [(6, .ref (p 26)), (5, .int (J (q 6) v3.toNatClampNeg)), (4, .int (J (q 14) v2.toNatClampNeg)), (0, .ref (p 24)), (1, .ref (q 0)), (2, .int v2), (3, .int v3)], [], me_w (lw M (nt_u (nt_u (nt_u (nt_u (nt_u (nt_u (nt_u L (p 26) 0 v2.toInt64) (p 26) 1 ((J (q 3) v2.toNatClampNeg).toInt64)) (p 26) 2 ((J (q 13) v2.toNatClampNeg).toInt64)) (p 26) 3 ((J (q 5) v2.toNatClampNeg).toInt64)) (p 26) 4 ((J (q 6) v3.toNatClampNeg).toInt64)) (p 26) 5 99) (p 26) 6 (Int64.ofNat 0))) J) _ := k
      have k := ly_revb 3 (c' := (128, [(6, .ref (p 26)), (5, .int (J (q 6) v3.toNatClampNeg)), (4, .int (J (q 14) v2.toNatClampNeg)), (0, .ref (p 24)), (1, .ref (q 0)), (2, .int v2), (3, .int v3)], [.ref (q 0), .int (Int32.ofInt 7), .ref (p 26)], me_w (lw M (nt_u (nt_u (nt_u (nt_u (nt_u (nt_u (nt_u L (p 26) 0 v2.toInt64) (p 26) 1 ((J (q 3) v2.toNatClampNeg).toInt64)) (p 26) 2 ((J (q 13) v2.toNatClampNeg).toInt64)) (p 26) 3 ((J (q 5) v2.toNatClampNeg).toInt64)) (p 26) 4 ((J (q 6) v3.toNatClampNeg).toInt64)) (p 26) 5 99) (p 26) 6 (Int64.ofNat 0))) J)) rfl k
      have k := lz_get (a := (q 0)) (g := 602) (M := me_w (lw M (nt_u (nt_u (nt_u (nt_u (nt_u (nt_u (nt_u L (p 26) 0 v2.toInt64) (p 26) 1 ((J (q 3) v2.toNatClampNeg).toInt64)) (p 26) 2 ((J (q 13) v2.toNatClampNeg).toInt64)) (p 26) 3 ((J (q 5) v2.toNatClampNeg).toInt64)) (p 26) 4 ((J (q 6) v3.toNatClampNeg).toInt64)) (p 26) 5 99) (p 26) 6 (Int64.ofNat 0))) J) (v := .int (J (q 0) 2)) rfl (congrArg Value.int (rfl)) k
      have k := ly_revb 1 (c' := (132, [(6, .ref (p 26)), (5, .int (J (q 6) v3.toNatClampNeg)), (4, .int (J (q 14) v2.toNatClampNeg)), (0, .ref (p 24)), (1, .ref (q 0)), (2, .int v2), (3, .int v3)], [.long ((J (q 0) 2).toInt64), .int (Int32.ofInt 7), .ref (p 26)], me_w (lw M (nt_u (nt_u (nt_u (nt_u (nt_u (nt_u (nt_u L (p 26) 0 v2.toInt64) (p 26) 1 ((J (q 3) v2.toNatClampNeg).toInt64)) (p 26) 2 ((J (q 13) v2.toNatClampNeg).toInt64)) (p 26) 3 ((J (q 5) v2.toNatClampNeg).toInt64)) (p 26) 4 ((J (q 6) v3.toNatClampNeg).toInt64)) (p 26) 5 99) (p 26) 6 (Int64.ofNat 0))) J)) rfl k
      have k := mx_last (q := 7) rfl (show (Int32.ofInt 7).toNatClampNeg = 7 from rfl) k
      have k : nt_rn X _ 8 (133, [(6, .ref (p 26)), (5, .int (J (q 6) v3.toNatClampNeg)), (4, .int (J (q 14) v2.toNatClampNeg)), (0, .ref (p 24)), (1, .ref (q 0)), (2, .int v2), (3, .int v3)], [], me_w (lw M (nt_u (nt_u (nt_u (nt_u (nt_u (nt_u (nt_u (nt_u L (p 26) 0 v2.toInt64) (p 26) 1 ((J (q 3) v2.toNatClampNeg).toInt64)) (p 26) 2 ((J (q 13) v2.toNatClampNeg).toInt64)) (p 26) 3 ((J (q 5) v2.toNatClampNeg).toInt64)) (p 26) 4 ((J (q 6) v3.toNatClampNeg).toInt64)) (p 26) 5 99) (p 26) 6 (Int64.ofNat 0)) (p 26) 7 ((J (q 0) 2).toInt64))) J) _ := k
      have k := ly_revb 3 (c' := (138, [(6, .ref (p 26)), (5, .int (J (q 6) v3.toNatClampNeg)), (4, .int (J (q 14) v2.toNatClampNeg)), (0, .ref (p 24)), (1, .ref (q 0)), (2, .int v2), (3, .int v3)], [.ref (q 0), .int (Int32.ofInt 8), .ref (p 26)], me_w (lw M (nt_u (nt_u (nt_u (nt_u (nt_u (nt_u (nt_u (nt_u L (p 26) 0 v2.toInt64) (p 26) 1 ((J (q 3) v2.toNatClampNeg).toInt64)) (p 26) 2 ((J (q 13) v2.toNatClampNeg).toInt64)) (p 26) 3 ((J (q 5) v2.toNatClampNeg).toInt64)) (p 26) 4 ((J (q 6) v3.toNatClampNeg).toInt64)) (p 26) 5 99) (p 26) 6 (Int64.ofNat 0)) (p 26) 7 ((J (q 0) 2).toInt64))) J)) rfl k
      have k := lz_get (a := (q 0)) (g := 603) (M := me_w (lw M (nt_u (nt_u (nt_u (nt_u (nt_u (nt_u (nt_u (nt_u L (p 26) 0 v2.toInt64) (p 26) 1 ((J (q 3) v2.toNatClampNeg).toInt64)) (p 26) 2 ((J (q 13) v2.toNatClampNeg).toInt64)) (p 26) 3 ((J (q 5) v2.toNatClampNeg).toInt64)) (p 26) 4 ((J (q 6) v3.toNatClampNeg).toInt64)) (p 26) 5 99) (p 26) 6 (Int64.ofNat 0)) (p 26) 7 ((J (q 0) 2).toInt64))) J) (v := .int (J (q 0) 3)) rfl (congrArg Value.int (rfl)) k
      have k := ly_revb 1 (c' := (142, [(6, .ref (p 26)), (5, .int (J (q 6) v3.toNatClampNeg)), (4, .int (J (q 14) v2.toNatClampNeg)), (0, .ref (p 24)), (1, .ref (q 0)), (2, .int v2), (3, .int v3)], [.long ((J (q 0) 3).toInt64), .int (Int32.ofInt 8), .ref (p 26)], me_w (lw M (nt_u (nt_u (nt_u (nt_u (nt_u (nt_u (nt_u (nt_u L (p 26) 0 v2.toInt64) (p 26) 1 ((J (q 3) v2.toNatClampNeg).toInt64)) (p 26) 2 ((J (q 13) v2.toNatClampNeg).toInt64)) (p 26) 3 ((J (q 5) v2.toNatClampNeg).toInt64)) (p 26) 4 ((J (q 6) v3.toNatClampNeg).toInt64)) (p 26) 5 99) (p 26) 6 (Int64.ofNat 0)) (p 26) 7 ((J (q 0) 2).toInt64))) J)) rfl k
      have k := mx_last (q := 8) rfl (show (Int32.ofInt 8).toNatClampNeg = 8 from rfl) k
      have k : nt_rn X _ 8 (143, [(6, .ref (p 26)), (5, .int (J (q 6) v3.toNatClampNeg)), (4, .int (J (q 14) v2.toNatClampNeg)), (0, .ref (p 24)), (1, .ref (q 0)), (2, .int v2), (3, .int v3)], [], me_w (lw M (nt_u (nt_u (nt_u (nt_u (nt_u (nt_u (nt_u (nt_u (nt_u L (p 26) 0 v2.toInt64) (p 26) 1 ((J (q 3) v2.toNatClampNeg).toInt64)) (p 26) 2 ((J (q 13) v2.toNatClampNeg).toInt64)) (p 26) 3 ((J (q 5) v2.toNatClampNeg).toInt64)) (p 26) 4 ((J (q 6) v3.toNatClampNeg).toInt64)) (p 26) 5 99) (p 26) 6 (Int64.ofNat 0)) (p 26) 7 ((J (q 0) 2).toInt64)) (p 26) 8 ((J (q 0) 3).toInt64))) J) _ := k
      have k := ly_revb 3 (c' := (148, [(6, .ref (p 26)), (5, .int (J (q 6) v3.toNatClampNeg)), (4, .int (J (q 14) v2.toNatClampNeg)), (0, .ref (p 24)), (1, .ref (q 0)), (2, .int v2), (3, .int v3)], [.ref (q 0), .int (Int32.ofInt 9), .ref (p 26)], me_w (lw M (nt_u (nt_u (nt_u (nt_u (nt_u (nt_u (nt_u (nt_u (nt_u L (p 26) 0 v2.toInt64) (p 26) 1 ((J (q 3) v2.toNatClampNeg).toInt64)) (p 26) 2 ((J (q 13) v2.toNatClampNeg).toInt64)) (p 26) 3 ((J (q 5) v2.toNatClampNeg).toInt64)) (p 26) 4 ((J (q 6) v3.toNatClampNeg).toInt64)) (p 26) 5 99) (p 26) 6 (Int64.ofNat 0)) (p 26) 7 ((J (q 0) 2).toInt64)) (p 26) 8 ((J (q 0) 3).toInt64))) J)) rfl k
      have k := lz_get (a := (q 0)) (g := 600) (M := me_w (lw M (nt_u (nt_u (nt_u (nt_u (nt_u (nt_u (nt_u (nt_u (nt_u L (p 26) 0 v2.toInt64) (p 26) 1 ((J (q 3) v2.toNatClampNeg).toInt64)) (p 26) 2 ((J (q 13) v2.toNatClampNeg).toInt64)) (p 26) 3 ((J (q 5) v2.toNatClampNeg).toInt64)) (p 26) 4 ((J (q 6) v3.toNatClampNeg).toInt64)) (p 26) 5 99) (p 26) 6 (Int64.ofNat 0)) (p 26) 7 ((J (q 0) 2).toInt64)) (p 26) 8 ((J (q 0) 3).toInt64))) J) (v := .ref (q 1)) rfl (nt_gfR rfl (hq.1 (0, 0, 1) (by decide))) k
      have k := ly_revb 1 (c' := (152, [(6, .ref (p 26)), (5, .int (J (q 6) v3.toNatClampNeg)), (4, .int (J (q 14) v2.toNatClampNeg)), (0, .ref (p 24)), (1, .ref (q 0)), (2, .int v2), (3, .int v3)], [.int v3, .ref (q 1), .int (Int32.ofInt 9), .ref (p 26)], me_w (lw M (nt_u (nt_u (nt_u (nt_u (nt_u (nt_u (nt_u (nt_u (nt_u L (p 26) 0 v2.toInt64) (p 26) 1 ((J (q 3) v2.toNatClampNeg).toInt64)) (p 26) 2 ((J (q 13) v2.toNatClampNeg).toInt64)) (p 26) 3 ((J (q 5) v2.toNatClampNeg).toInt64)) (p 26) 4 ((J (q 6) v3.toNatClampNeg).toInt64)) (p 26) 5 99) (p 26) 6 (Int64.ofNat 0)) (p 26) 7 ((J (q 0) 2).toInt64)) (p 26) 8 ((J (q 0) 3).toInt64))) J)) rfl k
      obtain ⟨d1, o1, ed, kc, k⟩ := lz_c (g := 89) (q := 1) (vs := [.ref (q 1), .int v3]) (rest := [.int (Int32.ofInt 9), .ref (p 26)]) rfl rfl (by decide) (Or.inr (Or.inl ⟨_, rfl, rfl⟩)) rfl k
      have e1 := xt89 (xs_lq hq) kc
      subst e1
      have k : nt_rn X _ 8 (155, [(6, .ref (p 26)), (5, .int (J (q 6) v3.toNatClampNeg)), (4, .int (J (q 14) v2.toNatClampNeg)), (0, .ref (p 24)), (1, .ref (q 0)), (2, .int v2), (3, .int v3)], [.int (x89 q v3 J), .int (Int32.ofInt 9), .ref (p 26)], me_w (lw M (nt_u (nt_u (nt_u (nt_u (nt_u (nt_u (nt_u (nt_u (nt_u L (p 26) 0 v2.toInt64) (p 26) 1 ((J (q 3) v2.toNatClampNeg).toInt64)) (p 26) 2 ((J (q 13) v2.toNatClampNeg).toInt64)) (p 26) 3 ((J (q 5) v2.toNatClampNeg).toInt64)) (p 26) 4 ((J (q 6) v3.toNatClampNeg).toInt64)) (p 26) 5 99) (p 26) 6 (Int64.ofNat 0)) (p 26) 7 ((J (q 0) 2).toInt64)) (p 26) 8 ((J (q 0) 3).toInt64))) J) _ := k
      have k := ly_revb 1 (c' := (156, [(6, .ref (p 26)), (5, .int (J (q 6) v3.toNatClampNeg)), (4, .int (J (q 14) v2.toNatClampNeg)), (0, .ref (p 24)), (1, .ref (q 0)), (2, .int v2), (3, .int v3)], [.long ((x89 q v3 J).toInt64), .int (Int32.ofInt 9), .ref (p 26)], me_w (lw M (nt_u (nt_u (nt_u (nt_u (nt_u (nt_u (nt_u (nt_u (nt_u L (p 26) 0 v2.toInt64) (p 26) 1 ((J (q 3) v2.toNatClampNeg).toInt64)) (p 26) 2 ((J (q 13) v2.toNatClampNeg).toInt64)) (p 26) 3 ((J (q 5) v2.toNatClampNeg).toInt64)) (p 26) 4 ((J (q 6) v3.toNatClampNeg).toInt64)) (p 26) 5 99) (p 26) 6 (Int64.ofNat 0)) (p 26) 7 ((J (q 0) 2).toInt64)) (p 26) 8 ((J (q 0) 3).toInt64))) J)) rfl k
      have k := mx_last (q := 9) rfl (show (Int32.ofInt 9).toNatClampNeg = 9 from rfl) k
      have k : nt_rn X _ 8 (157, [(6, .ref (p 26)), (5, .int (J (q 6) v3.toNatClampNeg)), (4, .int (J (q 14) v2.toNatClampNeg)), (0, .ref (p 24)), (1, .ref (q 0)), (2, .int v2), (3, .int v3)], [], me_w (lw M (nt_u (nt_u (nt_u (nt_u (nt_u (nt_u (nt_u (nt_u (nt_u (nt_u L (p 26) 0 v2.toInt64) (p 26) 1 ((J (q 3) v2.toNatClampNeg).toInt64)) (p 26) 2 ((J (q 13) v2.toNatClampNeg).toInt64)) (p 26) 3 ((J (q 5) v2.toNatClampNeg).toInt64)) (p 26) 4 ((J (q 6) v3.toNatClampNeg).toInt64)) (p 26) 5 99) (p 26) 6 (Int64.ofNat 0)) (p 26) 7 ((J (q 0) 2).toInt64)) (p 26) 8 ((J (q 0) 3).toInt64)) (p 26) 9 ((x89 q v3 J).toInt64))) J) _ := k
      have k := lz_rv rfl rfl k
      rw [k, x8, if_pos h86, if_neg h114]
  · rw [if_neg h86] at k
    have k := ly_revb 2 (c' := (98, [(6, .ref (p 26)), (5, .int (J (q 6) v3.toNatClampNeg)), (4, .int (J (q 14) v2.toNatClampNeg)), (0, .ref (p 24)), (1, .ref (q 0)), (2, .int v2), (3, .int v3)], [.long ((J (q 14) v2.toNatClampNeg).toInt64), .int (Int32.ofInt 5), .ref (p 26)], me_w (lw M (nt_u (nt_u (nt_u (nt_u (nt_u L (p 26) 0 v2.toInt64) (p 26) 1 ((J (q 3) v2.toNatClampNeg).toInt64)) (p 26) 2 ((J (q 13) v2.toNatClampNeg).toInt64)) (p 26) 3 ((J (q 5) v2.toNatClampNeg).toInt64)) (p 26) 4 ((J (q 6) v3.toNatClampNeg).toInt64))) J)) rfl k
    have k := mx_last (q := 5) rfl (show (Int32.ofInt 5).toNatClampNeg = 5 from rfl) k
    have k : nt_rn X _ 8 (99, [(6, .ref (p 26)), (5, .int (J (q 6) v3.toNatClampNeg)), (4, .int (J (q 14) v2.toNatClampNeg)), (0, .ref (p 24)), (1, .ref (q 0)), (2, .int v2), (3, .int v3)], [], me_w (lw M (nt_u (nt_u (nt_u (nt_u (nt_u (nt_u L (p 26) 0 v2.toInt64) (p 26) 1 ((J (q 3) v2.toNatClampNeg).toInt64)) (p 26) 2 ((J (q 13) v2.toNatClampNeg).toInt64)) (p 26) 3 ((J (q 5) v2.toNatClampNeg).toInt64)) (p 26) 4 ((J (q 6) v3.toNatClampNeg).toInt64)) (p 26) 5 ((J (q 14) v2.toNatClampNeg).toInt64))) J) _ := k
    have k := ly_revb 3 (c' := (104, [(6, .ref (p 26)), (5, .int (J (q 6) v3.toNatClampNeg)), (4, .int (J (q 14) v2.toNatClampNeg)), (0, .ref (p 24)), (1, .ref (q 0)), (2, .int v2), (3, .int v3)], [.ref (q 0), .int (Int32.ofInt 6), .ref (p 26)], me_w (lw M (nt_u (nt_u (nt_u (nt_u (nt_u (nt_u L (p 26) 0 v2.toInt64) (p 26) 1 ((J (q 3) v2.toNatClampNeg).toInt64)) (p 26) 2 ((J (q 13) v2.toNatClampNeg).toInt64)) (p 26) 3 ((J (q 5) v2.toNatClampNeg).toInt64)) (p 26) 4 ((J (q 6) v3.toNatClampNeg).toInt64)) (p 26) 5 ((J (q 14) v2.toNatClampNeg).toInt64))) J)) rfl k
    have k := lz_get (a := (q 0)) (g := 600) (M := me_w (lw M (nt_u (nt_u (nt_u (nt_u (nt_u (nt_u L (p 26) 0 v2.toInt64) (p 26) 1 ((J (q 3) v2.toNatClampNeg).toInt64)) (p 26) 2 ((J (q 13) v2.toNatClampNeg).toInt64)) (p 26) 3 ((J (q 5) v2.toNatClampNeg).toInt64)) (p 26) 4 ((J (q 6) v3.toNatClampNeg).toInt64)) (p 26) 5 ((J (q 14) v2.toNatClampNeg).toInt64))) J) (v := .ref (q 1)) rfl (nt_gfR rfl (hq.1 (0, 0, 1) (by decide))) k
    have k := lz_get (a := (q 1)) (g := 808) (M := me_w (lw M (nt_u (nt_u (nt_u (nt_u (nt_u (nt_u L (p 26) 0 v2.toInt64) (p 26) 1 ((J (q 3) v2.toNatClampNeg).toInt64)) (p 26) 2 ((J (q 13) v2.toNatClampNeg).toInt64)) (p 26) 3 ((J (q 5) v2.toNatClampNeg).toInt64)) (p 26) 4 ((J (q 6) v3.toNatClampNeg).toInt64)) (p 26) 5 ((J (q 14) v2.toNatClampNeg).toInt64))) J) (v := .ref (q 5)) rfl (nt_gfR rfl (hq.1 (1, 8, 5) (by decide))) k
    have k := ly_revb 1 (c' := (111, [(6, .ref (p 26)), (5, .int (J (q 6) v3.toNatClampNeg)), (4, .int (J (q 14) v2.toNatClampNeg)), (0, .ref (p 24)), (1, .ref (q 0)), (2, .int v2), (3, .int v3)], [.int v2, .ref (q 5), .int (Int32.ofInt 6), .ref (p 26)], me_w (lw M (nt_u (nt_u (nt_u (nt_u (nt_u (nt_u L (p 26) 0 v2.toInt64) (p 26) 1 ((J (q 3) v2.toNatClampNeg).toInt64)) (p 26) 2 ((J (q 13) v2.toNatClampNeg).toInt64)) (p 26) 3 ((J (q 5) v2.toNatClampNeg).toInt64)) (p 26) 4 ((J (q 6) v3.toNatClampNeg).toInt64)) (p 26) 5 ((J (q 14) v2.toNatClampNeg).toInt64))) J)) rfl k
    have k := mx_iald (v := J (q 5) v2.toNatClampNeg) rfl (hq.2.2.1 5 (by omega)) (rfl) k
    have k := ly_revb 2 (c' := (if (J (q 5) v2.toNatClampNeg) = (J (q 6) v3.toNatClampNeg) then 117 else 121, [(6, .ref (p 26)), (5, .int (J (q 6) v3.toNatClampNeg)), (4, .int (J (q 14) v2.toNatClampNeg)), (0, .ref (p 24)), (1, .ref (q 0)), (2, .int v2), (3, .int v3)], [.int (Int32.ofInt 6), .ref (p 26)], me_w (lw M (nt_u (nt_u (nt_u (nt_u (nt_u (nt_u L (p 26) 0 v2.toInt64) (p 26) 1 ((J (q 3) v2.toNatClampNeg).toInt64)) (p 26) 2 ((J (q 13) v2.toNatClampNeg).toInt64)) (p 26) 3 ((J (q 5) v2.toNatClampNeg).toInt64)) (p 26) 4 ((J (q 6) v3.toNatClampNeg).toInt64)) (p 26) 5 ((J (q 14) v2.toNatClampNeg).toInt64))) J)) rfl k
    by_cases h114 : (J (q 5) v2.toNatClampNeg) = (J (q 6) v3.toNatClampNeg)
    · rw [if_pos h114] at k
      have k := ly_revb 2 (c' := (122, [(6, .ref (p 26)), (5, .int (J (q 6) v3.toNatClampNeg)), (4, .int (J (q 14) v2.toNatClampNeg)), (0, .ref (p 24)), (1, .ref (q 0)), (2, .int v2), (3, .int v3)], [.long (Int64.ofNat 1), .int (Int32.ofInt 6), .ref (p 26)], me_w (lw M (nt_u (nt_u (nt_u (nt_u (nt_u (nt_u L (p 26) 0 v2.toInt64) (p 26) 1 ((J (q 3) v2.toNatClampNeg).toInt64)) (p 26) 2 ((J (q 13) v2.toNatClampNeg).toInt64)) (p 26) 3 ((J (q 5) v2.toNatClampNeg).toInt64)) (p 26) 4 ((J (q 6) v3.toNatClampNeg).toInt64)) (p 26) 5 ((J (q 14) v2.toNatClampNeg).toInt64))) J)) rfl k
      have k := mx_last (q := 6) rfl (show (Int32.ofInt 6).toNatClampNeg = 6 from rfl) k
      have k : nt_rn X _ 8 (123, [(6, .ref (p 26)), (5, .int (J (q 6) v3.toNatClampNeg)), (4, .int (J (q 14) v2.toNatClampNeg)), (0, .ref (p 24)), (1, .ref (q 0)), (2, .int v2), (3, .int v3)], [], me_w (lw M (nt_u (nt_u (nt_u (nt_u (nt_u (nt_u (nt_u L (p 26) 0 v2.toInt64) (p 26) 1 ((J (q 3) v2.toNatClampNeg).toInt64)) (p 26) 2 ((J (q 13) v2.toNatClampNeg).toInt64)) (p 26) 3 ((J (q 5) v2.toNatClampNeg).toInt64)) (p 26) 4 ((J (q 6) v3.toNatClampNeg).toInt64)) (p 26) 5 ((J (q 14) v2.toNatClampNeg).toInt64)) (p 26) 6 (Int64.ofNat 1))) J) _ := k
      have k := ly_revb 3 (c' := (128, [(6, .ref (p 26)), (5, .int (J (q 6) v3.toNatClampNeg)), (4, .int (J (q 14) v2.toNatClampNeg)), (0, .ref (p 24)), (1, .ref (q 0)), (2, .int v2), (3, .int v3)], [.ref (q 0), .int (Int32.ofInt 7), .ref (p 26)], me_w (lw M (nt_u (nt_u (nt_u (nt_u (nt_u (nt_u (nt_u L (p 26) 0 v2.toInt64) (p 26) 1 ((J (q 3) v2.toNatClampNeg).toInt64)) (p 26) 2 ((J (q 13) v2.toNatClampNeg).toInt64)) (p 26) 3 ((J (q 5) v2.toNatClampNeg).toInt64)) (p 26) 4 ((J (q 6) v3.toNatClampNeg).toInt64)) (p 26) 5 ((J (q 14) v2.toNatClampNeg).toInt64)) (p 26) 6 (Int64.ofNat 1))) J)) rfl k
      have k := lz_get (a := (q 0)) (g := 602) (M := me_w (lw M (nt_u (nt_u (nt_u (nt_u (nt_u (nt_u (nt_u L (p 26) 0 v2.toInt64) (p 26) 1 ((J (q 3) v2.toNatClampNeg).toInt64)) (p 26) 2 ((J (q 13) v2.toNatClampNeg).toInt64)) (p 26) 3 ((J (q 5) v2.toNatClampNeg).toInt64)) (p 26) 4 ((J (q 6) v3.toNatClampNeg).toInt64)) (p 26) 5 ((J (q 14) v2.toNatClampNeg).toInt64)) (p 26) 6 (Int64.ofNat 1))) J) (v := .int (J (q 0) 2)) rfl (congrArg Value.int (rfl)) k
      have k := ly_revb 1 (c' := (132, [(6, .ref (p 26)), (5, .int (J (q 6) v3.toNatClampNeg)), (4, .int (J (q 14) v2.toNatClampNeg)), (0, .ref (p 24)), (1, .ref (q 0)), (2, .int v2), (3, .int v3)], [.long ((J (q 0) 2).toInt64), .int (Int32.ofInt 7), .ref (p 26)], me_w (lw M (nt_u (nt_u (nt_u (nt_u (nt_u (nt_u (nt_u L (p 26) 0 v2.toInt64) (p 26) 1 ((J (q 3) v2.toNatClampNeg).toInt64)) (p 26) 2 ((J (q 13) v2.toNatClampNeg).toInt64)) (p 26) 3 ((J (q 5) v2.toNatClampNeg).toInt64)) (p 26) 4 ((J (q 6) v3.toNatClampNeg).toInt64)) (p 26) 5 ((J (q 14) v2.toNatClampNeg).toInt64)) (p 26) 6 (Int64.ofNat 1))) J)) rfl k
      have k := mx_last (q := 7) rfl (show (Int32.ofInt 7).toNatClampNeg = 7 from rfl) k
      have k : nt_rn X _ 8 (133, [(6, .ref (p 26)), (5, .int (J (q 6) v3.toNatClampNeg)), (4, .int (J (q 14) v2.toNatClampNeg)), (0, .ref (p 24)), (1, .ref (q 0)), (2, .int v2), (3, .int v3)], [], me_w (lw M (nt_u (nt_u (nt_u (nt_u (nt_u (nt_u (nt_u (nt_u L (p 26) 0 v2.toInt64) (p 26) 1 ((J (q 3) v2.toNatClampNeg).toInt64)) (p 26) 2 ((J (q 13) v2.toNatClampNeg).toInt64)) (p 26) 3 ((J (q 5) v2.toNatClampNeg).toInt64)) (p 26) 4 ((J (q 6) v3.toNatClampNeg).toInt64)) (p 26) 5 ((J (q 14) v2.toNatClampNeg).toInt64)) (p 26) 6 (Int64.ofNat 1)) (p 26) 7 ((J (q 0) 2).toInt64))) J) _ := k
      have k := ly_revb 3 (c' := (138, [(6, .ref (p 26)), (5, .int (J (q 6) v3.toNatClampNeg)), (4, .int (J (q 14) v2.toNatClampNeg)), (0, .ref (p 24)), (1, .ref (q 0)), (2, .int v2), (3, .int v3)], [.ref (q 0), .int (Int32.ofInt 8), .ref (p 26)], me_w (lw M (nt_u (nt_u (nt_u (nt_u (nt_u (nt_u (nt_u (nt_u L (p 26) 0 v2.toInt64) (p 26) 1 ((J (q 3) v2.toNatClampNeg).toInt64)) (p 26) 2 ((J (q 13) v2.toNatClampNeg).toInt64)) (p 26) 3 ((J (q 5) v2.toNatClampNeg).toInt64)) (p 26) 4 ((J (q 6) v3.toNatClampNeg).toInt64)) (p 26) 5 ((J (q 14) v2.toNatClampNeg).toInt64)) (p 26) 6 (Int64.ofNat 1)) (p 26) 7 ((J (q 0) 2).toInt64))) J)) rfl k
      have k := lz_get (a := (q 0)) (g := 603) (M := me_w (lw M (nt_u (nt_u (nt_u (nt_u (nt_u (nt_u (nt_u (nt_u L (p 26) 0 v2.toInt64) (p 26) 1 ((J (q 3) v2.toNatClampNeg).toInt64)) (p 26) 2 ((J (q 13) v2.toNatClampNeg).toInt64)) (p 26) 3 ((J (q 5) v2.toNatClampNeg).toInt64)) (p 26) 4 ((J (q 6) v3.toNatClampNeg).toInt64)) (p 26) 5 ((J (q 14) v2.toNatClampNeg).toInt64)) (p 26) 6 (Int64.ofNat 1)) (p 26) 7 ((J (q 0) 2).toInt64))) J) (v := .int (J (q 0) 3)) rfl (congrArg Value.int (rfl)) k
      have k := ly_revb 1 (c' := (142, [(6, .ref (p 26)), (5, .int (J (q 6) v3.toNatClampNeg)), (4, .int (J (q 14) v2.toNatClampNeg)), (0, .ref (p 24)), (1, .ref (q 0)), (2, .int v2), (3, .int v3)], [.long ((J (q 0) 3).toInt64), .int (Int32.ofInt 8), .ref (p 26)], me_w (lw M (nt_u (nt_u (nt_u (nt_u (nt_u (nt_u (nt_u (nt_u L (p 26) 0 v2.toInt64) (p 26) 1 ((J (q 3) v2.toNatClampNeg).toInt64)) (p 26) 2 ((J (q 13) v2.toNatClampNeg).toInt64)) (p 26) 3 ((J (q 5) v2.toNatClampNeg).toInt64)) (p 26) 4 ((J (q 6) v3.toNatClampNeg).toInt64)) (p 26) 5 ((J (q 14) v2.toNatClampNeg).toInt64)) (p 26) 6 (Int64.ofNat 1)) (p 26) 7 ((J (q 0) 2).toInt64))) J)) rfl k
      have k := mx_last (q := 8) rfl (show (Int32.ofInt 8).toNatClampNeg = 8 from rfl) k
      have k : nt_rn X _ 8 (143, [(6, .ref (p 26)), (5, .int (J (q 6) v3.toNatClampNeg)), (4, .int (J (q 14) v2.toNatClampNeg)), (0, .ref (p 24)), (1, .ref (q 0)), (2, .int v2), (3, .int v3)], [], me_w (lw M (nt_u (nt_u (nt_u (nt_u (nt_u (nt_u (nt_u (nt_u (nt_u L (p 26) 0 v2.toInt64) (p 26) 1 ((J (q 3) v2.toNatClampNeg).toInt64)) (p 26) 2 ((J (q 13) v2.toNatClampNeg).toInt64)) (p 26) 3 ((J (q 5) v2.toNatClampNeg).toInt64)) (p 26) 4 ((J (q 6) v3.toNatClampNeg).toInt64)) (p 26) 5 ((J (q 14) v2.toNatClampNeg).toInt64)) (p 26) 6 (Int64.ofNat 1)) (p 26) 7 ((J (q 0) 2).toInt64)) (p 26) 8 ((J (q 0) 3).toInt64))) J) _ := k
      have k := ly_revb 3 (c' := (148, [(6, .ref (p 26)), (5, .int (J (q 6) v3.toNatClampNeg)), (4, .int (J (q 14) v2.toNatClampNeg)), (0, .ref (p 24)), (1, .ref (q 0)), (2, .int v2), (3, .int v3)], [.ref (q 0), .int (Int32.ofInt 9), .ref (p 26)], me_w (lw M (nt_u (nt_u (nt_u (nt_u (nt_u (nt_u (nt_u (nt_u (nt_u L (p 26) 0 v2.toInt64) (p 26) 1 ((J (q 3) v2.toNatClampNeg).toInt64)) (p 26) 2 ((J (q 13) v2.toNatClampNeg).toInt64)) (p 26) 3 ((J (q 5) v2.toNatClampNeg).toInt64)) (p 26) 4 ((J (q 6) v3.toNatClampNeg).toInt64)) (p 26) 5 ((J (q 14) v2.toNatClampNeg).toInt64)) (p 26) 6 (Int64.ofNat 1)) (p 26) 7 ((J (q 0) 2).toInt64)) (p 26) 8 ((J (q 0) 3).toInt64))) J)) rfl k
      have k := lz_get (a := (q 0)) (g := 600) (M := me_w (lw M (nt_u (nt_u (nt_u (nt_u (nt_u (nt_u (nt_u (nt_u (nt_u L (p 26) 0 v2.toInt64) (p 26) 1 ((J (q 3) v2.toNatClampNeg).toInt64)) (p 26) 2 ((J (q 13) v2.toNatClampNeg).toInt64)) (p 26) 3 ((J (q 5) v2.toNatClampNeg).toInt64)) (p 26) 4 ((J (q 6) v3.toNatClampNeg).toInt64)) (p 26) 5 ((J (q 14) v2.toNatClampNeg).toInt64)) (p 26) 6 (Int64.ofNat 1)) (p 26) 7 ((J (q 0) 2).toInt64)) (p 26) 8 ((J (q 0) 3).toInt64))) J) (v := .ref (q 1)) rfl (nt_gfR rfl (hq.1 (0, 0, 1) (by decide))) k
      have k := ly_revb 1 (c' := (152, [(6, .ref (p 26)), (5, .int (J (q 6) v3.toNatClampNeg)), (4, .int (J (q 14) v2.toNatClampNeg)), (0, .ref (p 24)), (1, .ref (q 0)), (2, .int v2), (3, .int v3)], [.int v3, .ref (q 1), .int (Int32.ofInt 9), .ref (p 26)], me_w (lw M (nt_u (nt_u (nt_u (nt_u (nt_u (nt_u (nt_u (nt_u (nt_u L (p 26) 0 v2.toInt64) (p 26) 1 ((J (q 3) v2.toNatClampNeg).toInt64)) (p 26) 2 ((J (q 13) v2.toNatClampNeg).toInt64)) (p 26) 3 ((J (q 5) v2.toNatClampNeg).toInt64)) (p 26) 4 ((J (q 6) v3.toNatClampNeg).toInt64)) (p 26) 5 ((J (q 14) v2.toNatClampNeg).toInt64)) (p 26) 6 (Int64.ofNat 1)) (p 26) 7 ((J (q 0) 2).toInt64)) (p 26) 8 ((J (q 0) 3).toInt64))) J)) rfl k
      obtain ⟨d1, o1, ed, kc, k⟩ := lz_c (g := 89) (q := 1) (vs := [.ref (q 1), .int v3]) (rest := [.int (Int32.ofInt 9), .ref (p 26)]) rfl rfl (by decide) (Or.inr (Or.inl ⟨_, rfl, rfl⟩)) rfl k
      have e1 := xt89 (xs_lq hq) kc
      subst e1
      have k : nt_rn X _ 8 (155, [(6, .ref (p 26)), (5, .int (J (q 6) v3.toNatClampNeg)), (4, .int (J (q 14) v2.toNatClampNeg)), (0, .ref (p 24)), (1, .ref (q 0)), (2, .int v2), (3, .int v3)], [.int (x89 q v3 J), .int (Int32.ofInt 9), .ref (p 26)], me_w (lw M (nt_u (nt_u (nt_u (nt_u (nt_u (nt_u (nt_u (nt_u (nt_u L (p 26) 0 v2.toInt64) (p 26) 1 ((J (q 3) v2.toNatClampNeg).toInt64)) (p 26) 2 ((J (q 13) v2.toNatClampNeg).toInt64)) (p 26) 3 ((J (q 5) v2.toNatClampNeg).toInt64)) (p 26) 4 ((J (q 6) v3.toNatClampNeg).toInt64)) (p 26) 5 ((J (q 14) v2.toNatClampNeg).toInt64)) (p 26) 6 (Int64.ofNat 1)) (p 26) 7 ((J (q 0) 2).toInt64)) (p 26) 8 ((J (q 0) 3).toInt64))) J) _ := k
      have k := ly_revb 1 (c' := (156, [(6, .ref (p 26)), (5, .int (J (q 6) v3.toNatClampNeg)), (4, .int (J (q 14) v2.toNatClampNeg)), (0, .ref (p 24)), (1, .ref (q 0)), (2, .int v2), (3, .int v3)], [.long ((x89 q v3 J).toInt64), .int (Int32.ofInt 9), .ref (p 26)], me_w (lw M (nt_u (nt_u (nt_u (nt_u (nt_u (nt_u (nt_u (nt_u (nt_u L (p 26) 0 v2.toInt64) (p 26) 1 ((J (q 3) v2.toNatClampNeg).toInt64)) (p 26) 2 ((J (q 13) v2.toNatClampNeg).toInt64)) (p 26) 3 ((J (q 5) v2.toNatClampNeg).toInt64)) (p 26) 4 ((J (q 6) v3.toNatClampNeg).toInt64)) (p 26) 5 ((J (q 14) v2.toNatClampNeg).toInt64)) (p 26) 6 (Int64.ofNat 1)) (p 26) 7 ((J (q 0) 2).toInt64)) (p 26) 8 ((J (q 0) 3).toInt64))) J)) rfl k
      have k := mx_last (q := 9) rfl (show (Int32.ofInt 9).toNatClampNeg = 9 from rfl) k
      have k : nt_rn X _ 8 (157, [(6, .ref (p 26)), (5, .int (J (q 6) v3.toNatClampNeg)), (4, .int (J (q 14) v2.toNatClampNeg)), (0, .ref (p 24)), (1, .ref (q 0)), (2, .int v2), (3, .int v3)], [], me_w (lw M (nt_u (nt_u (nt_u (nt_u (nt_u (nt_u (nt_u (nt_u (nt_u (nt_u L (p 26) 0 v2.toInt64) (p 26) 1 ((J (q 3) v2.toNatClampNeg).toInt64)) (p 26) 2 ((J (q 13) v2.toNatClampNeg).toInt64)) (p 26) 3 ((J (q 5) v2.toNatClampNeg).toInt64)) (p 26) 4 ((J (q 6) v3.toNatClampNeg).toInt64)) (p 26) 5 ((J (q 14) v2.toNatClampNeg).toInt64)) (p 26) 6 (Int64.ofNat 1)) (p 26) 7 ((J (q 0) 2).toInt64)) (p 26) 8 ((J (q 0) 3).toInt64)) (p 26) 9 ((x89 q v3 J).toInt64))) J) _ := k
      have k := lz_rv rfl rfl k
      rw [k, x8, if_neg h86, if_pos h114]
    · rw [if_neg h114] at k
      have k := ly_revb 1 (c' := (122, [(6, .ref (p 26)), (5, .int (J (q 6) v3.toNatClampNeg)), (4, .int (J (q 14) v2.toNatClampNeg)), (0, .ref (p 24)), (1, .ref (q 0)), (2, .int v2), (3, .int v3)], [.long (Int64.ofNat 0), .int (Int32.ofInt 6), .ref (p 26)], me_w (lw M (nt_u (nt_u (nt_u (nt_u (nt_u (nt_u L (p 26) 0 v2.toInt64) (p 26) 1 ((J (q 3) v2.toNatClampNeg).toInt64)) (p 26) 2 ((J (q 13) v2.toNatClampNeg).toInt64)) (p 26) 3 ((J (q 5) v2.toNatClampNeg).toInt64)) (p 26) 4 ((J (q 6) v3.toNatClampNeg).toInt64)) (p 26) 5 ((J (q 14) v2.toNatClampNeg).toInt64))) J)) rfl k
      have k := mx_last (q := 6) rfl (show (Int32.ofInt 6).toNatClampNeg = 6 from rfl) k
      have k : nt_rn X _ 8 (123, [(6, .ref (p 26)), (5, .int (J (q 6) v3.toNatClampNeg)), (4, .int (J (q 14) v2.toNatClampNeg)), (0, .ref (p 24)), (1, .ref (q 0)), (2, .int v2), (3, .int v3)], [], me_w (lw M (nt_u (nt_u (nt_u (nt_u (nt_u (nt_u (nt_u L (p 26) 0 v2.toInt64) (p 26) 1 ((J (q 3) v2.toNatClampNeg).toInt64)) (p 26) 2 ((J (q 13) v2.toNatClampNeg).toInt64)) (p 26) 3 ((J (q 5) v2.toNatClampNeg).toInt64)) (p 26) 4 ((J (q 6) v3.toNatClampNeg).toInt64)) (p 26) 5 ((J (q 14) v2.toNatClampNeg).toInt64)) (p 26) 6 (Int64.ofNat 0))) J) _ := k
      have k := ly_revb 3 (c' := (128, [(6, .ref (p 26)), (5, .int (J (q 6) v3.toNatClampNeg)), (4, .int (J (q 14) v2.toNatClampNeg)), (0, .ref (p 24)), (1, .ref (q 0)), (2, .int v2), (3, .int v3)], [.ref (q 0), .int (Int32.ofInt 7), .ref (p 26)], me_w (lw M (nt_u (nt_u (nt_u (nt_u (nt_u (nt_u (nt_u L (p 26) 0 v2.toInt64) (p 26) 1 ((J (q 3) v2.toNatClampNeg).toInt64)) (p 26) 2 ((J (q 13) v2.toNatClampNeg).toInt64)) (p 26) 3 ((J (q 5) v2.toNatClampNeg).toInt64)) (p 26) 4 ((J (q 6) v3.toNatClampNeg).toInt64)) (p 26) 5 ((J (q 14) v2.toNatClampNeg).toInt64)) (p 26) 6 (Int64.ofNat 0))) J)) rfl k
      have k := lz_get (a := (q 0)) (g := 602) (M := me_w (lw M (nt_u (nt_u (nt_u (nt_u (nt_u (nt_u (nt_u L (p 26) 0 v2.toInt64) (p 26) 1 ((J (q 3) v2.toNatClampNeg).toInt64)) (p 26) 2 ((J (q 13) v2.toNatClampNeg).toInt64)) (p 26) 3 ((J (q 5) v2.toNatClampNeg).toInt64)) (p 26) 4 ((J (q 6) v3.toNatClampNeg).toInt64)) (p 26) 5 ((J (q 14) v2.toNatClampNeg).toInt64)) (p 26) 6 (Int64.ofNat 0))) J) (v := .int (J (q 0) 2)) rfl (congrArg Value.int (rfl)) k
      have k := ly_revb 1 (c' := (132, [(6, .ref (p 26)), (5, .int (J (q 6) v3.toNatClampNeg)), (4, .int (J (q 14) v2.toNatClampNeg)), (0, .ref (p 24)), (1, .ref (q 0)), (2, .int v2), (3, .int v3)], [.long ((J (q 0) 2).toInt64), .int (Int32.ofInt 7), .ref (p 26)], me_w (lw M (nt_u (nt_u (nt_u (nt_u (nt_u (nt_u (nt_u L (p 26) 0 v2.toInt64) (p 26) 1 ((J (q 3) v2.toNatClampNeg).toInt64)) (p 26) 2 ((J (q 13) v2.toNatClampNeg).toInt64)) (p 26) 3 ((J (q 5) v2.toNatClampNeg).toInt64)) (p 26) 4 ((J (q 6) v3.toNatClampNeg).toInt64)) (p 26) 5 ((J (q 14) v2.toNatClampNeg).toInt64)) (p 26) 6 (Int64.ofNat 0))) J)) rfl k
      have k := mx_last (q := 7) rfl (show (Int32.ofInt 7).toNatClampNeg = 7 from rfl) k
      have k : nt_rn X _ 8 (133, [(6, .ref (p 26)), (5, .int (J (q 6) v3.toNatClampNeg)), (4, .int (J (q 14) v2.toNatClampNeg)), (0, .ref (p 24)), (1, .ref (q 0)), (2, .int v2), (3, .int v3)], [], me_w (lw M (nt_u (nt_u (nt_u (nt_u (nt_u (nt_u (nt_u (nt_u L (p 26) 0 v2.toInt64) (p 26) 1 ((J (q 3) v2.toNatClampNeg).toInt64)) (p 26) 2 ((J (q 13) v2.toNatClampNeg).toInt64)) (p 26) 3 ((J (q 5) v2.toNatClampNeg).toInt64)) (p 26) 4 ((J (q 6) v3.toNatClampNeg).toInt64)) (p 26) 5 ((J (q 14) v2.toNatClampNeg).toInt64)) (p 26) 6 (Int64.ofNat 0)) (p 26) 7 ((J (q 0) 2).toInt64))) J) _ := k
      have k := ly_revb 3 (c' := (138, [(6, .ref (p 26)), (5, .int (J (q 6) v3.toNatClampNeg)), (4, .int (J (q 14) v2.toNatClampNeg)), (0, .ref (p 24)), (1, .ref (q 0)), (2, .int v2), (3, .int v3)], [.ref (q 0), .int (Int32.ofInt 8), .ref (p 26)], me_w (lw M (nt_u (nt_u (nt_u (nt_u (nt_u (nt_u (nt_u (nt_u L (p 26) 0 v2.toInt64) (p 26) 1 ((J (q 3) v2.toNatClampNeg).toInt64)) (p 26) 2 ((J (q 13) v2.toNatClampNeg).toInt64)) (p 26) 3 ((J (q 5) v2.toNatClampNeg).toInt64)) (p 26) 4 ((J (q 6) v3.toNatClampNeg).toInt64)) (p 26) 5 ((J (q 14) v2.toNatClampNeg).toInt64)) (p 26) 6 (Int64.ofNat 0)) (p 26) 7 ((J (q 0) 2).toInt64))) J)) rfl k
      have k := lz_get (a := (q 0)) (g := 603) (M := me_w (lw M (nt_u (nt_u (nt_u (nt_u (nt_u (nt_u (nt_u (nt_u L (p 26) 0 v2.toInt64) (p 26) 1 ((J (q 3) v2.toNatClampNeg).toInt64)) (p 26) 2 ((J (q 13) v2.toNatClampNeg).toInt64)) (p 26) 3 ((J (q 5) v2.toNatClampNeg).toInt64)) (p 26) 4 ((J (q 6) v3.toNatClampNeg).toInt64)) (p 26) 5 ((J (q 14) v2.toNatClampNeg).toInt64)) (p 26) 6 (Int64.ofNat 0)) (p 26) 7 ((J (q 0) 2).toInt64))) J) (v := .int (J (q 0) 3)) rfl (congrArg Value.int (rfl)) k
      have k := ly_revb 1 (c' := (142, [(6, .ref (p 26)), (5, .int (J (q 6) v3.toNatClampNeg)), (4, .int (J (q 14) v2.toNatClampNeg)), (0, .ref (p 24)), (1, .ref (q 0)), (2, .int v2), (3, .int v3)], [.long ((J (q 0) 3).toInt64), .int (Int32.ofInt 8), .ref (p 26)], me_w (lw M (nt_u (nt_u (nt_u (nt_u (nt_u (nt_u (nt_u (nt_u L (p 26) 0 v2.toInt64) (p 26) 1 ((J (q 3) v2.toNatClampNeg).toInt64)) (p 26) 2 ((J (q 13) v2.toNatClampNeg).toInt64)) (p 26) 3 ((J (q 5) v2.toNatClampNeg).toInt64)) (p 26) 4 ((J (q 6) v3.toNatClampNeg).toInt64)) (p 26) 5 ((J (q 14) v2.toNatClampNeg).toInt64)) (p 26) 6 (Int64.ofNat 0)) (p 26) 7 ((J (q 0) 2).toInt64))) J)) rfl k
      have k := mx_last (q := 8) rfl (show (Int32.ofInt 8).toNatClampNeg = 8 from rfl) k
      have k : nt_rn X _ 8 (143, [(6, .ref (p 26)), (5, .int (J (q 6) v3.toNatClampNeg)), (4, .int (J (q 14) v2.toNatClampNeg)), (0, .ref (p 24)), (1, .ref (q 0)), (2, .int v2), (3, .int v3)], [], me_w (lw M (nt_u (nt_u (nt_u (nt_u (nt_u (nt_u (nt_u (nt_u (nt_u L (p 26) 0 v2.toInt64) (p 26) 1 ((J (q 3) v2.toNatClampNeg).toInt64)) (p 26) 2 ((J (q 13) v2.toNatClampNeg).toInt64)) (p 26) 3 ((J (q 5) v2.toNatClampNeg).toInt64)) (p 26) 4 ((J (q 6) v3.toNatClampNeg).toInt64)) (p 26) 5 ((J (q 14) v2.toNatClampNeg).toInt64)) (p 26) 6 (Int64.ofNat 0)) (p 26) 7 ((J (q 0) 2).toInt64)) (p 26) 8 ((J (q 0) 3).toInt64))) J) _ := k
      have k := ly_revb 3 (c' := (148, [(6, .ref (p 26)), (5, .int (J (q 6) v3.toNatClampNeg)), (4, .int (J (q 14) v2.toNatClampNeg)), (0, .ref (p 24)), (1, .ref (q 0)), (2, .int v2), (3, .int v3)], [.ref (q 0), .int (Int32.ofInt 9), .ref (p 26)], me_w (lw M (nt_u (nt_u (nt_u (nt_u (nt_u (nt_u (nt_u (nt_u (nt_u L (p 26) 0 v2.toInt64) (p 26) 1 ((J (q 3) v2.toNatClampNeg).toInt64)) (p 26) 2 ((J (q 13) v2.toNatClampNeg).toInt64)) (p 26) 3 ((J (q 5) v2.toNatClampNeg).toInt64)) (p 26) 4 ((J (q 6) v3.toNatClampNeg).toInt64)) (p 26) 5 ((J (q 14) v2.toNatClampNeg).toInt64)) (p 26) 6 (Int64.ofNat 0)) (p 26) 7 ((J (q 0) 2).toInt64)) (p 26) 8 ((J (q 0) 3).toInt64))) J)) rfl k
      have k := lz_get (a := (q 0)) (g := 600) (M := me_w (lw M (nt_u (nt_u (nt_u (nt_u (nt_u (nt_u (nt_u (nt_u (nt_u L (p 26) 0 v2.toInt64) (p 26) 1 ((J (q 3) v2.toNatClampNeg).toInt64)) (p 26) 2 ((J (q 13) v2.toNatClampNeg).toInt64)) (p 26) 3 ((J (q 5) v2.toNatClampNeg).toInt64)) (p 26) 4 ((J (q 6) v3.toNatClampNeg).toInt64)) (p 26) 5 ((J (q 14) v2.toNatClampNeg).toInt64)) (p 26) 6 (Int64.ofNat 0)) (p 26) 7 ((J (q 0) 2).toInt64)) (p 26) 8 ((J (q 0) 3).toInt64))) J) (v := .ref (q 1)) rfl (nt_gfR rfl (hq.1 (0, 0, 1) (by decide))) k
      have k := ly_revb 1 (c' := (152, [(6, .ref (p 26)), (5, .int (J (q 6) v3.toNatClampNeg)), (4, .int (J (q 14) v2.toNatClampNeg)), (0, .ref (p 24)), (1, .ref (q 0)), (2, .int v2), (3, .int v3)], [.int v3, .ref (q 1), .int (Int32.ofInt 9), .ref (p 26)], me_w (lw M (nt_u (nt_u (nt_u (nt_u (nt_u (nt_u (nt_u (nt_u (nt_u L (p 26) 0 v2.toInt64) (p 26) 1 ((J (q 3) v2.toNatClampNeg).toInt64)) (p 26) 2 ((J (q 13) v2.toNatClampNeg).toInt64)) (p 26) 3 ((J (q 5) v2.toNatClampNeg).toInt64)) (p 26) 4 ((J (q 6) v3.toNatClampNeg).toInt64)) (p 26) 5 ((J (q 14) v2.toNatClampNeg).toInt64)) (p 26) 6 (Int64.ofNat 0)) (p 26) 7 ((J (q 0) 2).toInt64)) (p 26) 8 ((J (q 0) 3).toInt64))) J)) rfl k
      obtain ⟨d1, o1, ed, kc, k⟩ := lz_c (g := 89) (q := 1) (vs := [.ref (q 1), .int v3]) (rest := [.int (Int32.ofInt 9), .ref (p 26)]) rfl rfl (by decide) (Or.inr (Or.inl ⟨_, rfl, rfl⟩)) rfl k
      have e1 := xt89 (xs_lq hq) kc
      subst e1
      have k : nt_rn X _ 8 (155, [(6, .ref (p 26)), (5, .int (J (q 6) v3.toNatClampNeg)), (4, .int (J (q 14) v2.toNatClampNeg)), (0, .ref (p 24)), (1, .ref (q 0)), (2, .int v2), (3, .int v3)], [.int (x89 q v3 J), .int (Int32.ofInt 9), .ref (p 26)], me_w (lw M (nt_u (nt_u (nt_u (nt_u (nt_u (nt_u (nt_u (nt_u (nt_u L (p 26) 0 v2.toInt64) (p 26) 1 ((J (q 3) v2.toNatClampNeg).toInt64)) (p 26) 2 ((J (q 13) v2.toNatClampNeg).toInt64)) (p 26) 3 ((J (q 5) v2.toNatClampNeg).toInt64)) (p 26) 4 ((J (q 6) v3.toNatClampNeg).toInt64)) (p 26) 5 ((J (q 14) v2.toNatClampNeg).toInt64)) (p 26) 6 (Int64.ofNat 0)) (p 26) 7 ((J (q 0) 2).toInt64)) (p 26) 8 ((J (q 0) 3).toInt64))) J) _ := k
      have k := ly_revb 1 (c' := (156, [(6, .ref (p 26)), (5, .int (J (q 6) v3.toNatClampNeg)), (4, .int (J (q 14) v2.toNatClampNeg)), (0, .ref (p 24)), (1, .ref (q 0)), (2, .int v2), (3, .int v3)], [.long ((x89 q v3 J).toInt64), .int (Int32.ofInt 9), .ref (p 26)], me_w (lw M (nt_u (nt_u (nt_u (nt_u (nt_u (nt_u (nt_u (nt_u (nt_u L (p 26) 0 v2.toInt64) (p 26) 1 ((J (q 3) v2.toNatClampNeg).toInt64)) (p 26) 2 ((J (q 13) v2.toNatClampNeg).toInt64)) (p 26) 3 ((J (q 5) v2.toNatClampNeg).toInt64)) (p 26) 4 ((J (q 6) v3.toNatClampNeg).toInt64)) (p 26) 5 ((J (q 14) v2.toNatClampNeg).toInt64)) (p 26) 6 (Int64.ofNat 0)) (p 26) 7 ((J (q 0) 2).toInt64)) (p 26) 8 ((J (q 0) 3).toInt64))) J)) rfl k
      have k := mx_last (q := 9) rfl (show (Int32.ofInt 9).toNatClampNeg = 9 from rfl) k
      have k : nt_rn X _ 8 (157, [(6, .ref (p 26)), (5, .int (J (q 6) v3.toNatClampNeg)), (4, .int (J (q 14) v2.toNatClampNeg)), (0, .ref (p 24)), (1, .ref (q 0)), (2, .int v2), (3, .int v3)], [], me_w (lw M (nt_u (nt_u (nt_u (nt_u (nt_u (nt_u (nt_u (nt_u (nt_u (nt_u L (p 26) 0 v2.toInt64) (p 26) 1 ((J (q 3) v2.toNatClampNeg).toInt64)) (p 26) 2 ((J (q 13) v2.toNatClampNeg).toInt64)) (p 26) 3 ((J (q 5) v2.toNatClampNeg).toInt64)) (p 26) 4 ((J (q 6) v3.toNatClampNeg).toInt64)) (p 26) 5 ((J (q 14) v2.toNatClampNeg).toInt64)) (p 26) 6 (Int64.ofNat 0)) (p 26) 7 ((J (q 0) 2).toInt64)) (p 26) 8 ((J (q 0) 3).toInt64)) (p 26) 9 ((x89 q v3 J).toInt64))) J) _ := k
      have k := lz_rv rfl rfl k
      rw [k, x8, if_neg h86, if_neg h114]
theorem x8_frL {p : Nat → Nat} {q : Nat → Nat} {v2 : Int32} {v3 : Int32} {J : Nat → Nat → Int32} {L : Nat → Nat → Int64} {b : Nat} (n0 : b ≠ p 26) : x8 p q v2 v3 J L b = L b := by
  unfold x8
  by_cases h : (J (q 14) v2.toNatClampNeg) = (Int32.ofInt (-1))
  · rw [if_pos h]
    by_cases h : (J (q 5) v2.toNatClampNeg) = (J (q 6) v3.toNatClampNeg)
    · rw [if_pos h]
      all_goals first | (dsimp only; exact (show (nt_u (nt_u (nt_u (nt_u (nt_u (nt_u (nt_u (nt_u (nt_u (nt_u L (p 26) 0 v2.toInt64) (p 26) 1 ((J (q 3) v2.toNatClampNeg).toInt64)) (p 26) 2 ((J (q 13) v2.toNatClampNeg).toInt64)) (p 26) 3 ((J (q 5) v2.toNatClampNeg).toInt64)) (p 26) 4 ((J (q 6) v3.toNatClampNeg).toInt64)) (p 26) 5 99) (p 26) 6 (Int64.ofNat 1)) (p 26) 7 ((J (q 0) 2).toInt64)) (p 26) 8 ((J (q 0) 3).toInt64)) (p 26) 9 ((x89 q v3 J).toInt64)) b = L b from (mu_o n0).trans ((mu_o n0).trans ((mu_o n0).trans ((mu_o n0).trans ((mu_o n0).trans ((mu_o n0).trans ((mu_o n0).trans ((mu_o n0).trans ((mu_o n0).trans (mu_o n0))))))))))) | exact (show (nt_u (nt_u (nt_u (nt_u (nt_u (nt_u (nt_u (nt_u (nt_u (nt_u L (p 26) 0 v2.toInt64) (p 26) 1 ((J (q 3) v2.toNatClampNeg).toInt64)) (p 26) 2 ((J (q 13) v2.toNatClampNeg).toInt64)) (p 26) 3 ((J (q 5) v2.toNatClampNeg).toInt64)) (p 26) 4 ((J (q 6) v3.toNatClampNeg).toInt64)) (p 26) 5 99) (p 26) 6 (Int64.ofNat 1)) (p 26) 7 ((J (q 0) 2).toInt64)) (p 26) 8 ((J (q 0) 3).toInt64)) (p 26) 9 ((x89 q v3 J).toInt64)) b = L b from (mu_o n0).trans ((mu_o n0).trans ((mu_o n0).trans ((mu_o n0).trans ((mu_o n0).trans ((mu_o n0).trans ((mu_o n0).trans ((mu_o n0).trans ((mu_o n0).trans (mu_o n0))))))))))
    · rw [if_neg h]
      all_goals first | (dsimp only; exact (show (nt_u (nt_u (nt_u (nt_u (nt_u (nt_u (nt_u (nt_u (nt_u (nt_u L (p 26) 0 v2.toInt64) (p 26) 1 ((J (q 3) v2.toNatClampNeg).toInt64)) (p 26) 2 ((J (q 13) v2.toNatClampNeg).toInt64)) (p 26) 3 ((J (q 5) v2.toNatClampNeg).toInt64)) (p 26) 4 ((J (q 6) v3.toNatClampNeg).toInt64)) (p 26) 5 99) (p 26) 6 (Int64.ofNat 0)) (p 26) 7 ((J (q 0) 2).toInt64)) (p 26) 8 ((J (q 0) 3).toInt64)) (p 26) 9 ((x89 q v3 J).toInt64)) b = L b from (mu_o n0).trans ((mu_o n0).trans ((mu_o n0).trans ((mu_o n0).trans ((mu_o n0).trans ((mu_o n0).trans ((mu_o n0).trans ((mu_o n0).trans ((mu_o n0).trans (mu_o n0))))))))))) | exact (show (nt_u (nt_u (nt_u (nt_u (nt_u (nt_u (nt_u (nt_u (nt_u (nt_u L (p 26) 0 v2.toInt64) (p 26) 1 ((J (q 3) v2.toNatClampNeg).toInt64)) (p 26) 2 ((J (q 13) v2.toNatClampNeg).toInt64)) (p 26) 3 ((J (q 5) v2.toNatClampNeg).toInt64)) (p 26) 4 ((J (q 6) v3.toNatClampNeg).toInt64)) (p 26) 5 99) (p 26) 6 (Int64.ofNat 0)) (p 26) 7 ((J (q 0) 2).toInt64)) (p 26) 8 ((J (q 0) 3).toInt64)) (p 26) 9 ((x89 q v3 J).toInt64)) b = L b from (mu_o n0).trans ((mu_o n0).trans ((mu_o n0).trans ((mu_o n0).trans ((mu_o n0).trans ((mu_o n0).trans ((mu_o n0).trans ((mu_o n0).trans ((mu_o n0).trans (mu_o n0))))))))))
  · rw [if_neg h]
    by_cases h : (J (q 5) v2.toNatClampNeg) = (J (q 6) v3.toNatClampNeg)
    · rw [if_pos h]
      all_goals first | (dsimp only; exact (show (nt_u (nt_u (nt_u (nt_u (nt_u (nt_u (nt_u (nt_u (nt_u (nt_u L (p 26) 0 v2.toInt64) (p 26) 1 ((J (q 3) v2.toNatClampNeg).toInt64)) (p 26) 2 ((J (q 13) v2.toNatClampNeg).toInt64)) (p 26) 3 ((J (q 5) v2.toNatClampNeg).toInt64)) (p 26) 4 ((J (q 6) v3.toNatClampNeg).toInt64)) (p 26) 5 ((J (q 14) v2.toNatClampNeg).toInt64)) (p 26) 6 (Int64.ofNat 1)) (p 26) 7 ((J (q 0) 2).toInt64)) (p 26) 8 ((J (q 0) 3).toInt64)) (p 26) 9 ((x89 q v3 J).toInt64)) b = L b from (mu_o n0).trans ((mu_o n0).trans ((mu_o n0).trans ((mu_o n0).trans ((mu_o n0).trans ((mu_o n0).trans ((mu_o n0).trans ((mu_o n0).trans ((mu_o n0).trans (mu_o n0))))))))))) | exact (show (nt_u (nt_u (nt_u (nt_u (nt_u (nt_u (nt_u (nt_u (nt_u (nt_u L (p 26) 0 v2.toInt64) (p 26) 1 ((J (q 3) v2.toNatClampNeg).toInt64)) (p 26) 2 ((J (q 13) v2.toNatClampNeg).toInt64)) (p 26) 3 ((J (q 5) v2.toNatClampNeg).toInt64)) (p 26) 4 ((J (q 6) v3.toNatClampNeg).toInt64)) (p 26) 5 ((J (q 14) v2.toNatClampNeg).toInt64)) (p 26) 6 (Int64.ofNat 1)) (p 26) 7 ((J (q 0) 2).toInt64)) (p 26) 8 ((J (q 0) 3).toInt64)) (p 26) 9 ((x89 q v3 J).toInt64)) b = L b from (mu_o n0).trans ((mu_o n0).trans ((mu_o n0).trans ((mu_o n0).trans ((mu_o n0).trans ((mu_o n0).trans ((mu_o n0).trans ((mu_o n0).trans ((mu_o n0).trans (mu_o n0))))))))))
    · rw [if_neg h]
      all_goals first | (dsimp only; exact (show (nt_u (nt_u (nt_u (nt_u (nt_u (nt_u (nt_u (nt_u (nt_u (nt_u L (p 26) 0 v2.toInt64) (p 26) 1 ((J (q 3) v2.toNatClampNeg).toInt64)) (p 26) 2 ((J (q 13) v2.toNatClampNeg).toInt64)) (p 26) 3 ((J (q 5) v2.toNatClampNeg).toInt64)) (p 26) 4 ((J (q 6) v3.toNatClampNeg).toInt64)) (p 26) 5 ((J (q 14) v2.toNatClampNeg).toInt64)) (p 26) 6 (Int64.ofNat 0)) (p 26) 7 ((J (q 0) 2).toInt64)) (p 26) 8 ((J (q 0) 3).toInt64)) (p 26) 9 ((x89 q v3 J).toInt64)) b = L b from (mu_o n0).trans ((mu_o n0).trans ((mu_o n0).trans ((mu_o n0).trans ((mu_o n0).trans ((mu_o n0).trans ((mu_o n0).trans ((mu_o n0).trans ((mu_o n0).trans (mu_o n0))))))))))) | exact (show (nt_u (nt_u (nt_u (nt_u (nt_u (nt_u (nt_u (nt_u (nt_u (nt_u L (p 26) 0 v2.toInt64) (p 26) 1 ((J (q 3) v2.toNatClampNeg).toInt64)) (p 26) 2 ((J (q 13) v2.toNatClampNeg).toInt64)) (p 26) 3 ((J (q 5) v2.toNatClampNeg).toInt64)) (p 26) 4 ((J (q 6) v3.toNatClampNeg).toInt64)) (p 26) 5 ((J (q 14) v2.toNatClampNeg).toInt64)) (p 26) 6 (Int64.ofNat 0)) (p 26) 7 ((J (q 0) 2).toInt64)) (p 26) 8 ((J (q 0) 3).toInt64)) (p 26) 9 ((x89 q v3 J).toInt64)) b = L b from (mu_o n0).trans ((mu_o n0).trans ((mu_o n0).trans ((mu_o n0).trans ((mu_o n0).trans ((mu_o n0).trans ((mu_o n0).trans ((mu_o n0).trans ((mu_o n0).trans (mu_o n0))))))))))
/-! $Calendar.chosen -/
def x6_9 (p : Nat → Nat) (q : Nat → Nat) (sp : Nat) (ln : Nat) (v3 : Int32) (v4 : Int32) : Nat → Int32 → Int64 → Int32 → (Nat → Nat → Int32) → (Nat → Nat → Int64) → Int32 × (Nat → Nat → Int32) × (Nat → Nat → Int64)
  | 0, v5, v6, v8, J, L => (v5, J, L)
  | c + 1, v5, v6, v8, J, L => if (J (q 1) 2) ≤ v8 then (v5, J, L)
    else if (J (q 3) v8.toNatClampNeg) = v4 then if (x7 q v8 (J (q 6) v3.toNatClampNeg) J) = 0 then (x6_9 p q sp ln v3 v4 c v5 v6 (v8 + (Int32.ofInt 1)) J L)
        else if ((x41 p sp ln J (x8 p q v8 v3 J L)).1) = 0 then (x6_9 p q sp ln v3 v4 c v5 v6 (v8 + (Int32.ofInt 1)) ((x41 p sp ln J (x8 p q v8 v3 J L)).2.1) ((x41 p sp ln J (x8 p q v8 v3 J L)).2.2))
          else if v5 = (Int32.ofInt (-1)) then (x6_9 p q sp ln v3 v4 c v8 (x45 p ((x41 p sp ln J (x8 p q v8 v3 J L)).2.1) ((x41 p sp ln J (x8 p q v8 v3 J L)).2.2)) (v8 + (Int32.ofInt 1)) ((x41 p sp ln J (x8 p q v8 v3 J L)).2.1) ((x41 p sp ln J (x8 p q v8 v3 J L)).2.2))
            else if 0 ≤ (lg_cmp (x45 p ((x41 p sp ln J (x8 p q v8 v3 J L)).2.1) ((x41 p sp ln J (x8 p q v8 v3 J L)).2.2)) v6) then (x6_9 p q sp ln v3 v4 c v5 v6 (v8 + (Int32.ofInt 1)) ((x41 p sp ln J (x8 p q v8 v3 J L)).2.1) ((x41 p sp ln J (x8 p q v8 v3 J L)).2.2))
              else (x6_9 p q sp ln v3 v4 c v8 (x45 p ((x41 p sp ln J (x8 p q v8 v3 J L)).2.1) ((x41 p sp ln J (x8 p q v8 v3 J L)).2.2)) (v8 + (Int32.ofInt 1)) ((x41 p sp ln J (x8 p q v8 v3 J L)).2.1) ((x41 p sp ln J (x8 p q v8 v3 J L)).2.2))
      else (x6_9 p q sp ln v3 v4 c v5 v6 (v8 + (Int32.ofInt 1)) J L)
theorem xt6_9 {X : nt_X} {d : Nat} {M : nt_M} {o : Option Value × nt_M} {p : Nat → Nat} {q : Nat → Nat} {sp : Nat} {ln : Nat} {ru : Nat} {v3 : Int32} {v4 : Int32} (hp : xs_P M p) (hq : xs_Q M q) (hx : xs_X p q) (hs : xs_S M p ru sp ln) : ∀ (c : Nat) (v5 : Int32) (v6 : Int64) (v8 : Int32) (J : Nat → Nat → Int32) (L : Nat → Nat → Int64), (J (q 1) 2).toInt - v8.toInt ≤ c → nt_rn X d 6 (9, [(0, .ref (p 24)), (1, .ref (q 0)), (2, .ref ru), (3, .int v3), (4, .int v4), (5, .int v5), (6, .long v6), (8, .int v8)], [], me_w (lw M L) J) o → o = (some (.int ((x6_9 p q sp ln v3 v4 c v5 v6 v8 J L).1)), me_w (lw M ((x6_9 p q sp ln v3 v4 c v5 v6 v8 J L).2.2)) ((x6_9 p q sp ln v3 v4 c v5 v6 v8 J L).2.1)) := by
  intro c
  induction c with
  | zero =>
    intro v5 v6 v8 J L hc k
    have k := ly_revb 2 (c' := (12, [(0, .ref (p 24)), (1, .ref (q 0)), (2, .ref ru), (3, .int v3), (4, .int v4), (5, .int v5), (6, .long v6), (8, .int v8)], [.ref (q 0), .int v8], me_w (lw M L) J)) rfl k
    have k := lz_get (a := (q 0)) (g := 600) (M := me_w (lw M L) J) (v := .ref (q 1)) rfl (nt_gfR rfl (hq.1 (0, 0, 1) (by decide))) k
    have k := lz_get (a := (q 1)) (g := 802) (M := me_w (lw M L) J) (v := .int (J (q 1) 2)) rfl (congrArg Value.int (rfl)) k
    have k := ly_revb 1 (c' := (if (J (q 1) 2) ≤ v8 then 114 else 21, [(0, .ref (p 24)), (1, .ref (q 0)), (2, .ref ru), (3, .int v3), (4, .int v4), (5, .int v5), (6, .long v6), (8, .int v8)], [], me_w (lw M L) J)) rfl k
    have h18 : (J (q 1) 2) ≤ v8 := lx_end hc
    rw [if_pos h18] at k
    have k := ly_revb 1 (c' := (116, [(0, .ref (p 24)), (1, .ref (q 0)), (2, .ref ru), (3, .int v3), (4, .int v4), (5, .int v5), (6, .long v6), (8, .int v8)], [.int v5], me_w (lw M L) J)) rfl k
    have k := lz_ri rfl (by decide) k
    rw [k, x6_9]
  | succ c ih =>
    intro v5 v6 v8 J L hc k
    have k := ly_revb 2 (c' := (12, [(0, .ref (p 24)), (1, .ref (q 0)), (2, .ref ru), (3, .int v3), (4, .int v4), (5, .int v5), (6, .long v6), (8, .int v8)], [.ref (q 0), .int v8], me_w (lw M L) J)) rfl k
    have k := lz_get (a := (q 0)) (g := 600) (M := me_w (lw M L) J) (v := .ref (q 1)) rfl (nt_gfR rfl (hq.1 (0, 0, 1) (by decide))) k
    have k := lz_get (a := (q 1)) (g := 802) (M := me_w (lw M L) J) (v := .int (J (q 1) 2)) rfl (congrArg Value.int (rfl)) k
    have k := ly_revb 1 (c' := (if (J (q 1) 2) ≤ v8 then 114 else 21, [(0, .ref (p 24)), (1, .ref (q 0)), (2, .ref ru), (3, .int v3), (4, .int v4), (5, .int v5), (6, .long v6), (8, .int v8)], [], me_w (lw M L) J)) rfl k
    by_cases h18 : (J (q 1) 2) ≤ v8
    · rw [if_pos h18] at k
      have k := ly_revb 1 (c' := (116, [(0, .ref (p 24)), (1, .ref (q 0)), (2, .ref ru), (3, .int v3), (4, .int v4), (5, .int v5), (6, .long v6), (8, .int v8)], [.int v5], me_w (lw M L) J)) rfl k
      have k := lz_ri rfl (by decide) k
      rw [k, x6_9, if_pos h18]
    · rw [if_neg h18] at k
      have k := ly_revb 1 (c' := (22, [(0, .ref (p 24)), (1, .ref (q 0)), (2, .ref ru), (3, .int v3), (4, .int v4), (5, .int v5), (6, .long v6), (8, .int v8)], [.ref (q 0)], me_w (lw M L) J)) rfl k
      have k := lz_get (a := (q 0)) (g := 600) (M := me_w (lw M L) J) (v := .ref (q 1)) rfl (nt_gfR rfl (hq.1 (0, 0, 1) (by decide))) k
      have k := lz_get (a := (q 1)) (g := 806) (M := me_w (lw M L) J) (v := .ref (q 3)) rfl (nt_gfR rfl (hq.1 (1, 6, 3) (by decide))) k
      have k := ly_revb 1 (c' := (30, [(0, .ref (p 24)), (1, .ref (q 0)), (2, .ref ru), (3, .int v3), (4, .int v4), (5, .int v5), (6, .long v6), (8, .int v8)], [.int v8, .ref (q 3)], me_w (lw M L) J)) rfl k
      have k := mx_iald (v := J (q 3) v8.toNatClampNeg) rfl (hq.2.2.1 3 (by omega)) (rfl) k
      have k := ly_revb 2 (c' := (if (J (q 3) v8.toNatClampNeg) = v4 then 36 else 108, [(0, .ref (p 24)), (1, .ref (q 0)), (2, .ref ru), (3, .int v3), (4, .int v4), (5, .int v5), (6, .long v6), (8, .int v8)], [], me_w (lw M L) J)) rfl k
      by_cases h33 : (J (q 3) v8.toNatClampNeg) = v4
      · rw [if_pos h33] at k
        have k := ly_revb 3 (c' := (40, [(0, .ref (p 24)), (1, .ref (q 0)), (2, .ref ru), (3, .int v3), (4, .int v4), (5, .int v5), (6, .long v6), (8, .int v8)], [.ref (q 0), .int v8, .ref (q 0)], me_w (lw M L) J)) rfl k
        have k := lz_get (a := (q 0)) (g := 600) (M := me_w (lw M L) J) (v := .ref (q 1)) rfl (nt_gfR rfl (hq.1 (0, 0, 1) (by decide))) k
        have k := lz_get (a := (q 1)) (g := 809) (M := me_w (lw M L) J) (v := .ref (q 6)) rfl (nt_gfR rfl (hq.1 (1, 9, 6) (by decide))) k
        have k := ly_revb 1 (c' := (47, [(0, .ref (p 24)), (1, .ref (q 0)), (2, .ref ru), (3, .int v3), (4, .int v4), (5, .int v5), (6, .long v6), (8, .int v8)], [.int v3, .ref (q 6), .int v8, .ref (q 0)], me_w (lw M L) J)) rfl k
        have k := mx_iald (v := J (q 6) v3.toNatClampNeg) rfl (hq.2.2.1 6 (by omega)) (rfl) k
        obtain ⟨d1, o1, ed, kc, k⟩ := lz_c (g := 7) (q := 0) (vs := [.ref (q 0), .int v8, .int (J (q 6) v3.toNatClampNeg)]) (rest := []) rfl rfl (by decide) (Or.inl ⟨_, rfl, rfl⟩) rfl k
        have e1 := xt7 (xs_lq hq) kc
        subst e1
        have k : nt_rn X _ 6 (51, [(0, .ref (p 24)), (1, .ref (q 0)), (2, .ref ru), (3, .int v3), (4, .int v4), (5, .int v5), (6, .long v6), (8, .int v8)], [.int (x7 q v8 (J (q 6) v3.toNatClampNeg) J)], me_w (lw M L) J) _ := k
        have k := ly_revb 1 (c' := (if (x7 q v8 (J (q 6) v3.toNatClampNeg) J) = 0 then 108 else 54, [(0, .ref (p 24)), (1, .ref (q 0)), (2, .ref ru), (3, .int v3), (4, .int v4), (5, .int v5), (6, .long v6), (8, .int v8)], [], me_w (lw M L) J)) rfl k
        by_cases h51 : (x7 q v8 (J (q 6) v3.toNatClampNeg) J) = 0
        · rw [if_pos h51] at k
          have k := ly_revb 2 (c' := (9, [(8, .int (v8 + (Int32.ofInt 1))), (0, .ref (p 24)), (1, .ref (q 0)), (2, .ref ru), (3, .int v3), (4, .int v4), (5, .int v5), (6, .long v6)], [], me_w (lw M L) J)) rfl k
          have k := nt_rn_w (a := [(8, .int (v8 + (Int32.ofInt 1))), (0, .ref (p 24)), (1, .ref (q 0)), (2, .ref ru), (3, .int v3), (4, .int v4), (5, .int v5), (6, .long v6)]) (b := [(0, .ref (p 24)), (1, .ref (q 0)), (2, .ref ru), (3, .int v3), (4, .int v4), (5, .int v5), (6, .long v6), (8, .int (v8 + (Int32.ofInt 1)))]) ⟨rfl, rfl, rfl, rfl, rfl, rfl, rfl, rfl, trivial⟩ rfl k
          have k := ih v5 v6 (v8 + (Int32.ofInt 1)) J L (lx_dec h18 hc) k
          rw [k, x6_9, if_neg h18, if_pos h33, if_pos h51]
        · rw [if_neg h51] at k
          have k := ly_revb 4 (c' := (59, [(0, .ref (p 24)), (1, .ref (q 0)), (2, .ref ru), (3, .int v3), (4, .int v4), (5, .int v5), (6, .long v6), (8, .int v8)], [.int v3, .int v8, .ref (q 0), .ref (p 24)], me_w (lw M L) J)) rfl k
          obtain ⟨d1, o1, ed, kc, k⟩ := lz_c (g := 8) (q := 1) (vs := [.ref (p 24), .ref (q 0), .int v8, .int v3]) (rest := []) rfl rfl (by decide) (Or.inr (Or.inl ⟨_, rfl, rfl⟩)) rfl k
          have e1 := xt8 hp hq hx kc
          subst e1
          have k : nt_rn X _ 6 (62, [(0, .ref (p 24)), (1, .ref (q 0)), (2, .ref ru), (3, .int v3), (4, .int v4), (5, .int v5), (6, .long v6), (8, .int v8)], [], me_w (lw M (x8 p q v8 v3 J L)) J) _ := k
          have k := ly_revb 1 (c' := (63, [(0, .ref (p 24)), (1, .ref (q 0)), (2, .ref ru), (3, .int v3), (4, .int v4), (5, .int v5), (6, .long v6), (8, .int v8)], [.ref (p 24)], me_w (lw M (x8 p q v8 v3 J L)) J)) rfl k
          have k := lz_get (a := (p 24)) (g := 0) (M := me_w (lw M (x8 p q v8 v3 J L)) J) (v := .ref (p 25)) rfl (nt_gfR rfl (hp.1 (24, 0, 25) (by decide))) k
          have k := ly_revb 1 (c' := (67, [(0, .ref (p 24)), (1, .ref (q 0)), (2, .ref ru), (3, .int v3), (4, .int v4), (5, .int v5), (6, .long v6), (8, .int v8)], [.ref ru, .ref (p 25)], me_w (lw M (x8 p q v8 v3 J L)) J)) rfl k
          have k := lz_get (a := ru) (g := 400) (M := me_w (lw M (x8 p q v8 v3 J L)) J) (v := .ref sp) rfl (nt_gfR rfl hs.1) k
          obtain ⟨d1, o1, ed, kc, k⟩ := lz_c (g := 41) (q := 1) (vs := [.ref (p 25), .ref sp]) (rest := []) rfl rfl (by decide) (Or.inr (Or.inl ⟨_, rfl, rfl⟩)) rfl k
          have e1 := xt41 hp hs kc
          subst e1
          have k : nt_rn X _ 6 (73, [(0, .ref (p 24)), (1, .ref (q 0)), (2, .ref ru), (3, .int v3), (4, .int v4), (5, .int v5), (6, .long v6), (8, .int v8)], [.int ((x41 p sp ln J (x8 p q v8 v3 J L)).1)], me_w (lw M ((x41 p sp ln J (x8 p q v8 v3 J L)).2.2)) ((x41 p sp ln J (x8 p q v8 v3 J L)).2.1)) _ := k
          have k := ly_revb 1 (c' := (if ((x41 p sp ln J (x8 p q v8 v3 J L)).1) = 0 then 108 else 76, [(0, .ref (p 24)), (1, .ref (q 0)), (2, .ref ru), (3, .int v3), (4, .int v4), (5, .int v5), (6, .long v6), (8, .int v8)], [], me_w (lw M ((x41 p sp ln J (x8 p q v8 v3 J L)).2.2)) ((x41 p sp ln J (x8 p q v8 v3 J L)).2.1))) rfl k
          by_cases h73 : ((x41 p sp ln J (x8 p q v8 v3 J L)).1) = 0
          · rw [if_pos h73] at k
            have k := ly_revb 2 (c' := (9, [(8, .int (v8 + (Int32.ofInt 1))), (0, .ref (p 24)), (1, .ref (q 0)), (2, .ref ru), (3, .int v3), (4, .int v4), (5, .int v5), (6, .long v6)], [], me_w (lw M ((x41 p sp ln J (x8 p q v8 v3 J L)).2.2)) ((x41 p sp ln J (x8 p q v8 v3 J L)).2.1))) rfl k
            have k := nt_rn_w (a := [(8, .int (v8 + (Int32.ofInt 1))), (0, .ref (p 24)), (1, .ref (q 0)), (2, .ref ru), (3, .int v3), (4, .int v4), (5, .int v5), (6, .long v6)]) (b := [(0, .ref (p 24)), (1, .ref (q 0)), (2, .ref ru), (3, .int v3), (4, .int v4), (5, .int v5), (6, .long v6), (8, .int (v8 + (Int32.ofInt 1)))]) ⟨rfl, rfl, rfl, rfl, rfl, rfl, rfl, rfl, trivial⟩ rfl k
            have k := ih v5 v6 (v8 + (Int32.ofInt 1)) ((x41 p sp ln J (x8 p q v8 v3 J L)).2.1) ((x41 p sp ln J (x8 p q v8 v3 J L)).2.2) (by rw [show ((x41 p sp ln J (x8 p q v8 v3 J L)).2.1) (q 1) 2 = J (q 1) 2 from congrFun (x41_frJ  (hx 1 25 (by omega) (by omega))) 2]; exact lx_dec h18 hc) k
            rw [k, x6_9, if_neg h18, if_pos h33, if_neg h51, if_pos h73]
          · rw [if_neg h73] at k
            have k := ly_revb 3 (c' := (if v5 = (Int32.ofInt (-1)) then 95 else 82, [(0, .ref (p 24)), (1, .ref (q 0)), (2, .ref ru), (3, .int v3), (4, .int v4), (5, .int v5), (6, .long v6), (8, .int v8)], [], me_w (lw M ((x41 p sp ln J (x8 p q v8 v3 J L)).2.2)) ((x41 p sp ln J (x8 p q v8 v3 J L)).2.1))) rfl k
            by_cases h79 : v5 = (Int32.ofInt (-1))
            · rw [if_pos h79] at k
              have k := ly_revb 3 (c' := (100, [(5, .int v8), (0, .ref (p 24)), (1, .ref (q 0)), (2, .ref ru), (3, .int v3), (4, .int v4), (6, .long v6), (8, .int v8)], [.ref (p 24)], me_w (lw M ((x41 p sp ln J (x8 p q v8 v3 J L)).2.2)) ((x41 p sp ln J (x8 p q v8 v3 J L)).2.1))) rfl k
              have k := lz_get (a := (p 24)) (g := 0) (M := me_w (lw M ((x41 p sp ln J (x8 p q v8 v3 J L)).2.2)) ((x41 p sp ln J (x8 p q v8 v3 J L)).2.1)) (v := .ref (p 25)) rfl (nt_gfR rfl (hp.1 (24, 0, 25) (by decide))) k
              obtain ⟨d1, o1, ed, kc, k⟩ := lz_c (g := 45) (q := 1) (vs := [.ref (p 25)]) (rest := []) rfl rfl (by decide) (Or.inr (Or.inl ⟨_, rfl, rfl⟩)) rfl k
              have e1 := xt45 hp kc
              subst e1
              have k : nt_rn X _ 6 (106, [(5, .int v8), (0, .ref (p 24)), (1, .ref (q 0)), (2, .ref ru), (3, .int v3), (4, .int v4), (6, .long v6), (8, .int v8)], [.long (x45 p ((x41 p sp ln J (x8 p q v8 v3 J L)).2.1) ((x41 p sp ln J (x8 p q v8 v3 J L)).2.2))], me_w (lw M ((x41 p sp ln J (x8 p q v8 v3 J L)).2.2)) ((x41 p sp ln J (x8 p q v8 v3 J L)).2.1)) _ := k
              have k := ly_revb 3 (c' := (9, [(8, .int (v8 + (Int32.ofInt 1))), (6, .long (x45 p ((x41 p sp ln J (x8 p q v8 v3 J L)).2.1) ((x41 p sp ln J (x8 p q v8 v3 J L)).2.2))), (5, .int v8), (0, .ref (p 24)), (1, .ref (q 0)), (2, .ref ru), (3, .int v3), (4, .int v4)], [], me_w (lw M ((x41 p sp ln J (x8 p q v8 v3 J L)).2.2)) ((x41 p sp ln J (x8 p q v8 v3 J L)).2.1))) rfl k
              have k := nt_rn_w (a := [(8, .int (v8 + (Int32.ofInt 1))), (6, .long (x45 p ((x41 p sp ln J (x8 p q v8 v3 J L)).2.1) ((x41 p sp ln J (x8 p q v8 v3 J L)).2.2))), (5, .int v8), (0, .ref (p 24)), (1, .ref (q 0)), (2, .ref ru), (3, .int v3), (4, .int v4)]) (b := [(0, .ref (p 24)), (1, .ref (q 0)), (2, .ref ru), (3, .int v3), (4, .int v4), (5, .int v8), (6, .long (x45 p ((x41 p sp ln J (x8 p q v8 v3 J L)).2.1) ((x41 p sp ln J (x8 p q v8 v3 J L)).2.2))), (8, .int (v8 + (Int32.ofInt 1)))]) ⟨rfl, rfl, rfl, rfl, rfl, rfl, rfl, rfl, trivial⟩ rfl k
              have k := ih v8 (x45 p ((x41 p sp ln J (x8 p q v8 v3 J L)).2.1) ((x41 p sp ln J (x8 p q v8 v3 J L)).2.2)) (v8 + (Int32.ofInt 1)) ((x41 p sp ln J (x8 p q v8 v3 J L)).2.1) ((x41 p sp ln J (x8 p q v8 v3 J L)).2.2) (by rw [show ((x41 p sp ln J (x8 p q v8 v3 J L)).2.1) (q 1) 2 = J (q 1) 2 from congrFun (x41_frJ  (hx 1 25 (by omega) (by omega))) 2]; exact lx_dec h18 hc) k
              rw [k, x6_9, if_neg h18, if_pos h33, if_neg h51, if_neg h73, if_pos h79]
            · rw [if_neg h79] at k
              have k := ly_revb 1 (c' := (83, [(0, .ref (p 24)), (1, .ref (q 0)), (2, .ref ru), (3, .int v3), (4, .int v4), (5, .int v5), (6, .long v6), (8, .int v8)], [.ref (p 24)], me_w (lw M ((x41 p sp ln J (x8 p q v8 v3 J L)).2.2)) ((x41 p sp ln J (x8 p q v8 v3 J L)).2.1))) rfl k
              have k := lz_get (a := (p 24)) (g := 0) (M := me_w (lw M ((x41 p sp ln J (x8 p q v8 v3 J L)).2.2)) ((x41 p sp ln J (x8 p q v8 v3 J L)).2.1)) (v := .ref (p 25)) rfl (nt_gfR rfl (hp.1 (24, 0, 25) (by decide))) k
              obtain ⟨d1, o1, ed, kc, k⟩ := lz_c (g := 45) (q := 1) (vs := [.ref (p 25)]) (rest := []) rfl rfl (by decide) (Or.inr (Or.inl ⟨_, rfl, rfl⟩)) rfl k
              have e1 := xt45 hp kc
              subst e1
              have k : nt_rn X _ 6 (89, [(0, .ref (p 24)), (1, .ref (q 0)), (2, .ref ru), (3, .int v3), (4, .int v4), (5, .int v5), (6, .long v6), (8, .int v8)], [.long (x45 p ((x41 p sp ln J (x8 p q v8 v3 J L)).2.1) ((x41 p sp ln J (x8 p q v8 v3 J L)).2.2))], me_w (lw M ((x41 p sp ln J (x8 p q v8 v3 J L)).2.2)) ((x41 p sp ln J (x8 p q v8 v3 J L)).2.1)) _ := k
              have k := ly_revb 3 (c' := (if 0 ≤ (lg_cmp (x45 p ((x41 p sp ln J (x8 p q v8 v3 J L)).2.1) ((x41 p sp ln J (x8 p q v8 v3 J L)).2.2)) v6) then 108 else 95, [(0, .ref (p 24)), (1, .ref (q 0)), (2, .ref ru), (3, .int v3), (4, .int v4), (5, .int v5), (6, .long v6), (8, .int v8)], [], me_w (lw M ((x41 p sp ln J (x8 p q v8 v3 J L)).2.2)) ((x41 p sp ln J (x8 p q v8 v3 J L)).2.1))) rfl k
              by_cases h92 : 0 ≤ (lg_cmp (x45 p ((x41 p sp ln J (x8 p q v8 v3 J L)).2.1) ((x41 p sp ln J (x8 p q v8 v3 J L)).2.2)) v6)
              · rw [if_pos h92] at k
                have k := ly_revb 2 (c' := (9, [(8, .int (v8 + (Int32.ofInt 1))), (0, .ref (p 24)), (1, .ref (q 0)), (2, .ref ru), (3, .int v3), (4, .int v4), (5, .int v5), (6, .long v6)], [], me_w (lw M ((x41 p sp ln J (x8 p q v8 v3 J L)).2.2)) ((x41 p sp ln J (x8 p q v8 v3 J L)).2.1))) rfl k
                have k := nt_rn_w (a := [(8, .int (v8 + (Int32.ofInt 1))), (0, .ref (p 24)), (1, .ref (q 0)), (2, .ref ru), (3, .int v3), (4, .int v4), (5, .int v5), (6, .long v6)]) (b := [(0, .ref (p 24)), (1, .ref (q 0)), (2, .ref ru), (3, .int v3), (4, .int v4), (5, .int v5), (6, .long v6), (8, .int (v8 + (Int32.ofInt 1)))]) ⟨rfl, rfl, rfl, rfl, rfl, rfl, rfl, rfl, trivial⟩ rfl k
                have k := ih v5 v6 (v8 + (Int32.ofInt 1)) ((x41 p sp ln J (x8 p q v8 v3 J L)).2.1) ((x41 p sp ln J (x8 p q v8 v3 J L)).2.2) (by rw [show ((x41 p sp ln J (x8 p q v8 v3 J L)).2.1) (q 1) 2 = J (q 1) 2 from congrFun (x41_frJ  (hx 1 25 (by omega) (by omega))) 2]; exact lx_dec h18 hc) k
                rw [k, x6_9, if_neg h18, if_pos h33, if_neg h51, if_neg h73, if_neg h79, if_pos h92]
              · rw [if_neg h92] at k
                have k := ly_revb 3 (c' := (100, [(5, .int v8), (0, .ref (p 24)), (1, .ref (q 0)), (2, .ref ru), (3, .int v3), (4, .int v4), (6, .long v6), (8, .int v8)], [.ref (p 24)], me_w (lw M ((x41 p sp ln J (x8 p q v8 v3 J L)).2.2)) ((x41 p sp ln J (x8 p q v8 v3 J L)).2.1))) rfl k
                have k := lz_get (a := (p 24)) (g := 0) (M := me_w (lw M ((x41 p sp ln J (x8 p q v8 v3 J L)).2.2)) ((x41 p sp ln J (x8 p q v8 v3 J L)).2.1)) (v := .ref (p 25)) rfl (nt_gfR rfl (hp.1 (24, 0, 25) (by decide))) k
                obtain ⟨d1, o1, ed, kc, k⟩ := lz_c (g := 45) (q := 1) (vs := [.ref (p 25)]) (rest := []) rfl rfl (by decide) (Or.inr (Or.inl ⟨_, rfl, rfl⟩)) rfl k
                have e1 := xt45 hp kc
                subst e1
                have k : nt_rn X _ 6 (106, [(5, .int v8), (0, .ref (p 24)), (1, .ref (q 0)), (2, .ref ru), (3, .int v3), (4, .int v4), (6, .long v6), (8, .int v8)], [.long (x45 p ((x41 p sp ln J (x8 p q v8 v3 J L)).2.1) ((x41 p sp ln J (x8 p q v8 v3 J L)).2.2))], me_w (lw M ((x41 p sp ln J (x8 p q v8 v3 J L)).2.2)) ((x41 p sp ln J (x8 p q v8 v3 J L)).2.1)) _ := k
                have k := ly_revb 3 (c' := (9, [(8, .int (v8 + (Int32.ofInt 1))), (6, .long (x45 p ((x41 p sp ln J (x8 p q v8 v3 J L)).2.1) ((x41 p sp ln J (x8 p q v8 v3 J L)).2.2))), (5, .int v8), (0, .ref (p 24)), (1, .ref (q 0)), (2, .ref ru), (3, .int v3), (4, .int v4)], [], me_w (lw M ((x41 p sp ln J (x8 p q v8 v3 J L)).2.2)) ((x41 p sp ln J (x8 p q v8 v3 J L)).2.1))) rfl k
                have k := nt_rn_w (a := [(8, .int (v8 + (Int32.ofInt 1))), (6, .long (x45 p ((x41 p sp ln J (x8 p q v8 v3 J L)).2.1) ((x41 p sp ln J (x8 p q v8 v3 J L)).2.2))), (5, .int v8), (0, .ref (p 24)), (1, .ref (q 0)), (2, .ref ru), (3, .int v3), (4, .int v4)]) (b := [(0, .ref (p 24)), (1, .ref (q 0)), (2, .ref ru), (3, .int v3), (4, .int v4), (5, .int v8), (6, .long (x45 p ((x41 p sp ln J (x8 p q v8 v3 J L)).2.1) ((x41 p sp ln J (x8 p q v8 v3 J L)).2.2))), (8, .int (v8 + (Int32.ofInt 1)))]) ⟨rfl, rfl, rfl, rfl, rfl, rfl, rfl, rfl, trivial⟩ rfl k
                have k := ih v8 (x45 p ((x41 p sp ln J (x8 p q v8 v3 J L)).2.1) ((x41 p sp ln J (x8 p q v8 v3 J L)).2.2)) (v8 + (Int32.ofInt 1)) ((x41 p sp ln J (x8 p q v8 v3 J L)).2.1) ((x41 p sp ln J (x8 p q v8 v3 J L)).2.2) (by rw [show ((x41 p sp ln J (x8 p q v8 v3 J L)).2.1) (q 1) 2 = J (q 1) 2 from congrFun (x41_frJ  (hx 1 25 (by omega) (by omega))) 2]; exact lx_dec h18 hc) k
                rw [k, x6_9, if_neg h18, if_pos h33, if_neg h51, if_neg h73, if_neg h79, if_neg h92]
      · rw [if_neg h33] at k
        have k := ly_revb 2 (c' := (9, [(8, .int (v8 + (Int32.ofInt 1))), (0, .ref (p 24)), (1, .ref (q 0)), (2, .ref ru), (3, .int v3), (4, .int v4), (5, .int v5), (6, .long v6)], [], me_w (lw M L) J)) rfl k
        have k := nt_rn_w (a := [(8, .int (v8 + (Int32.ofInt 1))), (0, .ref (p 24)), (1, .ref (q 0)), (2, .ref ru), (3, .int v3), (4, .int v4), (5, .int v5), (6, .long v6)]) (b := [(0, .ref (p 24)), (1, .ref (q 0)), (2, .ref ru), (3, .int v3), (4, .int v4), (5, .int v5), (6, .long v6), (8, .int (v8 + (Int32.ofInt 1)))]) ⟨rfl, rfl, rfl, rfl, rfl, rfl, rfl, rfl, trivial⟩ rfl k
        have k := ih v5 v6 (v8 + (Int32.ofInt 1)) J L (lx_dec h18 hc) k
        rw [k, x6_9, if_neg h18, if_neg h33]
theorem x6_9_rule {p : Nat → Nat} {q : Nat → Nat} {sp : Nat} {ln : Nat} {v3 : Int32} {v4 : Int32} {I : Nat → Int32 → Int64 → Int32 → (Nat → Nat → Int32) → (Nat → Nat → Int64) → Prop} {Q : Int32 × (Nat → Nat → Int32) × (Nat → Nat → Int64) → Prop} (h0 : ∀ (v5 : Int32) (v6 : Int64) (v8 : Int32) (J : Nat → Nat → Int32) (L : Nat → Nat → Int64), I 0 v5 v6 v8 J L → Q (v5, J, L)) (h1 : ∀ (c : Nat) (v5 : Int32) (v6 : Int64) (v8 : Int32) (J : Nat → Nat → Int32) (L : Nat → Nat → Int64), I (c + 1) v5 v6 v8 J L →
    if (J (q 1) 2) ≤ v8 then (Q (v5, J, L))
    else if (J (q 3) v8.toNatClampNeg) = v4 then if (x7 q v8 (J (q 6) v3.toNatClampNeg) J) = 0 then (I c v5 v6 (v8 + (Int32.ofInt 1)) J L)
        else if ((x41 p sp ln J (x8 p q v8 v3 J L)).1) = 0 then (I c v5 v6 (v8 + (Int32.ofInt 1)) ((x41 p sp ln J (x8 p q v8 v3 J L)).2.1) ((x41 p sp ln J (x8 p q v8 v3 J L)).2.2))
          else if v5 = (Int32.ofInt (-1)) then (I c v8 (x45 p ((x41 p sp ln J (x8 p q v8 v3 J L)).2.1) ((x41 p sp ln J (x8 p q v8 v3 J L)).2.2)) (v8 + (Int32.ofInt 1)) ((x41 p sp ln J (x8 p q v8 v3 J L)).2.1) ((x41 p sp ln J (x8 p q v8 v3 J L)).2.2))
            else if 0 ≤ (lg_cmp (x45 p ((x41 p sp ln J (x8 p q v8 v3 J L)).2.1) ((x41 p sp ln J (x8 p q v8 v3 J L)).2.2)) v6) then (I c v5 v6 (v8 + (Int32.ofInt 1)) ((x41 p sp ln J (x8 p q v8 v3 J L)).2.1) ((x41 p sp ln J (x8 p q v8 v3 J L)).2.2))
              else (I c v8 (x45 p ((x41 p sp ln J (x8 p q v8 v3 J L)).2.1) ((x41 p sp ln J (x8 p q v8 v3 J L)).2.2)) (v8 + (Int32.ofInt 1)) ((x41 p sp ln J (x8 p q v8 v3 J L)).2.1) ((x41 p sp ln J (x8 p q v8 v3 J L)).2.2))
      else (I c v5 v6 (v8 + (Int32.ofInt 1)) J L)) : ∀ (c : Nat) (v5 : Int32) (v6 : Int64) (v8 : Int32) (J : Nat → Nat → Int32) (L : Nat → Nat → Int64), I c v5 v6 v8 J L → Q (x6_9 p q sp ln v3 v4 c v5 v6 v8 J L) := by
  intro c
  induction c with
  | zero =>
    intro v5 v6 v8 J L hi
    rw [x6_9]
    exact h0 v5 v6 v8 J L hi
  | succ c ih =>
    intro v5 v6 v8 J L hi
    have hi := h1 c v5 v6 v8 J L hi
    rw [x6_9]
    by_cases h : (J (q 1) 2) ≤ v8
    · rw [if_pos h] at hi ⊢
      exact hi
    · rw [if_neg h] at hi ⊢
      by_cases h : (J (q 3) v8.toNatClampNeg) = v4
      · rw [if_pos h] at hi ⊢
        by_cases h : (x7 q v8 (J (q 6) v3.toNatClampNeg) J) = 0
        · rw [if_pos h] at hi ⊢
          exact ih _ _ _ _ _ hi
        · rw [if_neg h] at hi ⊢
          by_cases h : ((x41 p sp ln J (x8 p q v8 v3 J L)).1) = 0
          · rw [if_pos h] at hi ⊢
            exact ih _ _ _ _ _ hi
          · rw [if_neg h] at hi ⊢
            by_cases h : v5 = (Int32.ofInt (-1))
            · rw [if_pos h] at hi ⊢
              exact ih _ _ _ _ _ hi
            · rw [if_neg h] at hi ⊢
              by_cases h : 0 ≤ (lg_cmp (x45 p ((x41 p sp ln J (x8 p q v8 v3 J L)).2.1) ((x41 p sp ln J (x8 p q v8 v3 J L)).2.2)) v6)
              · rw [if_pos h] at hi ⊢
                exact ih _ _ _ _ _ hi
              · rw [if_neg h] at hi ⊢
                exact ih _ _ _ _ _ hi
      · rw [if_neg h] at hi ⊢
        exact ih _ _ _ _ _ hi
def x6 (p : Nat → Nat) (q : Nat → Nat) (sp : Nat) (ln : Nat) (v3 : Int32) (v4 : Int32) (J : Nat → Nat → Int32) (L : Nat → Nat → Int64) : Int32 × (Nat → Nat → Int32) × (Nat → Nat → Int64) := (x6_9 p q sp ln v3 v4 ((J (q 1) 2).toNatClampNeg) (Int32.ofInt (-1)) (Int64.ofNat 0) (Int32.ofInt 0) J L)
theorem xt6 {X : nt_X} {d : Nat} {M : nt_M} {o : Option Value × nt_M} {p : Nat → Nat} {q : Nat → Nat} {sp : Nat} {ln : Nat} {ru : Nat} {v3 : Int32} {v4 : Int32} {J : Nat → Nat → Int32} {L : Nat → Nat → Int64} (hp : xs_P M p) (hq : xs_Q M q) (hx : xs_X p q) (hs : xs_S M p ru sp ln) (k : nt_ev X d 6 [.ref (p 24), .ref (q 0), .ref ru, .int v3, .int v4] (me_w (lw M L) J) o) : o = (some (.int ((x6 p q sp ln v3 v4 J L).1)), me_w (lw M ((x6 p q sp ln v3 v4 J L).2.2)) ((x6 p q sp ln v3 v4 J L).2.1)) := by
  have k : nt_rn X d 6 (0, [(0, .ref (p 24)), (1, .ref (q 0)), (2, .ref ru), (3, .int v3), (4, .int v4)], [], me_w (lw M L) J) o := k
  have k := ly_revb 6 (c' := (9, [(8, .int (Int32.ofInt 0)), (6, .long (Int64.ofNat 0)), (5, .int (Int32.ofInt (-1))), (0, .ref (p 24)), (1, .ref (q 0)), (2, .ref ru), (3, .int v3), (4, .int v4)], [], me_w (lw M L) J)) rfl k
  have k := nt_rn_w (a := [(8, .int (Int32.ofInt 0)), (6, .long (Int64.ofNat 0)), (5, .int (Int32.ofInt (-1))), (0, .ref (p 24)), (1, .ref (q 0)), (2, .ref ru), (3, .int v3), (4, .int v4)]) (b := [(0, .ref (p 24)), (1, .ref (q 0)), (2, .ref ru), (3, .int v3), (4, .int v4), (5, .int (Int32.ofInt (-1))), (6, .long (Int64.ofNat 0)), (8, .int (Int32.ofInt 0))]) ⟨rfl, rfl, rfl, rfl, rfl, rfl, rfl, rfl, trivial⟩ rfl k
  have k := xt6_9 hp hq hx hs  ((J (q 1) 2).toNatClampNeg) (Int32.ofInt (-1)) (Int64.ofNat 0) (Int32.ofInt 0) J L (lx_beg (by decide)) k
  rw [k, x6]
theorem x6_9_frJ {p : Nat → Nat} {q : Nat → Nat} {sp : Nat} {ln : Nat} {v3 : Int32} {v4 : Int32} {b : Nat} : ∀ (c : Nat) (v5 : Int32) (v6 : Int64) (v8 : Int32) (J : Nat → Nat → Int32) (L : Nat → Nat → Int64), b ≠ p 25 → (x6_9 p q sp ln v3 v4 c v5 v6 v8 J L).2.1 b = J b := by
  intro c
  induction c with
  | zero =>
    intro v5 v6 v8 J L n0
    rw [x6_9]
    all_goals first | (dsimp only; exact (show J b = J b from rfl)) | exact (show J b = J b from rfl)
  | succ c ih =>
    intro v5 v6 v8 J L n0
    rw [x6_9]
    by_cases h : (J (q 1) 2) ≤ v8
    · rw [if_pos h]
      all_goals first | (dsimp only; exact (show J b = J b from rfl)) | exact (show J b = J b from rfl)
    · rw [if_neg h]
      by_cases h : (J (q 3) v8.toNatClampNeg) = v4
      · rw [if_pos h]
        by_cases h : (x7 q v8 (J (q 6) v3.toNatClampNeg) J) = 0
        · rw [if_pos h]
          exact (ih _ _ _ _ _ n0).trans (rfl)
        · rw [if_neg h]
          by_cases h : ((x41 p sp ln J (x8 p q v8 v3 J L)).1) = 0
          · rw [if_pos h]
            exact (ih _ _ _ _ _ n0).trans (x41_frJ  n0)
          · rw [if_neg h]
            by_cases h : v5 = (Int32.ofInt (-1))
            · rw [if_pos h]
              exact (ih _ _ _ _ _ n0).trans (x41_frJ  n0)
            · rw [if_neg h]
              by_cases h : 0 ≤ (lg_cmp (x45 p ((x41 p sp ln J (x8 p q v8 v3 J L)).2.1) ((x41 p sp ln J (x8 p q v8 v3 J L)).2.2)) v6)
              · rw [if_pos h]
                exact (ih _ _ _ _ _ n0).trans (x41_frJ  n0)
              · rw [if_neg h]
                exact (ih _ _ _ _ _ n0).trans (x41_frJ  n0)
      · rw [if_neg h]
        exact (ih _ _ _ _ _ n0).trans (rfl)
theorem x6_frJ {p : Nat → Nat} {q : Nat → Nat} {sp : Nat} {ln : Nat} {v3 : Int32} {v4 : Int32} {J : Nat → Nat → Int32} {L : Nat → Nat → Int64} {b : Nat} (n0 : b ≠ p 25) : (x6 p q sp ln v3 v4 J L).2.1 b = J b := by
  unfold x6
  exact (x6_9_frJ _ _ _ _ _ _ n0).trans (rfl)
theorem x6_9_frL {p : Nat → Nat} {q : Nat → Nat} {sp : Nat} {ln : Nat} {v3 : Int32} {v4 : Int32} {b : Nat} : ∀ (c : Nat) (v5 : Int32) (v6 : Int64) (v8 : Int32) (J : Nat → Nat → Int32) (L : Nat → Nat → Int64), b ≠ p 25 → b ≠ p 26 → b ≠ p 27 → (x6_9 p q sp ln v3 v4 c v5 v6 v8 J L).2.2 b = L b := by
  intro c
  induction c with
  | zero =>
    intro v5 v6 v8 J L n0 n1 n2
    rw [x6_9]
    all_goals first | (dsimp only; exact (show L b = L b from rfl)) | exact (show L b = L b from rfl)
  | succ c ih =>
    intro v5 v6 v8 J L n0 n1 n2
    rw [x6_9]
    by_cases h : (J (q 1) 2) ≤ v8
    · rw [if_pos h]
      all_goals first | (dsimp only; exact (show L b = L b from rfl)) | exact (show L b = L b from rfl)
    · rw [if_neg h]
      by_cases h : (J (q 3) v8.toNatClampNeg) = v4
      · rw [if_pos h]
        by_cases h : (x7 q v8 (J (q 6) v3.toNatClampNeg) J) = 0
        · rw [if_pos h]
          exact (ih _ _ _ _ _ n0 n1 n2).trans (rfl)
        · rw [if_neg h]
          by_cases h : ((x41 p sp ln J (x8 p q v8 v3 J L)).1) = 0
          · rw [if_pos h]
            exact (ih _ _ _ _ _ n0 n1 n2).trans ((x41_frL n0 n2).trans (x8_frL n1))
          · rw [if_neg h]
            by_cases h : v5 = (Int32.ofInt (-1))
            · rw [if_pos h]
              exact (ih _ _ _ _ _ n0 n1 n2).trans ((x41_frL n0 n2).trans (x8_frL n1))
            · rw [if_neg h]
              by_cases h : 0 ≤ (lg_cmp (x45 p ((x41 p sp ln J (x8 p q v8 v3 J L)).2.1) ((x41 p sp ln J (x8 p q v8 v3 J L)).2.2)) v6)
              · rw [if_pos h]
                exact (ih _ _ _ _ _ n0 n1 n2).trans ((x41_frL n0 n2).trans (x8_frL n1))
              · rw [if_neg h]
                exact (ih _ _ _ _ _ n0 n1 n2).trans ((x41_frL n0 n2).trans (x8_frL n1))
      · rw [if_neg h]
        exact (ih _ _ _ _ _ n0 n1 n2).trans (rfl)
theorem x6_frL {p : Nat → Nat} {q : Nat → Nat} {sp : Nat} {ln : Nat} {v3 : Int32} {v4 : Int32} {J : Nat → Nat → Int32} {L : Nat → Nat → Int64} {b : Nat} (n0 : b ≠ p 25) (n1 : b ≠ p 26) (n2 : b ≠ p 27) : (x6 p q sp ln v3 v4 J L).2.2 b = L b := by
  unfold x6
  exact (x6_9_frL _ _ _ _ _ _ n0 n1 n2).trans (rfl)
/-! $Calendar.fill -/
def x5_31 (p : Nat → Nat) (q : Nat → Nat) (sp : Nat) (ln : Nat) (v3 : Int32) (v4 : Int32) (v5 : Int32) (v6 : Int32) : Nat → Int32 → (Nat → Nat → Int32) → (Nat → Nat → Int64) → (Nat → Nat → Int32) × (Nat → Nat → Int64)
  | 0, v7, J, L => (J, L)
  | c + 1, v7, J, L => if v6 ≤ v7 then (J, L)
    else if ((x6 p q sp ln v3 v4 J L).1) = (Int32.ofInt (-1)) then ((x6 p q sp ln v3 v4 J L).2.1, (x6 p q sp ln v3 v4 J L).2.2)
      else (x5_31 p q sp ln v3 v4 v5 v6 c (v7 + (Int32.ofInt 1)) (x74 q ((x6 p q sp ln v3 v4 J L).1) v5 ((x6 p q sp ln v3 v4 J L).2.1)) ((x6 p q sp ln v3 v4 J L).2.2))
theorem xt5_31 {X : nt_X} {d : Nat} {M : nt_M} {o : Option Value × nt_M} {p : Nat → Nat} {q : Nat → Nat} {sp : Nat} {ln : Nat} {ru : Nat} {v3 : Int32} {v4 : Int32} {v5 : Int32} {v6 : Int32} (hp : xs_P M p) (hq : xs_Q M q) (hx : xs_X p q) (hs : xs_S M p ru sp ln) : ∀ (c : Nat) (v7 : Int32) (v8 : Int32) (J : Nat → Nat → Int32) (L : Nat → Nat → Int64), v6.toInt - v7.toInt ≤ c → nt_rn X d 5 (31, [(0, .ref (p 24)), (1, .ref (q 0)), (2, .ref ru), (3, .int v3), (4, .int v4), (5, .int v5), (6, .int v6), (7, .int v7), (8, .int v8)], [], me_w (lw M L) J) o → o = (none, me_w (lw M ((x5_31 p q sp ln v3 v4 v5 v6 c v7 J L).2)) ((x5_31 p q sp ln v3 v4 v5 v6 c v7 J L).1)) := by
  intro c
  induction c with
  | zero =>
    intro v7 v8 J L hc k
    have k := ly_revb 3 (c' := (if v6 ≤ v7 then 70 else 38, [(0, .ref (p 24)), (1, .ref (q 0)), (2, .ref ru), (3, .int v3), (4, .int v4), (5, .int v5), (6, .int v6), (7, .int v7), (8, .int v8)], [], me_w (lw M L) J)) rfl k
    have h35 : v6 ≤ v7 := lx_end hc
    rw [if_pos h35] at k
    have k := lz_rv rfl rfl k
    rw [k, x5_31]
  | succ c ih =>
    intro v7 v8 J L hc k
    have k := ly_revb 3 (c' := (if v6 ≤ v7 then 70 else 38, [(0, .ref (p 24)), (1, .ref (q 0)), (2, .ref ru), (3, .int v3), (4, .int v4), (5, .int v5), (6, .int v6), (7, .int v7), (8, .int v8)], [], me_w (lw M L) J)) rfl k
    by_cases h35 : v6 ≤ v7
    · rw [if_pos h35] at k
      have k := lz_rv rfl rfl k
      rw [k, x5_31, if_pos h35]
    · rw [if_neg h35] at k
      have k := ly_revb 5 (c' := (44, [(0, .ref (p 24)), (1, .ref (q 0)), (2, .ref ru), (3, .int v3), (4, .int v4), (5, .int v5), (6, .int v6), (7, .int v7), (8, .int v8)], [.int v4, .int v3, .ref ru, .ref (q 0), .ref (p 24)], me_w (lw M L) J)) rfl k
      obtain ⟨d1, o1, ed, kc, k⟩ := lz_c (g := 6) (q := 1) (vs := [.ref (p 24), .ref (q 0), .ref ru, .int v3, .int v4]) (rest := []) rfl rfl (by decide) (Or.inr (Or.inl ⟨_, rfl, rfl⟩)) rfl k
      have e1 := xt6 hp hq hx hs kc
      subst e1
      have k : nt_rn X _ 5 (47, [(0, .ref (p 24)), (1, .ref (q 0)), (2, .ref ru), (3, .int v3), (4, .int v4), (5, .int v5), (6, .int v6), (7, .int v7), (8, .int v8)], [.int ((x6 p q sp ln v3 v4 J L).1)], me_w (lw M ((x6 p q sp ln v3 v4 J L).2.2)) ((x6 p q sp ln v3 v4 J L).2.1)) _ := k
      have k := ly_revb 4 (c' := (if ((x6 p q sp ln v3 v4 J L).1) = (Int32.ofInt (-1)) then 55 else 56, [(8, .int ((x6 p q sp ln v3 v4 J L).1)), (0, .ref (p 24)), (1, .ref (q 0)), (2, .ref ru), (3, .int v3), (4, .int v4), (5, .int v5), (6, .int v6), (7, .int v7)], [], me_w (lw M ((x6 p q sp ln v3 v4 J L).2.2)) ((x6 p q sp ln v3 v4 J L).2.1))) rfl k
      by_cases h52 : ((x6 p q sp ln v3 v4 J L).1) = (Int32.ofInt (-1))
      · rw [if_pos h52] at k
        have k := lz_rv rfl rfl k
        rw [k, x5_31, if_neg h35, if_pos h52]
      · rw [if_neg h52] at k
        have k := ly_revb 3 (c' := (61, [(8, .int ((x6 p q sp ln v3 v4 J L).1)), (0, .ref (p 24)), (1, .ref (q 0)), (2, .ref ru), (3, .int v3), (4, .int v4), (5, .int v5), (6, .int v6), (7, .int v7)], [.int v5, .int ((x6 p q sp ln v3 v4 J L).1), .ref (q 0)], me_w (lw M ((x6 p q sp ln v3 v4 J L).2.2)) ((x6 p q sp ln v3 v4 J L).2.1))) rfl k
        obtain ⟨d1, o1, ed, kc, k⟩ := lz_c (g := 74) (q := 1) (vs := [.ref (q 0), .int ((x6 p q sp ln v3 v4 J L).1), .int v5]) (rest := []) rfl rfl (by decide) (Or.inr (Or.inl ⟨_, rfl, rfl⟩)) rfl k
        have e1 := xt74 (xs_lq hq) kc
        subst e1
        have k : nt_rn X _ 5 (64, [(8, .int ((x6 p q sp ln v3 v4 J L).1)), (0, .ref (p 24)), (1, .ref (q 0)), (2, .ref ru), (3, .int v3), (4, .int v4), (5, .int v5), (6, .int v6), (7, .int v7)], [], me_w (lw M ((x6 p q sp ln v3 v4 J L).2.2)) (x74 q ((x6 p q sp ln v3 v4 J L).1) v5 ((x6 p q sp ln v3 v4 J L).2.1))) _ := k
        have k := ly_revb 2 (c' := (31, [(7, .int (v7 + (Int32.ofInt 1))), (8, .int ((x6 p q sp ln v3 v4 J L).1)), (0, .ref (p 24)), (1, .ref (q 0)), (2, .ref ru), (3, .int v3), (4, .int v4), (5, .int v5), (6, .int v6)], [], me_w (lw M ((x6 p q sp ln v3 v4 J L).2.2)) (x74 q ((x6 p q sp ln v3 v4 J L).1) v5 ((x6 p q sp ln v3 v4 J L).2.1)))) rfl k
        have k := nt_rn_w (a := [(7, .int (v7 + (Int32.ofInt 1))), (8, .int ((x6 p q sp ln v3 v4 J L).1)), (0, .ref (p 24)), (1, .ref (q 0)), (2, .ref ru), (3, .int v3), (4, .int v4), (5, .int v5), (6, .int v6)]) (b := [(0, .ref (p 24)), (1, .ref (q 0)), (2, .ref ru), (3, .int v3), (4, .int v4), (5, .int v5), (6, .int v6), (7, .int (v7 + (Int32.ofInt 1))), (8, .int ((x6 p q sp ln v3 v4 J L).1))]) ⟨rfl, rfl, rfl, rfl, rfl, rfl, rfl, rfl, rfl, trivial⟩ rfl k
        have k := ih (v7 + (Int32.ofInt 1)) ((x6 p q sp ln v3 v4 J L).1) (x74 q ((x6 p q sp ln v3 v4 J L).1) v5 ((x6 p q sp ln v3 v4 J L).2.1)) ((x6 p q sp ln v3 v4 J L).2.2) (lx_dec h35 hc) k
        rw [k, x5_31, if_neg h35, if_neg h52]
theorem x5_31_rule {p : Nat → Nat} {q : Nat → Nat} {sp : Nat} {ln : Nat} {v3 : Int32} {v4 : Int32} {v5 : Int32} {v6 : Int32} {I : Nat → Int32 → (Nat → Nat → Int32) → (Nat → Nat → Int64) → Prop} {Q : (Nat → Nat → Int32) × (Nat → Nat → Int64) → Prop} (h0 : ∀ (v7 : Int32) (J : Nat → Nat → Int32) (L : Nat → Nat → Int64), I 0 v7 J L → Q (J, L)) (h1 : ∀ (c : Nat) (v7 : Int32) (J : Nat → Nat → Int32) (L : Nat → Nat → Int64), I (c + 1) v7 J L →
    if v6 ≤ v7 then (Q (J, L))
    else if ((x6 p q sp ln v3 v4 J L).1) = (Int32.ofInt (-1)) then (Q ((x6 p q sp ln v3 v4 J L).2.1, (x6 p q sp ln v3 v4 J L).2.2))
      else (I c (v7 + (Int32.ofInt 1)) (x74 q ((x6 p q sp ln v3 v4 J L).1) v5 ((x6 p q sp ln v3 v4 J L).2.1)) ((x6 p q sp ln v3 v4 J L).2.2))) : ∀ (c : Nat) (v7 : Int32) (J : Nat → Nat → Int32) (L : Nat → Nat → Int64), I c v7 J L → Q (x5_31 p q sp ln v3 v4 v5 v6 c v7 J L) := by
  intro c
  induction c with
  | zero =>
    intro v7 J L hi
    rw [x5_31]
    exact h0 v7 J L hi
  | succ c ih =>
    intro v7 J L hi
    have hi := h1 c v7 J L hi
    rw [x5_31]
    by_cases h : v6 ≤ v7
    · rw [if_pos h] at hi ⊢
      exact hi
    · rw [if_neg h] at hi ⊢
      by_cases h : ((x6 p q sp ln v3 v4 J L).1) = (Int32.ofInt (-1))
      · rw [if_pos h] at hi ⊢
        exact hi
      · rw [if_neg h] at hi ⊢
        exact ih _ _ _ hi
def x5 (p : Nat → Nat) (q : Nat → Nat) (sp : Nat) (ln : Nat) (v3 : Int32) (v4 : Int32) (J : Nat → Nat → Int32) (L : Nat → Nat → Int64) : (Nat → Nat → Int32) × (Nat → Nat → Int64) := (x5_31 p q sp ln v3 v4 (J (q 6) v3.toNatClampNeg) (if (x72 q J) < (x68 q (J (q 6) v3.toNatClampNeg) v4 J) then (x72 q J) else (x68 q (J (q 6) v3.toNatClampNeg) v4 J)) ((if (x72 q J) < (x68 q (J (q 6) v3.toNatClampNeg) v4 J) then (x72 q J) else (x68 q (J (q 6) v3.toNatClampNeg) v4 J)).toNatClampNeg) (Int32.ofInt 0) J L)
theorem xt5 {X : nt_X} {d : Nat} {M : nt_M} {o : Option Value × nt_M} {p : Nat → Nat} {q : Nat → Nat} {sp : Nat} {ln : Nat} {ru : Nat} {v3 : Int32} {v4 : Int32} {J : Nat → Nat → Int32} {L : Nat → Nat → Int64} (hp : xs_P M p) (hq : xs_Q M q) (hx : xs_X p q) (hs : xs_S M p ru sp ln) (k : nt_ev X d 5 [.ref (p 24), .ref (q 0), .ref ru, .int v3, .int v4] (me_w (lw M L) J) o) : o = (none, me_w (lw M ((x5 p q sp ln v3 v4 J L).2)) ((x5 p q sp ln v3 v4 J L).1)) := by
  have k : nt_rn X d 5 (0, [(0, .ref (p 24)), (1, .ref (q 0)), (2, .ref ru), (3, .int v3), (4, .int v4)], [], me_w (lw M L) J) o := k
  have k := ly_revb 1 (c' := (1, [(0, .ref (p 24)), (1, .ref (q 0)), (2, .ref ru), (3, .int v3), (4, .int v4)], [.ref (q 0)], me_w (lw M L) J)) rfl k
  have k := lz_get (a := (q 0)) (g := 600) (M := me_w (lw M L) J) (v := .ref (q 1)) rfl (nt_gfR rfl (hq.1 (0, 0, 1) (by decide))) k
  have k := lz_get (a := (q 1)) (g := 809) (M := me_w (lw M L) J) (v := .ref (q 6)) rfl (nt_gfR rfl (hq.1 (1, 9, 6) (by decide))) k
  have k := ly_revb 1 (c' := (8, [(0, .ref (p 24)), (1, .ref (q 0)), (2, .ref ru), (3, .int v3), (4, .int v4)], [.int v3, .ref (q 6)], me_w (lw M L) J)) rfl k
  have k := mx_iald (v := J (q 6) v3.toNatClampNeg) rfl (hq.2.2.1 6 (by omega)) (rfl) k
  have k := ly_revb 4 (c' := (16, [(5, .int (J (q 6) v3.toNatClampNeg)), (0, .ref (p 24)), (1, .ref (q 0)), (2, .ref ru), (3, .int v3), (4, .int v4)], [.int v4, .int (J (q 6) v3.toNatClampNeg), .ref (q 0)], me_w (lw M L) J)) rfl k
  obtain ⟨d1, o1, ed, kc, k⟩ := lz_c (g := 68) (q := 1) (vs := [.ref (q 0), .int (J (q 6) v3.toNatClampNeg), .int v4]) (rest := []) rfl rfl (by decide) (Or.inr (Or.inl ⟨_, rfl, rfl⟩)) rfl k
  have e1 := xt68 (xs_lq hq) kc
  subst e1
  have k : nt_rn X _ 5 (19, [(5, .int (J (q 6) v3.toNatClampNeg)), (0, .ref (p 24)), (1, .ref (q 0)), (2, .ref ru), (3, .int v3), (4, .int v4)], [.int (x68 q (J (q 6) v3.toNatClampNeg) v4 J)], me_w (lw M L) J) _ := k
  have k := ly_revb 1 (c' := (20, [(5, .int (J (q 6) v3.toNatClampNeg)), (0, .ref (p 24)), (1, .ref (q 0)), (2, .ref ru), (3, .int v3), (4, .int v4)], [.ref (q 0), .int (x68 q (J (q 6) v3.toNatClampNeg) v4 J)], me_w (lw M L) J)) rfl k
  obtain ⟨d1, o1, ed, kc, k⟩ := lz_c (g := 72) (q := 1) (vs := [.ref (q 0)]) (rest := [.int (x68 q (J (q 6) v3.toNatClampNeg) v4 J)]) rfl rfl (by decide) (Or.inr (Or.inl ⟨_, rfl, rfl⟩)) rfl k
  have e1 := xt72 (xs_lq hq) kc
  subst e1
  have k : nt_rn X _ 5 (23, [(5, .int (J (q 6) v3.toNatClampNeg)), (0, .ref (p 24)), (1, .ref (q 0)), (2, .ref ru), (3, .int v3), (4, .int v4)], [.int (x72 q J), .int (x68 q (J (q 6) v3.toNatClampNeg) v4 J)], me_w (lw M L) J) _ := k
  have k := mx_min rfl k
  have k := ly_revb 3 (c' := (31, [(7, .int (Int32.ofInt 0)), (6, .int (if (x72 q J) < (x68 q (J (q 6) v3.toNatClampNeg) v4 J) then (x72 q J) else (x68 q (J (q 6) v3.toNatClampNeg) v4 J))), (5, .int (J (q 6) v3.toNatClampNeg)), (0, .ref (p 24)), (1, .ref (q 0)), (2, .ref ru), (3, .int v3), (4, .int v4)], [], me_w (lw M L) J)) rfl k
  have k := nt_rn_w (a := [(7, .int (Int32.ofInt 0)), (6, .int (if (x72 q J) < (x68 q (J (q 6) v3.toNatClampNeg) v4 J) then (x72 q J) else (x68 q (J (q 6) v3.toNatClampNeg) v4 J))), (5, .int (J (q 6) v3.toNatClampNeg)), (0, .ref (p 24)), (1, .ref (q 0)), (2, .ref ru), (3, .int v3), (4, .int v4)]) (b := [(0, .ref (p 24)), (1, .ref (q 0)), (2, .ref ru), (3, .int v3), (4, .int v4), (5, .int (J (q 6) v3.toNatClampNeg)), (6, .int (if (x72 q J) < (x68 q (J (q 6) v3.toNatClampNeg) v4 J) then (x72 q J) else (x68 q (J (q 6) v3.toNatClampNeg) v4 J))), (7, .int (Int32.ofInt 0)), (8, .int (Int32.ofInt 0))]) ⟨rfl, rfl, rfl, rfl, rfl, rfl, rfl, rfl, trivial⟩ rfl k
  have k := xt5_31 hp hq hx hs  ((if (x72 q J) < (x68 q (J (q 6) v3.toNatClampNeg) v4 J) then (x72 q J) else (x68 q (J (q 6) v3.toNatClampNeg) v4 J)).toNatClampNeg) (Int32.ofInt 0) (Int32.ofInt 0) J L (lx_beg (by decide)) k
  rw [k, x5]
theorem x5_31_frJ {p : Nat → Nat} {q : Nat → Nat} {sp : Nat} {ln : Nat} {v3 : Int32} {v4 : Int32} {v5 : Int32} {v6 : Int32} {b : Nat} : ∀ (c : Nat) (v7 : Int32) (J : Nat → Nat → Int32) (L : Nat → Nat → Int64), b ≠ p 25 → b ≠ q 0 → b ≠ q 14 → (x5_31 p q sp ln v3 v4 v5 v6 c v7 J L).1 b = J b := by
  intro c
  induction c with
  | zero =>
    intro v7 J L n0 n1 n2
    rw [x5_31]
    all_goals first | (dsimp only; exact (show J b = J b from rfl)) | exact (show J b = J b from rfl)
  | succ c ih =>
    intro v7 J L n0 n1 n2
    rw [x5_31]
    by_cases h : v6 ≤ v7
    · rw [if_pos h]
      all_goals first | (dsimp only; exact (show J b = J b from rfl)) | exact (show J b = J b from rfl)
    · rw [if_neg h]
      by_cases h : ((x6 p q sp ln v3 v4 J L).1) = (Int32.ofInt (-1))
      · rw [if_pos h]
        all_goals first | (dsimp only; exact (show ((x6 p q sp ln v3 v4 J L).2.1) b = J b from x6_frJ  n0)) | exact (show ((x6 p q sp ln v3 v4 J L).2.1) b = J b from x6_frJ  n0)
      · rw [if_neg h]
        exact (ih _ _ _ n0 n1 n2).trans ((x74_frJ  n1 n2).trans (x6_frJ  n0))
theorem x5_frJ {p : Nat → Nat} {q : Nat → Nat} {sp : Nat} {ln : Nat} {v3 : Int32} {v4 : Int32} {J : Nat → Nat → Int32} {L : Nat → Nat → Int64} {b : Nat} (n0 : b ≠ p 25) (n1 : b ≠ q 0) (n2 : b ≠ q 14) : (x5 p q sp ln v3 v4 J L).1 b = J b := by
  unfold x5
  exact (x5_31_frJ _ _ _ _ n0 n1 n2).trans (rfl)
theorem x5_31_frL {p : Nat → Nat} {q : Nat → Nat} {sp : Nat} {ln : Nat} {v3 : Int32} {v4 : Int32} {v5 : Int32} {v6 : Int32} {b : Nat} : ∀ (c : Nat) (v7 : Int32) (J : Nat → Nat → Int32) (L : Nat → Nat → Int64), b ≠ p 25 → b ≠ p 26 → b ≠ p 27 → (x5_31 p q sp ln v3 v4 v5 v6 c v7 J L).2 b = L b := by
  intro c
  induction c with
  | zero =>
    intro v7 J L n0 n1 n2
    rw [x5_31]
    all_goals first | (dsimp only; exact (show L b = L b from rfl)) | exact (show L b = L b from rfl)
  | succ c ih =>
    intro v7 J L n0 n1 n2
    rw [x5_31]
    by_cases h : v6 ≤ v7
    · rw [if_pos h]
      all_goals first | (dsimp only; exact (show L b = L b from rfl)) | exact (show L b = L b from rfl)
    · rw [if_neg h]
      by_cases h : ((x6 p q sp ln v3 v4 J L).1) = (Int32.ofInt (-1))
      · rw [if_pos h]
        all_goals first | (dsimp only; exact (show ((x6 p q sp ln v3 v4 J L).2.2) b = L b from x6_frL n0 n1 n2)) | exact (show ((x6 p q sp ln v3 v4 J L).2.2) b = L b from x6_frL n0 n1 n2)
      · rw [if_neg h]
        exact (ih _ _ _ n0 n1 n2).trans (x6_frL n0 n1 n2)
theorem x5_frL {p : Nat → Nat} {q : Nat → Nat} {sp : Nat} {ln : Nat} {v3 : Int32} {v4 : Int32} {J : Nat → Nat → Int32} {L : Nat → Nat → Int64} {b : Nat} (n0 : b ≠ p 25) (n1 : b ≠ p 26) (n2 : b ≠ p 27) : (x5 p q sp ln v3 v4 J L).2 b = L b := by
  unfold x5
  exact (x5_31_frL _ _ _ _ n0 n1 n2).trans (rfl)
/-! $Calendar.setOut -/
def x4_18 (p : Nat → Nat) (q : Nat → Nat) (sp : Nat) (ln : Nat) (v3 : Int32) (v4 : Int32) : Nat → Int32 → (Nat → Nat → Int32) → (Nat → Nat → Int64) → (Nat → Nat → Int32) × (Nat → Nat → Int64)
  | 0, v5, J, L => if (x67 q v4 J) = 0 then (J, L)
    else (nt_u (nt_u (nt_u J (q 10) v4.toNatClampNeg (Int32.ofInt 1)) (q 12) v4.toNatClampNeg v3) (q 16) v3.toNatClampNeg (Int32.ofInt 1), L)
  | c + 1, v5, J, L => if (J (q 1) 0) ≤ v5 then if (x67 q v4 J) = 0 then (J, L)
      else (nt_u (nt_u (nt_u J (q 10) v4.toNatClampNeg (Int32.ofInt 1)) (q 12) v4.toNatClampNeg v3) (q 16) v3.toNatClampNeg (Int32.ofInt 1), L)
    else (x4_18 p q sp ln v3 v4 c (v5 + (Int32.ofInt 1)) ((x5 p q sp ln v3 v5 J L).1) ((x5 p q sp ln v3 v5 J L).2))
theorem xt4_18 {X : nt_X} {d : Nat} {M : nt_M} {o : Option Value × nt_M} {p : Nat → Nat} {q : Nat → Nat} {sp : Nat} {ln : Nat} {ru : Nat} {v3 : Int32} {v4 : Int32} (hp : xs_P M p) (hq : xs_Q M q) (hx : xs_X p q) (hs : xs_S M p ru sp ln) : ∀ (c : Nat) (v5 : Int32) (J : Nat → Nat → Int32) (L : Nat → Nat → Int64), (J (q 1) 0).toInt - v5.toInt ≤ c → nt_rn X d 4 (18, [(0, .ref (p 24)), (1, .ref (q 0)), (2, .ref ru), (3, .int v3), (4, .int v4), (5, .int v5)], [], me_w (lw M L) J) o → o = (none, me_w (lw M ((x4_18 p q sp ln v3 v4 c v5 J L).2)) ((x4_18 p q sp ln v3 v4 c v5 J L).1)) := by
  intro c
  induction c with
  | zero =>
    intro v5 J L hc k
    have k := ly_revb 2 (c' := (21, [(0, .ref (p 24)), (1, .ref (q 0)), (2, .ref ru), (3, .int v3), (4, .int v4), (5, .int v5)], [.ref (q 0), .int v5], me_w (lw M L) J)) rfl k
    have k := lz_get (a := (q 0)) (g := 600) (M := me_w (lw M L) J) (v := .ref (q 1)) rfl (nt_gfR rfl (hq.1 (0, 0, 1) (by decide))) k
    have k := lz_get (a := (q 1)) (g := 800) (M := me_w (lw M L) J) (v := .int (J (q 1) 0)) rfl (congrArg Value.int (rfl)) k
    have k := ly_revb 1 (c' := (if (J (q 1) 0) ≤ v5 then 45 else 30, [(0, .ref (p 24)), (1, .ref (q 0)), (2, .ref ru), (3, .int v3), (4, .int v4), (5, .int v5)], [], me_w (lw M L) J)) rfl k
    have h27 : (J (q 1) 0) ≤ v5 := lx_end hc
    rw [if_pos h27] at k
    have k := ly_revb 2 (c' := (48, [(0, .ref (p 24)), (1, .ref (q 0)), (2, .ref ru), (3, .int v3), (4, .int v4), (5, .int v5)], [.int v4, .ref (q 0)], me_w (lw M L) J)) rfl k
    obtain ⟨d1, o1, ed, kc, k⟩ := lz_c (g := 67) (q := 1) (vs := [.ref (q 0), .int v4]) (rest := []) rfl rfl (by decide) (Or.inr (Or.inl ⟨_, rfl, rfl⟩)) rfl k
    have e1 := xt67 (xs_lq hq) kc
    subst e1
    have k : nt_rn X _ 4 (51, [(0, .ref (p 24)), (1, .ref (q 0)), (2, .ref ru), (3, .int v3), (4, .int v4), (5, .int v5)], [.int (x67 q v4 J)], me_w (lw M L) J) _ := k
    have k := ly_revb 1 (c' := (if (x67 q v4 J) = 0 then 77 else 54, [(0, .ref (p 24)), (1, .ref (q 0)), (2, .ref ru), (3, .int v3), (4, .int v4), (5, .int v5)], [], me_w (lw M L) J)) rfl k
    by_cases h51 : (x67 q v4 J) = 0
    · rw [if_pos h51] at k
      have k := lz_rv rfl rfl k
      rw [k, x4_18, if_pos h51]
    · rw [if_neg h51] at k
      have k := ly_revb 1 (c' := (55, [(0, .ref (p 24)), (1, .ref (q 0)), (2, .ref ru), (3, .int v3), (4, .int v4), (5, .int v5)], [.ref (q 0)], me_w (lw M L) J)) rfl k
      have k := lz_get (a := (q 0)) (g := 607) (M := me_w (lw M L) J) (v := .ref (q 10)) rfl (nt_gfR rfl (hq.1 (0, 7, 10) (by decide))) k
      have k := ly_revb 2 (c' := (61, [(0, .ref (p 24)), (1, .ref (q 0)), (2, .ref ru), (3, .int v3), (4, .int v4), (5, .int v5)], [.int (Int32.ofInt 1), .int v4, .ref (q 10)], me_w (lw M L) J)) rfl k
      have k := mx_iast (q := v4.toNatClampNeg) rfl rfl k
      have k : nt_rn X _ 4 (62, [(0, .ref (p 24)), (1, .ref (q 0)), (2, .ref ru), (3, .int v3), (4, .int v4), (5, .int v5)], [], me_w (lw M L) (nt_u J (q 10) v4.toNatClampNeg (Int32.ofInt 1))) _ := k
      have k := ly_revb 1 (c' := (63, [(0, .ref (p 24)), (1, .ref (q 0)), (2, .ref ru), (3, .int v3), (4, .int v4), (5, .int v5)], [.ref (q 0)], me_w (lw M L) (nt_u J (q 10) v4.toNatClampNeg (Int32.ofInt 1)))) rfl k
      have k := lz_get (a := (q 0)) (g := 609) (M := me_w (lw M L) (nt_u J (q 10) v4.toNatClampNeg (Int32.ofInt 1))) (v := .ref (q 12)) rfl (nt_gfR rfl (hq.1 (0, 9, 12) (by decide))) k
      have k := ly_revb 2 (c' := (69, [(0, .ref (p 24)), (1, .ref (q 0)), (2, .ref ru), (3, .int v3), (4, .int v4), (5, .int v5)], [.int v3, .int v4, .ref (q 12)], me_w (lw M L) (nt_u J (q 10) v4.toNatClampNeg (Int32.ofInt 1)))) rfl k
      have k := mx_iast (q := v4.toNatClampNeg) rfl rfl k
      have k : nt_rn X _ 4 (70, [(0, .ref (p 24)), (1, .ref (q 0)), (2, .ref ru), (3, .int v3), (4, .int v4), (5, .int v5)], [], me_w (lw M L) (nt_u (nt_u J (q 10) v4.toNatClampNeg (Int32.ofInt 1)) (q 12) v4.toNatClampNeg v3)) _ := k
      have k := ly_revb 1 (c' := (71, [(0, .ref (p 24)), (1, .ref (q 0)), (2, .ref ru), (3, .int v3), (4, .int v4), (5, .int v5)], [.ref (q 0)], me_w (lw M L) (nt_u (nt_u J (q 10) v4.toNatClampNeg (Int32.ofInt 1)) (q 12) v4.toNatClampNeg v3))) rfl k
      have k := lz_get (a := (q 0)) (g := 613) (M := me_w (lw M L) (nt_u (nt_u J (q 10) v4.toNatClampNeg (Int32.ofInt 1)) (q 12) v4.toNatClampNeg v3)) (v := .ref (q 16)) rfl (nt_gfR rfl (hq.1 (0, 13, 16) (by decide))) k
      have k := ly_revb 2 (c' := (76, [(0, .ref (p 24)), (1, .ref (q 0)), (2, .ref ru), (3, .int v3), (4, .int v4), (5, .int v5)], [.int (Int32.ofInt 1), .int v3, .ref (q 16)], me_w (lw M L) (nt_u (nt_u J (q 10) v4.toNatClampNeg (Int32.ofInt 1)) (q 12) v4.toNatClampNeg v3))) rfl k
      have k := mx_iast (q := v3.toNatClampNeg) rfl rfl k
      have k : nt_rn X _ 4 (77, [(0, .ref (p 24)), (1, .ref (q 0)), (2, .ref ru), (3, .int v3), (4, .int v4), (5, .int v5)], [], me_w (lw M L) (nt_u (nt_u (nt_u J (q 10) v4.toNatClampNeg (Int32.ofInt 1)) (q 12) v4.toNatClampNeg v3) (q 16) v3.toNatClampNeg (Int32.ofInt 1))) _ := k
      have k := lz_rv rfl rfl k
      rw [k, x4_18, if_neg h51]
  | succ c ih =>
    intro v5 J L hc k
    have k := ly_revb 2 (c' := (21, [(0, .ref (p 24)), (1, .ref (q 0)), (2, .ref ru), (3, .int v3), (4, .int v4), (5, .int v5)], [.ref (q 0), .int v5], me_w (lw M L) J)) rfl k
    have k := lz_get (a := (q 0)) (g := 600) (M := me_w (lw M L) J) (v := .ref (q 1)) rfl (nt_gfR rfl (hq.1 (0, 0, 1) (by decide))) k
    have k := lz_get (a := (q 1)) (g := 800) (M := me_w (lw M L) J) (v := .int (J (q 1) 0)) rfl (congrArg Value.int (rfl)) k
    have k := ly_revb 1 (c' := (if (J (q 1) 0) ≤ v5 then 45 else 30, [(0, .ref (p 24)), (1, .ref (q 0)), (2, .ref ru), (3, .int v3), (4, .int v4), (5, .int v5)], [], me_w (lw M L) J)) rfl k
    by_cases h27 : (J (q 1) 0) ≤ v5
    · rw [if_pos h27] at k
      have k := ly_revb 2 (c' := (48, [(0, .ref (p 24)), (1, .ref (q 0)), (2, .ref ru), (3, .int v3), (4, .int v4), (5, .int v5)], [.int v4, .ref (q 0)], me_w (lw M L) J)) rfl k
      obtain ⟨d1, o1, ed, kc, k⟩ := lz_c (g := 67) (q := 1) (vs := [.ref (q 0), .int v4]) (rest := []) rfl rfl (by decide) (Or.inr (Or.inl ⟨_, rfl, rfl⟩)) rfl k
      have e1 := xt67 (xs_lq hq) kc
      subst e1
      have k : nt_rn X _ 4 (51, [(0, .ref (p 24)), (1, .ref (q 0)), (2, .ref ru), (3, .int v3), (4, .int v4), (5, .int v5)], [.int (x67 q v4 J)], me_w (lw M L) J) _ := k
      have k := ly_revb 1 (c' := (if (x67 q v4 J) = 0 then 77 else 54, [(0, .ref (p 24)), (1, .ref (q 0)), (2, .ref ru), (3, .int v3), (4, .int v4), (5, .int v5)], [], me_w (lw M L) J)) rfl k
      by_cases h51 : (x67 q v4 J) = 0
      · rw [if_pos h51] at k
        have k := lz_rv rfl rfl k
        rw [k, x4_18, if_pos h27, if_pos h51]
      · rw [if_neg h51] at k
        have k := ly_revb 1 (c' := (55, [(0, .ref (p 24)), (1, .ref (q 0)), (2, .ref ru), (3, .int v3), (4, .int v4), (5, .int v5)], [.ref (q 0)], me_w (lw M L) J)) rfl k
        have k := lz_get (a := (q 0)) (g := 607) (M := me_w (lw M L) J) (v := .ref (q 10)) rfl (nt_gfR rfl (hq.1 (0, 7, 10) (by decide))) k
        have k := ly_revb 2 (c' := (61, [(0, .ref (p 24)), (1, .ref (q 0)), (2, .ref ru), (3, .int v3), (4, .int v4), (5, .int v5)], [.int (Int32.ofInt 1), .int v4, .ref (q 10)], me_w (lw M L) J)) rfl k
        have k := mx_iast (q := v4.toNatClampNeg) rfl rfl k
        have k : nt_rn X _ 4 (62, [(0, .ref (p 24)), (1, .ref (q 0)), (2, .ref ru), (3, .int v3), (4, .int v4), (5, .int v5)], [], me_w (lw M L) (nt_u J (q 10) v4.toNatClampNeg (Int32.ofInt 1))) _ := k
        have k := ly_revb 1 (c' := (63, [(0, .ref (p 24)), (1, .ref (q 0)), (2, .ref ru), (3, .int v3), (4, .int v4), (5, .int v5)], [.ref (q 0)], me_w (lw M L) (nt_u J (q 10) v4.toNatClampNeg (Int32.ofInt 1)))) rfl k
        have k := lz_get (a := (q 0)) (g := 609) (M := me_w (lw M L) (nt_u J (q 10) v4.toNatClampNeg (Int32.ofInt 1))) (v := .ref (q 12)) rfl (nt_gfR rfl (hq.1 (0, 9, 12) (by decide))) k
        have k := ly_revb 2 (c' := (69, [(0, .ref (p 24)), (1, .ref (q 0)), (2, .ref ru), (3, .int v3), (4, .int v4), (5, .int v5)], [.int v3, .int v4, .ref (q 12)], me_w (lw M L) (nt_u J (q 10) v4.toNatClampNeg (Int32.ofInt 1)))) rfl k
        have k := mx_iast (q := v4.toNatClampNeg) rfl rfl k
        have k : nt_rn X _ 4 (70, [(0, .ref (p 24)), (1, .ref (q 0)), (2, .ref ru), (3, .int v3), (4, .int v4), (5, .int v5)], [], me_w (lw M L) (nt_u (nt_u J (q 10) v4.toNatClampNeg (Int32.ofInt 1)) (q 12) v4.toNatClampNeg v3)) _ := k
        have k := ly_revb 1 (c' := (71, [(0, .ref (p 24)), (1, .ref (q 0)), (2, .ref ru), (3, .int v3), (4, .int v4), (5, .int v5)], [.ref (q 0)], me_w (lw M L) (nt_u (nt_u J (q 10) v4.toNatClampNeg (Int32.ofInt 1)) (q 12) v4.toNatClampNeg v3))) rfl k
        have k := lz_get (a := (q 0)) (g := 613) (M := me_w (lw M L) (nt_u (nt_u J (q 10) v4.toNatClampNeg (Int32.ofInt 1)) (q 12) v4.toNatClampNeg v3)) (v := .ref (q 16)) rfl (nt_gfR rfl (hq.1 (0, 13, 16) (by decide))) k
        have k := ly_revb 2 (c' := (76, [(0, .ref (p 24)), (1, .ref (q 0)), (2, .ref ru), (3, .int v3), (4, .int v4), (5, .int v5)], [.int (Int32.ofInt 1), .int v3, .ref (q 16)], me_w (lw M L) (nt_u (nt_u J (q 10) v4.toNatClampNeg (Int32.ofInt 1)) (q 12) v4.toNatClampNeg v3))) rfl k
        have k := mx_iast (q := v3.toNatClampNeg) rfl rfl k
        have k : nt_rn X _ 4 (77, [(0, .ref (p 24)), (1, .ref (q 0)), (2, .ref ru), (3, .int v3), (4, .int v4), (5, .int v5)], [], me_w (lw M L) (nt_u (nt_u (nt_u J (q 10) v4.toNatClampNeg (Int32.ofInt 1)) (q 12) v4.toNatClampNeg v3) (q 16) v3.toNatClampNeg (Int32.ofInt 1))) _ := k
        have k := lz_rv rfl rfl k
        rw [k, x4_18, if_pos h27, if_neg h51]
    · rw [if_neg h27] at k
      have k := ly_revb 5 (c' := (36, [(0, .ref (p 24)), (1, .ref (q 0)), (2, .ref ru), (3, .int v3), (4, .int v4), (5, .int v5)], [.int v5, .int v3, .ref ru, .ref (q 0), .ref (p 24)], me_w (lw M L) J)) rfl k
      obtain ⟨d1, o1, ed, kc, k⟩ := lz_c (g := 5) (q := 1) (vs := [.ref (p 24), .ref (q 0), .ref ru, .int v3, .int v5]) (rest := []) rfl rfl (by decide) (Or.inr (Or.inl ⟨_, rfl, rfl⟩)) rfl k
      have e1 := xt5 hp hq hx hs kc
      subst e1
      have k : nt_rn X _ 4 (39, [(0, .ref (p 24)), (1, .ref (q 0)), (2, .ref ru), (3, .int v3), (4, .int v4), (5, .int v5)], [], me_w (lw M ((x5 p q sp ln v3 v5 J L).2)) ((x5 p q sp ln v3 v5 J L).1)) _ := k
      have k := ly_revb 2 (c' := (18, [(5, .int (v5 + (Int32.ofInt 1))), (0, .ref (p 24)), (1, .ref (q 0)), (2, .ref ru), (3, .int v3), (4, .int v4)], [], me_w (lw M ((x5 p q sp ln v3 v5 J L).2)) ((x5 p q sp ln v3 v5 J L).1))) rfl k
      have k := nt_rn_w (a := [(5, .int (v5 + (Int32.ofInt 1))), (0, .ref (p 24)), (1, .ref (q 0)), (2, .ref ru), (3, .int v3), (4, .int v4)]) (b := [(0, .ref (p 24)), (1, .ref (q 0)), (2, .ref ru), (3, .int v3), (4, .int v4), (5, .int (v5 + (Int32.ofInt 1)))]) ⟨rfl, rfl, rfl, rfl, rfl, rfl, trivial⟩ rfl k
      have k := ih (v5 + (Int32.ofInt 1)) ((x5 p q sp ln v3 v5 J L).1) ((x5 p q sp ln v3 v5 J L).2) (by rw [show ((x5 p q sp ln v3 v5 J L).1) (q 1) 0 = J (q 1) 0 from congrFun (x5_frJ  (hx 1 25 (by omega) (by omega)) (hq.2.1 1 0 (by omega) (by omega) (by decide)) (hq.2.1 1 14 (by omega) (by omega) (by decide))) 0]; exact lx_dec h27 hc) k
      rw [k, x4_18, if_neg h27]
theorem x4_18_rule {p : Nat → Nat} {q : Nat → Nat} {sp : Nat} {ln : Nat} {v3 : Int32} {v4 : Int32} {I : Nat → Int32 → (Nat → Nat → Int32) → (Nat → Nat → Int64) → Prop} {Q : (Nat → Nat → Int32) × (Nat → Nat → Int64) → Prop} (h0 : ∀ (v5 : Int32) (J : Nat → Nat → Int32) (L : Nat → Nat → Int64), I 0 v5 J L → Q (if (x67 q v4 J) = 0 then (J, L)
    else (nt_u (nt_u (nt_u J (q 10) v4.toNatClampNeg (Int32.ofInt 1)) (q 12) v4.toNatClampNeg v3) (q 16) v3.toNatClampNeg (Int32.ofInt 1), L))) (h1 : ∀ (c : Nat) (v5 : Int32) (J : Nat → Nat → Int32) (L : Nat → Nat → Int64), I (c + 1) v5 J L →
    if (J (q 1) 0) ≤ v5 then if (x67 q v4 J) = 0 then (Q (J, L))
      else (Q (nt_u (nt_u (nt_u J (q 10) v4.toNatClampNeg (Int32.ofInt 1)) (q 12) v4.toNatClampNeg v3) (q 16) v3.toNatClampNeg (Int32.ofInt 1), L))
    else (I c (v5 + (Int32.ofInt 1)) ((x5 p q sp ln v3 v5 J L).1) ((x5 p q sp ln v3 v5 J L).2))) : ∀ (c : Nat) (v5 : Int32) (J : Nat → Nat → Int32) (L : Nat → Nat → Int64), I c v5 J L → Q (x4_18 p q sp ln v3 v4 c v5 J L) := by
  intro c
  induction c with
  | zero =>
    intro v5 J L hi
    rw [x4_18]
    exact h0 v5 J L hi
  | succ c ih =>
    intro v5 J L hi
    have hi := h1 c v5 J L hi
    rw [x4_18]
    by_cases h : (J (q 1) 0) ≤ v5
    · rw [if_pos h] at hi ⊢
      by_cases h : (x67 q v4 J) = 0
      · rw [if_pos h] at hi ⊢
        exact hi
      · rw [if_neg h] at hi ⊢
        exact hi
    · rw [if_neg h] at hi ⊢
      exact ih _ _ _ hi
def x4 (p : Nat → Nat) (q : Nat → Nat) (sp : Nat) (ln : Nat) (v3 : Int32) (J : Nat → Nat → Int32) (L : Nat → Nat → Int64) : (Nat → Nat → Int32) × (Nat → Nat → Int64) := (x4_18 p q sp ln v3 (J (q 6) v3.toNatClampNeg) ((J (q 1) 0).toNatClampNeg) (Int32.ofInt 0) J L)
theorem xt4 {X : nt_X} {d : Nat} {M : nt_M} {o : Option Value × nt_M} {p : Nat → Nat} {q : Nat → Nat} {sp : Nat} {ln : Nat} {ru : Nat} {v3 : Int32} {J : Nat → Nat → Int32} {L : Nat → Nat → Int64} (hp : xs_P M p) (hq : xs_Q M q) (hx : xs_X p q) (hs : xs_S M p ru sp ln) (k : nt_ev X d 4 [.ref (p 24), .ref (q 0), .ref ru, .int v3] (me_w (lw M L) J) o) : o = (none, me_w (lw M ((x4 p q sp ln v3 J L).2)) ((x4 p q sp ln v3 J L).1)) := by
  have k : nt_rn X d 4 (0, [(0, .ref (p 24)), (1, .ref (q 0)), (2, .ref ru), (3, .int v3)], [], me_w (lw M L) J) o := k
  have k := ly_revb 1 (c' := (1, [(0, .ref (p 24)), (1, .ref (q 0)), (2, .ref ru), (3, .int v3)], [.ref (q 0)], me_w (lw M L) J)) rfl k
  have k := lz_get (a := (q 0)) (g := 600) (M := me_w (lw M L) J) (v := .ref (q 1)) rfl (nt_gfR rfl (hq.1 (0, 0, 1) (by decide))) k
  have k := lz_get (a := (q 1)) (g := 809) (M := me_w (lw M L) J) (v := .ref (q 6)) rfl (nt_gfR rfl (hq.1 (1, 9, 6) (by decide))) k
  have k := ly_revb 1 (c' := (8, [(0, .ref (p 24)), (1, .ref (q 0)), (2, .ref ru), (3, .int v3)], [.int v3, .ref (q 6)], me_w (lw M L) J)) rfl k
  have k := mx_iald (v := J (q 6) v3.toNatClampNeg) rfl (hq.2.2.1 6 (by omega)) (rfl) k
  have k := ly_revb 5 (c' := (18, [(5, .int (Int32.ofInt 0)), (4, .int (J (q 6) v3.toNatClampNeg)), (0, .ref (p 24)), (1, .ref (q 0)), (2, .ref ru), (3, .int v3)], [], me_w (lw M L) J)) rfl k
  have k := nt_rn_w (a := [(5, .int (Int32.ofInt 0)), (4, .int (J (q 6) v3.toNatClampNeg)), (0, .ref (p 24)), (1, .ref (q 0)), (2, .ref ru), (3, .int v3)]) (b := [(0, .ref (p 24)), (1, .ref (q 0)), (2, .ref ru), (3, .int v3), (4, .int (J (q 6) v3.toNatClampNeg)), (5, .int (Int32.ofInt 0))]) ⟨rfl, rfl, rfl, rfl, rfl, rfl, trivial⟩ rfl k
  have k := xt4_18 hp hq hx hs  ((J (q 1) 0).toNatClampNeg) (Int32.ofInt 0) J L (lx_beg (by decide)) k
  rw [k, x4]
theorem x4_18_frJ {p : Nat → Nat} {q : Nat → Nat} {sp : Nat} {ln : Nat} {v3 : Int32} {v4 : Int32} {b : Nat} : ∀ (c : Nat) (v5 : Int32) (J : Nat → Nat → Int32) (L : Nat → Nat → Int64), b ≠ p 25 → b ≠ q 0 → b ≠ q 10 → b ≠ q 12 → b ≠ q 14 → b ≠ q 16 → (x4_18 p q sp ln v3 v4 c v5 J L).1 b = J b := by
  intro c
  induction c with
  | zero =>
    intro v5 J L n0 n1 n2 n3 n4 n5
    rw [x4_18]
    by_cases h : (x67 q v4 J) = 0
    · rw [if_pos h]
      all_goals first | (dsimp only; exact (show J b = J b from rfl)) | exact (show J b = J b from rfl)
    · rw [if_neg h]
      all_goals first | (dsimp only; exact (show (nt_u (nt_u (nt_u J (q 10) v4.toNatClampNeg (Int32.ofInt 1)) (q 12) v4.toNatClampNeg v3) (q 16) v3.toNatClampNeg (Int32.ofInt 1)) b = J b from (mu_o n5).trans ((mu_o n3).trans (mu_o n2)))) | exact (show (nt_u (nt_u (nt_u J (q 10) v4.toNatClampNeg (Int32.ofInt 1)) (q 12) v4.toNatClampNeg v3) (q 16) v3.toNatClampNeg (Int32.ofInt 1)) b = J b from (mu_o n5).trans ((mu_o n3).trans (mu_o n2)))
  | succ c ih =>
    intro v5 J L n0 n1 n2 n3 n4 n5
    rw [x4_18]
    by_cases h : (J (q 1) 0) ≤ v5
    · rw [if_pos h]
      by_cases h : (x67 q v4 J) = 0
      · rw [if_pos h]
        all_goals first | (dsimp only; exact (show J b = J b from rfl)) | exact (show J b = J b from rfl)
      · rw [if_neg h]
        all_goals first | (dsimp only; exact (show (nt_u (nt_u (nt_u J (q 10) v4.toNatClampNeg (Int32.ofInt 1)) (q 12) v4.toNatClampNeg v3) (q 16) v3.toNatClampNeg (Int32.ofInt 1)) b = J b from (mu_o n5).trans ((mu_o n3).trans (mu_o n2)))) | exact (show (nt_u (nt_u (nt_u J (q 10) v4.toNatClampNeg (Int32.ofInt 1)) (q 12) v4.toNatClampNeg v3) (q 16) v3.toNatClampNeg (Int32.ofInt 1)) b = J b from (mu_o n5).trans ((mu_o n3).trans (mu_o n2)))
    · rw [if_neg h]
      exact (ih _ _ _ n0 n1 n2 n3 n4 n5).trans (x5_frJ  n0 n1 n4)
theorem x4_frJ {p : Nat → Nat} {q : Nat → Nat} {sp : Nat} {ln : Nat} {v3 : Int32} {J : Nat → Nat → Int32} {L : Nat → Nat → Int64} {b : Nat} (n0 : b ≠ p 25) (n1 : b ≠ q 0) (n2 : b ≠ q 10) (n3 : b ≠ q 12) (n4 : b ≠ q 14) (n5 : b ≠ q 16) : (x4 p q sp ln v3 J L).1 b = J b := by
  unfold x4
  exact (x4_18_frJ _ _ _ _ n0 n1 n2 n3 n4 n5).trans (rfl)
theorem x4_18_frL {p : Nat → Nat} {q : Nat → Nat} {sp : Nat} {ln : Nat} {v3 : Int32} {v4 : Int32} {b : Nat} : ∀ (c : Nat) (v5 : Int32) (J : Nat → Nat → Int32) (L : Nat → Nat → Int64), b ≠ p 25 → b ≠ p 26 → b ≠ p 27 → (x4_18 p q sp ln v3 v4 c v5 J L).2 b = L b := by
  intro c
  induction c with
  | zero =>
    intro v5 J L n0 n1 n2
    rw [x4_18]
    by_cases h : (x67 q v4 J) = 0
    · rw [if_pos h]
      all_goals first | (dsimp only; exact (show L b = L b from rfl)) | exact (show L b = L b from rfl)
    · rw [if_neg h]
      all_goals first | (dsimp only; exact (show L b = L b from rfl)) | exact (show L b = L b from rfl)
  | succ c ih =>
    intro v5 J L n0 n1 n2
    rw [x4_18]
    by_cases h : (J (q 1) 0) ≤ v5
    · rw [if_pos h]
      by_cases h : (x67 q v4 J) = 0
      · rw [if_pos h]
        all_goals first | (dsimp only; exact (show L b = L b from rfl)) | exact (show L b = L b from rfl)
      · rw [if_neg h]
        all_goals first | (dsimp only; exact (show L b = L b from rfl)) | exact (show L b = L b from rfl)
    · rw [if_neg h]
      exact (ih _ _ _ n0 n1 n2).trans (x5_frL n0 n1 n2)
theorem x4_frL {p : Nat → Nat} {q : Nat → Nat} {sp : Nat} {ln : Nat} {v3 : Int32} {J : Nat → Nat → Int32} {L : Nat → Nat → Int64} {b : Nat} (n0 : b ≠ p 25) (n1 : b ≠ p 26) (n2 : b ≠ p 27) : (x4 p q sp ln v3 J L).2 b = L b := by
  unfold x4
  exact (x4_18_frL _ _ _ _ n0 n1 n2).trans (rfl)
/-! $Calendar.setOut -/
def x4N (p : Nat → Nat) (q : Nat → Nat) (v3 : Int32) (J : Nat → Nat → Int32) : (Nat → Nat → Int32) := if (x67 q (J (q 6) v3.toNatClampNeg) J) = 0 then J
  else (nt_u (nt_u (nt_u J (q 10) ((J (q 6) v3.toNatClampNeg).toNatClampNeg) (Int32.ofInt 1)) (q 12) ((J (q 6) v3.toNatClampNeg).toNatClampNeg) v3) (q 16) v3.toNatClampNeg (Int32.ofInt 1))
theorem xt4N {X : nt_X} {d : Nat} {M : nt_M} {o : Option Value × nt_M} {p : Nat → Nat} {q : Nat → Nat} {v3 : Int32} {J : Nat → Nat → Int32} (hp : xs_P M p) (hq : xs_Q M q) (hx : xs_X p q) (k : nt_ev X d 4 [.ref (p 24), .ref (q 0), .null, .int v3] (me_w M J) o) : o = (none, me_w M (x4N p q v3 J)) := by
  have k : nt_rn X d 4 (0, [(0, .ref (p 24)), (1, .ref (q 0)), (2, .null), (3, .int v3)], [], me_w M J) o := k
  have k := ly_revb 1 (c' := (1, [(0, .ref (p 24)), (1, .ref (q 0)), (2, .null), (3, .int v3)], [.ref (q 0)], me_w M J)) rfl k
  have k := lz_get (a := (q 0)) (g := 600) (M := me_w M J) (v := .ref (q 1)) rfl (nt_gfR rfl (hq.1 (0, 0, 1) (by decide))) k
  have k := lz_get (a := (q 1)) (g := 809) (M := me_w M J) (v := .ref (q 6)) rfl (nt_gfR rfl (hq.1 (1, 9, 6) (by decide))) k
  have k := ly_revb 1 (c' := (8, [(0, .ref (p 24)), (1, .ref (q 0)), (2, .null), (3, .int v3)], [.int v3, .ref (q 6)], me_w M J)) rfl k
  have k := mx_iald (v := J (q 6) v3.toNatClampNeg) rfl (hq.2.2.1 6 (by omega)) (rfl) k
  have k := ly_revb 5 (c' := (48, [(4, .int (J (q 6) v3.toNatClampNeg)), (0, .ref (p 24)), (1, .ref (q 0)), (2, .null), (3, .int v3)], [.int (J (q 6) v3.toNatClampNeg), .ref (q 0)], me_w M J)) rfl k
  obtain ⟨d1, o1, ed, kc, k⟩ := lz_c (g := 67) (q := 1) (vs := [.ref (q 0), .int (J (q 6) v3.toNatClampNeg)]) (rest := []) rfl rfl (by decide) (Or.inr (Or.inl ⟨_, rfl, rfl⟩)) rfl k
  have e1 := xt67 hq kc
  subst e1
  have k : nt_rn X _ 4 (51, [(4, .int (J (q 6) v3.toNatClampNeg)), (0, .ref (p 24)), (1, .ref (q 0)), (2, .null), (3, .int v3)], [.int (x67 q (J (q 6) v3.toNatClampNeg) J)], me_w M J) _ := k
  have k := ly_revb 1 (c' := (if (x67 q (J (q 6) v3.toNatClampNeg) J) = 0 then 77 else 54, [(4, .int (J (q 6) v3.toNatClampNeg)), (0, .ref (p 24)), (1, .ref (q 0)), (2, .null), (3, .int v3)], [], me_w M J)) rfl k
  by_cases h51 : (x67 q (J (q 6) v3.toNatClampNeg) J) = 0
  · rw [if_pos h51] at k
    have k := lz_rv rfl rfl k
    rw [k, x4N, if_pos h51]
  · rw [if_neg h51] at k
    have k := ly_revb 1 (c' := (55, [(4, .int (J (q 6) v3.toNatClampNeg)), (0, .ref (p 24)), (1, .ref (q 0)), (2, .null), (3, .int v3)], [.ref (q 0)], me_w M J)) rfl k
    have k := lz_get (a := (q 0)) (g := 607) (M := me_w M J) (v := .ref (q 10)) rfl (nt_gfR rfl (hq.1 (0, 7, 10) (by decide))) k
    have k := ly_revb 2 (c' := (61, [(4, .int (J (q 6) v3.toNatClampNeg)), (0, .ref (p 24)), (1, .ref (q 0)), (2, .null), (3, .int v3)], [.int (Int32.ofInt 1), .int (J (q 6) v3.toNatClampNeg), .ref (q 10)], me_w M J)) rfl k
    have k := mx_iast (q := (J (q 6) v3.toNatClampNeg).toNatClampNeg) rfl rfl k
    have k : nt_rn X _ 4 (62, [(4, .int (J (q 6) v3.toNatClampNeg)), (0, .ref (p 24)), (1, .ref (q 0)), (2, .null), (3, .int v3)], [], me_w M (nt_u J (q 10) ((J (q 6) v3.toNatClampNeg).toNatClampNeg) (Int32.ofInt 1))) _ := k
    have k := ly_revb 1 (c' := (63, [(4, .int (J (q 6) v3.toNatClampNeg)), (0, .ref (p 24)), (1, .ref (q 0)), (2, .null), (3, .int v3)], [.ref (q 0)], me_w M (nt_u J (q 10) ((J (q 6) v3.toNatClampNeg).toNatClampNeg) (Int32.ofInt 1)))) rfl k
    have k := lz_get (a := (q 0)) (g := 609) (M := me_w M (nt_u J (q 10) ((J (q 6) v3.toNatClampNeg).toNatClampNeg) (Int32.ofInt 1))) (v := .ref (q 12)) rfl (nt_gfR rfl (hq.1 (0, 9, 12) (by decide))) k
    have k := ly_revb 2 (c' := (69, [(4, .int (J (q 6) v3.toNatClampNeg)), (0, .ref (p 24)), (1, .ref (q 0)), (2, .null), (3, .int v3)], [.int v3, .int (J (q 6) v3.toNatClampNeg), .ref (q 12)], me_w M (nt_u J (q 10) ((J (q 6) v3.toNatClampNeg).toNatClampNeg) (Int32.ofInt 1)))) rfl k
    have k := mx_iast (q := (J (q 6) v3.toNatClampNeg).toNatClampNeg) rfl rfl k
    have k : nt_rn X _ 4 (70, [(4, .int (J (q 6) v3.toNatClampNeg)), (0, .ref (p 24)), (1, .ref (q 0)), (2, .null), (3, .int v3)], [], me_w M (nt_u (nt_u J (q 10) ((J (q 6) v3.toNatClampNeg).toNatClampNeg) (Int32.ofInt 1)) (q 12) ((J (q 6) v3.toNatClampNeg).toNatClampNeg) v3)) _ := k
    have k := ly_revb 1 (c' := (71, [(4, .int (J (q 6) v3.toNatClampNeg)), (0, .ref (p 24)), (1, .ref (q 0)), (2, .null), (3, .int v3)], [.ref (q 0)], me_w M (nt_u (nt_u J (q 10) ((J (q 6) v3.toNatClampNeg).toNatClampNeg) (Int32.ofInt 1)) (q 12) ((J (q 6) v3.toNatClampNeg).toNatClampNeg) v3))) rfl k
    have k := lz_get (a := (q 0)) (g := 613) (M := me_w M (nt_u (nt_u J (q 10) ((J (q 6) v3.toNatClampNeg).toNatClampNeg) (Int32.ofInt 1)) (q 12) ((J (q 6) v3.toNatClampNeg).toNatClampNeg) v3)) (v := .ref (q 16)) rfl (nt_gfR rfl (hq.1 (0, 13, 16) (by decide))) k
    have k := ly_revb 2 (c' := (76, [(4, .int (J (q 6) v3.toNatClampNeg)), (0, .ref (p 24)), (1, .ref (q 0)), (2, .null), (3, .int v3)], [.int (Int32.ofInt 1), .int v3, .ref (q 16)], me_w M (nt_u (nt_u J (q 10) ((J (q 6) v3.toNatClampNeg).toNatClampNeg) (Int32.ofInt 1)) (q 12) ((J (q 6) v3.toNatClampNeg).toNatClampNeg) v3))) rfl k
    have k := mx_iast (q := v3.toNatClampNeg) rfl rfl k
    have k : nt_rn X _ 4 (77, [(4, .int (J (q 6) v3.toNatClampNeg)), (0, .ref (p 24)), (1, .ref (q 0)), (2, .null), (3, .int v3)], [], me_w M (nt_u (nt_u (nt_u J (q 10) ((J (q 6) v3.toNatClampNeg).toNatClampNeg) (Int32.ofInt 1)) (q 12) ((J (q 6) v3.toNatClampNeg).toNatClampNeg) v3) (q 16) v3.toNatClampNeg (Int32.ofInt 1))) _ := k
    have k := lz_rv rfl rfl k
    rw [k, x4N, if_neg h51]
theorem x4N_frJ {p : Nat → Nat} {q : Nat → Nat} {v3 : Int32} {J : Nat → Nat → Int32} {b : Nat} (n0 : b ≠ q 10) (n1 : b ≠ q 12) (n2 : b ≠ q 16) : x4N p q v3 J b = J b := by
  unfold x4N
  by_cases h : (x67 q (J (q 6) v3.toNatClampNeg) J) = 0
  · rw [if_pos h]
    all_goals first | (dsimp only; exact (show J b = J b from rfl)) | exact (show J b = J b from rfl)
  · rw [if_neg h]
    all_goals first | (dsimp only; exact (show (nt_u (nt_u (nt_u J (q 10) ((J (q 6) v3.toNatClampNeg).toNatClampNeg) (Int32.ofInt 1)) (q 12) ((J (q 6) v3.toNatClampNeg).toNatClampNeg) v3) (q 16) v3.toNatClampNeg (Int32.ofInt 1)) b = J b from (mu_o n2).trans ((mu_o n1).trans (mu_o n0)))) | exact (show (nt_u (nt_u (nt_u J (q 10) ((J (q 6) v3.toNatClampNeg).toNatClampNeg) (Int32.ofInt 1)) (q 12) ((J (q 6) v3.toNatClampNeg).toNatClampNeg) v3) (q 16) v3.toNatClampNeg (Int32.ofInt 1)) b = J b from (mu_o n2).trans ((mu_o n1).trans (mu_o n0)))
/-! $Calendar.pass -/
def x1_111 (p : Nat → Nat) (q : Nat → Nat) (sp : Nat) (ln : Nat) (L : Nat → Nat → Int64) : Nat → Int32 → (Nat → Nat → Int32) → (Nat → Nat → Int32) × (Nat → Nat → Int64)
  | 0, v3, J => (nt_u (nt_u J (q 0) 2 ((J (q 0) 2) + (Int32.ofInt 1))) (q 0) 3 (Int32.ofInt 0), L)
  | c + 1, v3, J => if (J (q 1) 1) ≤ v3 then (nt_u (nt_u J (q 0) 2 ((J (q 0) 2) + (Int32.ofInt 1))) (q 0) 3 (Int32.ofInt 0), L)
    else if (J (q 10) v3.toNatClampNeg) = (Int32.ofInt 1) then (x1_111 p q sp ln L c (v3 + (Int32.ofInt 1)) (x9 q v3 J))
      else (x1_111 p q sp ln L c (v3 + (Int32.ofInt 1)) J)
theorem xt1_111 {X : nt_X} {d : Nat} {M : nt_M} {o : Option Value × nt_M} {p : Nat → Nat} {q : Nat → Nat} {sp : Nat} {ln : Nat} {ru : Nat} {v4 : Int32} {L : Nat → Nat → Int64} (hp : xs_P M p) (hq : xs_Q M q) (hx : xs_X p q) (hs : xs_S M p ru sp ln) : ∀ (c : Nat) (v3 : Int32) (J : Nat → Nat → Int32), (J (q 1) 1).toInt - v3.toInt ≤ c → nt_rn X d 1 (111, [(0, .ref (p 24)), (1, .ref (q 0)), (2, .ref ru), (3, .int v3), (4, .int v4)], [], me_w (lw M L) J) o → o = (none, me_w (lw M ((x1_111 p q sp ln L c v3 J).2)) ((x1_111 p q sp ln L c v3 J).1)) := by
  intro c
  induction c with
  | zero =>
    intro v3 J hc k
    have k := ly_revb 2 (c' := (113, [(0, .ref (p 24)), (1, .ref (q 0)), (2, .ref ru), (3, .int v3), (4, .int v4)], [.ref (q 0), .int v3], me_w (lw M L) J)) rfl k
    have k := lz_get (a := (q 0)) (g := 600) (M := me_w (lw M L) J) (v := .ref (q 1)) rfl (nt_gfR rfl (hq.1 (0, 0, 1) (by decide))) k
    have k := lz_get (a := (q 1)) (g := 801) (M := me_w (lw M L) J) (v := .int (J (q 1) 1)) rfl (congrArg Value.int (rfl)) k
    have k := ly_revb 1 (c' := (if (J (q 1) 1) ≤ v3 then 143 else 122, [(0, .ref (p 24)), (1, .ref (q 0)), (2, .ref ru), (3, .int v3), (4, .int v4)], [], me_w (lw M L) J)) rfl k
    have h119 : (J (q 1) 1) ≤ v3 := lx_end hc
    rw [if_pos h119] at k
    have k := ly_revb 2 (c' := (145, [(0, .ref (p 24)), (1, .ref (q 0)), (2, .ref ru), (3, .int v3), (4, .int v4)], [.ref (q 0), .ref (q 0)], me_w (lw M L) J)) rfl k
    have k := lz_get (a := (q 0)) (g := 602) (M := me_w (lw M L) J) (v := .int (J (q 0) 2)) rfl (congrArg Value.int (rfl)) k
    have k := ly_revb 2 (c' := (150, [(0, .ref (p 24)), (1, .ref (q 0)), (2, .ref ru), (3, .int v3), (4, .int v4)], [.int ((J (q 0) 2) + (Int32.ofInt 1)), .ref (q 0)], me_w (lw M L) J)) rfl k
    have k := me_put rfl (by decide) k
    have k : nt_rn X _ 1 (153, [(0, .ref (p 24)), (1, .ref (q 0)), (2, .ref ru), (3, .int v3), (4, .int v4)], [], me_w (lw M L) (nt_u J (q 0) 2 ((J (q 0) 2) + (Int32.ofInt 1)))) _ := k
    have k := ly_revb 2 (c' := (155, [(0, .ref (p 24)), (1, .ref (q 0)), (2, .ref ru), (3, .int v3), (4, .int v4)], [.int (Int32.ofInt 0), .ref (q 0)], me_w (lw M L) (nt_u J (q 0) 2 ((J (q 0) 2) + (Int32.ofInt 1))))) rfl k
    have k := me_put rfl (by decide) k
    have k : nt_rn X _ 1 (158, [(0, .ref (p 24)), (1, .ref (q 0)), (2, .ref ru), (3, .int v3), (4, .int v4)], [], me_w (lw M L) (nt_u (nt_u J (q 0) 2 ((J (q 0) 2) + (Int32.ofInt 1))) (q 0) 3 (Int32.ofInt 0))) _ := k
    have k := lz_rv rfl rfl k
    rw [k, x1_111]
  | succ c ih =>
    intro v3 J hc k
    have k := ly_revb 2 (c' := (113, [(0, .ref (p 24)), (1, .ref (q 0)), (2, .ref ru), (3, .int v3), (4, .int v4)], [.ref (q 0), .int v3], me_w (lw M L) J)) rfl k
    have k := lz_get (a := (q 0)) (g := 600) (M := me_w (lw M L) J) (v := .ref (q 1)) rfl (nt_gfR rfl (hq.1 (0, 0, 1) (by decide))) k
    have k := lz_get (a := (q 1)) (g := 801) (M := me_w (lw M L) J) (v := .int (J (q 1) 1)) rfl (congrArg Value.int (rfl)) k
    have k := ly_revb 1 (c' := (if (J (q 1) 1) ≤ v3 then 143 else 122, [(0, .ref (p 24)), (1, .ref (q 0)), (2, .ref ru), (3, .int v3), (4, .int v4)], [], me_w (lw M L) J)) rfl k
    by_cases h119 : (J (q 1) 1) ≤ v3
    · rw [if_pos h119] at k
      have k := ly_revb 2 (c' := (145, [(0, .ref (p 24)), (1, .ref (q 0)), (2, .ref ru), (3, .int v3), (4, .int v4)], [.ref (q 0), .ref (q 0)], me_w (lw M L) J)) rfl k
      have k := lz_get (a := (q 0)) (g := 602) (M := me_w (lw M L) J) (v := .int (J (q 0) 2)) rfl (congrArg Value.int (rfl)) k
      have k := ly_revb 2 (c' := (150, [(0, .ref (p 24)), (1, .ref (q 0)), (2, .ref ru), (3, .int v3), (4, .int v4)], [.int ((J (q 0) 2) + (Int32.ofInt 1)), .ref (q 0)], me_w (lw M L) J)) rfl k
      have k := me_put rfl (by decide) k
      have k : nt_rn X _ 1 (153, [(0, .ref (p 24)), (1, .ref (q 0)), (2, .ref ru), (3, .int v3), (4, .int v4)], [], me_w (lw M L) (nt_u J (q 0) 2 ((J (q 0) 2) + (Int32.ofInt 1)))) _ := k
      have k := ly_revb 2 (c' := (155, [(0, .ref (p 24)), (1, .ref (q 0)), (2, .ref ru), (3, .int v3), (4, .int v4)], [.int (Int32.ofInt 0), .ref (q 0)], me_w (lw M L) (nt_u J (q 0) 2 ((J (q 0) 2) + (Int32.ofInt 1))))) rfl k
      have k := me_put rfl (by decide) k
      have k : nt_rn X _ 1 (158, [(0, .ref (p 24)), (1, .ref (q 0)), (2, .ref ru), (3, .int v3), (4, .int v4)], [], me_w (lw M L) (nt_u (nt_u J (q 0) 2 ((J (q 0) 2) + (Int32.ofInt 1))) (q 0) 3 (Int32.ofInt 0))) _ := k
      have k := lz_rv rfl rfl k
      rw [k, x1_111, if_pos h119]
    · rw [if_neg h119] at k
      have k := ly_revb 1 (c' := (123, [(0, .ref (p 24)), (1, .ref (q 0)), (2, .ref ru), (3, .int v3), (4, .int v4)], [.ref (q 0)], me_w (lw M L) J)) rfl k
      have k := lz_get (a := (q 0)) (g := 607) (M := me_w (lw M L) J) (v := .ref (q 10)) rfl (nt_gfR rfl (hq.1 (0, 7, 10) (by decide))) k
      have k := ly_revb 1 (c' := (127, [(0, .ref (p 24)), (1, .ref (q 0)), (2, .ref ru), (3, .int v3), (4, .int v4)], [.int v3, .ref (q 10)], me_w (lw M L) J)) rfl k
      have k := mx_iald (v := J (q 10) v3.toNatClampNeg) rfl (hq.2.2.1 10 (by omega)) (rfl) k
      have k := ly_revb 2 (c' := (if (J (q 10) v3.toNatClampNeg) = (Int32.ofInt 1) then 132 else 137, [(0, .ref (p 24)), (1, .ref (q 0)), (2, .ref ru), (3, .int v3), (4, .int v4)], [], me_w (lw M L) J)) rfl k
      by_cases h129 : (J (q 10) v3.toNatClampNeg) = (Int32.ofInt 1)
      · rw [if_pos h129] at k
        have k := ly_revb 2 (c' := (134, [(0, .ref (p 24)), (1, .ref (q 0)), (2, .ref ru), (3, .int v3), (4, .int v4)], [.int v3, .ref (q 0)], me_w (lw M L) J)) rfl k
        obtain ⟨d1, o1, ed, kc, k⟩ := lz_c (g := 9) (q := 0) (vs := [.ref (q 0), .int v3]) (rest := []) rfl rfl (by decide) (Or.inl ⟨_, rfl, rfl⟩) rfl k
        have e1 := xt9 (xs_lq hq) kc
        subst e1
        have k : nt_rn X _ 1 (137, [(0, .ref (p 24)), (1, .ref (q 0)), (2, .ref ru), (3, .int v3), (4, .int v4)], [], me_w (lw M L) (x9 q v3 J)) _ := k
        have k := ly_revb 2 (c' := (111, [(3, .int (v3 + (Int32.ofInt 1))), (0, .ref (p 24)), (1, .ref (q 0)), (2, .ref ru), (4, .int v4)], [], me_w (lw M L) (x9 q v3 J))) rfl k
        have k := nt_rn_w (a := [(3, .int (v3 + (Int32.ofInt 1))), (0, .ref (p 24)), (1, .ref (q 0)), (2, .ref ru), (4, .int v4)]) (b := [(0, .ref (p 24)), (1, .ref (q 0)), (2, .ref ru), (3, .int (v3 + (Int32.ofInt 1))), (4, .int v4)]) ⟨rfl, rfl, rfl, rfl, rfl, trivial⟩ rfl k
        have k := ih (v3 + (Int32.ofInt 1)) (x9 q v3 J) (by rw [show (x9 q v3 J) (q 1) 1 = J (q 1) 1 from congrFun (x9_frJ  (hq.2.1 1 10 (by omega) (by omega) (by decide)) (hq.2.1 1 12 (by omega) (by omega) (by decide)) (hq.2.1 1 13 (by omega) (by omega) (by decide)) (hq.2.1 1 15 (by omega) (by omega) (by decide)) (hq.2.1 1 16 (by omega) (by omega) (by decide))) 1]; exact lx_dec h119 hc) k
        rw [k, x1_111, if_neg h119, if_pos h129]
      · rw [if_neg h129] at k
        have k := ly_revb 2 (c' := (111, [(3, .int (v3 + (Int32.ofInt 1))), (0, .ref (p 24)), (1, .ref (q 0)), (2, .ref ru), (4, .int v4)], [], me_w (lw M L) J)) rfl k
        have k := nt_rn_w (a := [(3, .int (v3 + (Int32.ofInt 1))), (0, .ref (p 24)), (1, .ref (q 0)), (2, .ref ru), (4, .int v4)]) (b := [(0, .ref (p 24)), (1, .ref (q 0)), (2, .ref ru), (3, .int (v3 + (Int32.ofInt 1))), (4, .int v4)]) ⟨rfl, rfl, rfl, rfl, rfl, trivial⟩ rfl k
        have k := ih (v3 + (Int32.ofInt 1)) J (lx_dec h119 hc) k
        rw [k, x1_111, if_neg h119, if_neg h129]
theorem x1_111_rule {p : Nat → Nat} {q : Nat → Nat} {sp : Nat} {ln : Nat} {L : Nat → Nat → Int64} {I : Nat → Int32 → (Nat → Nat → Int32) → Prop} {Q : (Nat → Nat → Int32) × (Nat → Nat → Int64) → Prop} (h0 : ∀ (v3 : Int32) (J : Nat → Nat → Int32), I 0 v3 J → Q (nt_u (nt_u J (q 0) 2 ((J (q 0) 2) + (Int32.ofInt 1))) (q 0) 3 (Int32.ofInt 0), L)) (h1 : ∀ (c : Nat) (v3 : Int32) (J : Nat → Nat → Int32), I (c + 1) v3 J →
    if (J (q 1) 1) ≤ v3 then (Q (nt_u (nt_u J (q 0) 2 ((J (q 0) 2) + (Int32.ofInt 1))) (q 0) 3 (Int32.ofInt 0), L))
    else if (J (q 10) v3.toNatClampNeg) = (Int32.ofInt 1) then (I c (v3 + (Int32.ofInt 1)) (x9 q v3 J))
      else (I c (v3 + (Int32.ofInt 1)) J)) : ∀ (c : Nat) (v3 : Int32) (J : Nat → Nat → Int32), I c v3 J → Q (x1_111 p q sp ln L c v3 J) := by
  intro c
  induction c with
  | zero =>
    intro v3 J hi
    rw [x1_111]
    exact h0 v3 J hi
  | succ c ih =>
    intro v3 J hi
    have hi := h1 c v3 J hi
    rw [x1_111]
    by_cases h : (J (q 1) 1) ≤ v3
    · rw [if_pos h] at hi ⊢
      exact hi
    · rw [if_neg h] at hi ⊢
      by_cases h : (J (q 10) v3.toNatClampNeg) = (Int32.ofInt 1)
      · rw [if_pos h] at hi ⊢
        exact ih _ _ hi
      · rw [if_neg h] at hi ⊢
        exact ih _ _ hi
def x1_48 (p : Nat → Nat) (q : Nat → Nat) (sp : Nat) (ln : Nat) : Nat → Int32 → (Nat → Nat → Int32) → (Nat → Nat → Int64) → (Nat → Nat → Int32) × (Nat → Nat → Int64)
  | 0, v3, J, L => (x1_111 p q sp ln L ((J (q 1) 1).toNatClampNeg) (Int32.ofInt 0) J)
  | c + 1, v3, J, L => if (J (q 1) 3) ≤ v3 then (x1_111 p q sp ln L ((J (q 1) 1).toNatClampNeg) (Int32.ofInt 0) J)
    else if (J (q 7) v3.toNatClampNeg) = (J (q 0) 2) then if (J (q 10) ((J (q 6) v3.toNatClampNeg).toNatClampNeg)) = 0 then (x1_48 p q sp ln c (v3 + (Int32.ofInt 1)) ((x4 p q sp ln v3 J L).1) ((x4 p q sp ln v3 J L).2))
        else (x1_48 p q sp ln c (v3 + (Int32.ofInt 1)) J L)
      else (x1_48 p q sp ln c (v3 + (Int32.ofInt 1)) J L)
theorem xt1_48 {X : nt_X} {d : Nat} {M : nt_M} {o : Option Value × nt_M} {p : Nat → Nat} {q : Nat → Nat} {sp : Nat} {ln : Nat} {ru : Nat} (hp : xs_P M p) (hq : xs_Q M q) (hx : xs_X p q) (hs : xs_S M p ru sp ln) : ∀ (c : Nat) (v3 : Int32) (v4 : Int32) (J : Nat → Nat → Int32) (L : Nat → Nat → Int64), (J (q 1) 3).toInt - v3.toInt ≤ c → nt_rn X d 1 (48, [(0, .ref (p 24)), (1, .ref (q 0)), (2, .ref ru), (3, .int v3), (4, .int v4)], [], me_w (lw M L) J) o → o = (none, me_w (lw M ((x1_48 p q sp ln c v3 J L).2)) ((x1_48 p q sp ln c v3 J L).1)) := by
  intro c
  induction c with
  | zero =>
    intro v3 v4 J L hc k
    have k := ly_revb 2 (c' := (50, [(0, .ref (p 24)), (1, .ref (q 0)), (2, .ref ru), (3, .int v3), (4, .int v4)], [.ref (q 0), .int v3], me_w (lw M L) J)) rfl k
    have k := lz_get (a := (q 0)) (g := 600) (M := me_w (lw M L) J) (v := .ref (q 1)) rfl (nt_gfR rfl (hq.1 (0, 0, 1) (by decide))) k
    have k := lz_get (a := (q 1)) (g := 803) (M := me_w (lw M L) J) (v := .int (J (q 1) 3)) rfl (congrArg Value.int (rfl)) k
    have k := ly_revb 1 (c' := (if (J (q 1) 3) ≤ v3 then 109 else 59, [(0, .ref (p 24)), (1, .ref (q 0)), (2, .ref ru), (3, .int v3), (4, .int v4)], [], me_w (lw M L) J)) rfl k
    have h56 : (J (q 1) 3) ≤ v3 := lx_end hc
    rw [if_pos h56] at k
    have k := ly_revb 2 (c' := (111, [(3, .int (Int32.ofInt 0)), (0, .ref (p 24)), (1, .ref (q 0)), (2, .ref ru), (4, .int v4)], [], me_w (lw M L) J)) rfl k
    have k := nt_rn_w (a := [(3, .int (Int32.ofInt 0)), (0, .ref (p 24)), (1, .ref (q 0)), (2, .ref ru), (4, .int v4)]) (b := [(0, .ref (p 24)), (1, .ref (q 0)), (2, .ref ru), (3, .int (Int32.ofInt 0)), (4, .int v4)]) ⟨rfl, rfl, rfl, rfl, rfl, trivial⟩ rfl k
    have k := xt1_111 hp hq hx hs  ((J (q 1) 1).toNatClampNeg) (Int32.ofInt 0) J (lx_beg (by decide)) k
    rw [k, x1_48]
  | succ c ih =>
    intro v3 v4 J L hc k
    have k := ly_revb 2 (c' := (50, [(0, .ref (p 24)), (1, .ref (q 0)), (2, .ref ru), (3, .int v3), (4, .int v4)], [.ref (q 0), .int v3], me_w (lw M L) J)) rfl k
    have k := lz_get (a := (q 0)) (g := 600) (M := me_w (lw M L) J) (v := .ref (q 1)) rfl (nt_gfR rfl (hq.1 (0, 0, 1) (by decide))) k
    have k := lz_get (a := (q 1)) (g := 803) (M := me_w (lw M L) J) (v := .int (J (q 1) 3)) rfl (congrArg Value.int (rfl)) k
    have k := ly_revb 1 (c' := (if (J (q 1) 3) ≤ v3 then 109 else 59, [(0, .ref (p 24)), (1, .ref (q 0)), (2, .ref ru), (3, .int v3), (4, .int v4)], [], me_w (lw M L) J)) rfl k
    by_cases h56 : (J (q 1) 3) ≤ v3
    · rw [if_pos h56] at k
      have k := ly_revb 2 (c' := (111, [(3, .int (Int32.ofInt 0)), (0, .ref (p 24)), (1, .ref (q 0)), (2, .ref ru), (4, .int v4)], [], me_w (lw M L) J)) rfl k
      have k := nt_rn_w (a := [(3, .int (Int32.ofInt 0)), (0, .ref (p 24)), (1, .ref (q 0)), (2, .ref ru), (4, .int v4)]) (b := [(0, .ref (p 24)), (1, .ref (q 0)), (2, .ref ru), (3, .int (Int32.ofInt 0)), (4, .int v4)]) ⟨rfl, rfl, rfl, rfl, rfl, trivial⟩ rfl k
      have k := xt1_111 hp hq hx hs  ((J (q 1) 1).toNatClampNeg) (Int32.ofInt 0) J (lx_beg (by decide)) k
      rw [k, x1_48, if_pos h56]
    · rw [if_neg h56] at k
      have k := ly_revb 1 (c' := (60, [(0, .ref (p 24)), (1, .ref (q 0)), (2, .ref ru), (3, .int v3), (4, .int v4)], [.ref (q 0)], me_w (lw M L) J)) rfl k
      have k := lz_get (a := (q 0)) (g := 600) (M := me_w (lw M L) J) (v := .ref (q 1)) rfl (nt_gfR rfl (hq.1 (0, 0, 1) (by decide))) k
      have k := lz_get (a := (q 1)) (g := 809) (M := me_w (lw M L) J) (v := .ref (q 6)) rfl (nt_gfR rfl (hq.1 (1, 9, 6) (by decide))) k
      have k := ly_revb 1 (c' := (67, [(0, .ref (p 24)), (1, .ref (q 0)), (2, .ref ru), (3, .int v3), (4, .int v4)], [.int v3, .ref (q 6)], me_w (lw M L) J)) rfl k
      have k := mx_iald (v := J (q 6) v3.toNatClampNeg) rfl (hq.2.2.1 6 (by omega)) (rfl) k
      have k := ly_revb 2 (c' := (71, [(4, .int (J (q 6) v3.toNatClampNeg)), (0, .ref (p 24)), (1, .ref (q 0)), (2, .ref ru), (3, .int v3)], [.ref (q 0)], me_w (lw M L) J)) rfl k
      have k := lz_get (a := (q 0)) (g := 600) (M := me_w (lw M L) J) (v := .ref (q 1)) rfl (nt_gfR rfl (hq.1 (0, 0, 1) (by decide))) k
      have k := lz_get (a := (q 1)) (g := 810) (M := me_w (lw M L) J) (v := .ref (q 7)) rfl (nt_gfR rfl (hq.1 (1, 10, 7) (by decide))) k
      have k := ly_revb 1 (c' := (78, [(4, .int (J (q 6) v3.toNatClampNeg)), (0, .ref (p 24)), (1, .ref (q 0)), (2, .ref ru), (3, .int v3)], [.int v3, .ref (q 7)], me_w (lw M L) J)) rfl k
      have k := mx_iald (v := J (q 7) v3.toNatClampNeg) rfl (hq.2.2.1 7 (by omega)) (rfl) k
      have k := ly_revb 1 (c' := (80, [(4, .int (J (q 6) v3.toNatClampNeg)), (0, .ref (p 24)), (1, .ref (q 0)), (2, .ref ru), (3, .int v3)], [.ref (q 0), .int (J (q 7) v3.toNatClampNeg)], me_w (lw M L) J)) rfl k
      have k := lz_get (a := (q 0)) (g := 602) (M := me_w (lw M L) J) (v := .int (J (q 0) 2)) rfl (congrArg Value.int (rfl)) k
      have k := ly_revb 1 (c' := (if (J (q 7) v3.toNatClampNeg) = (J (q 0) 2) then 86 else 103, [(4, .int (J (q 6) v3.toNatClampNeg)), (0, .ref (p 24)), (1, .ref (q 0)), (2, .ref ru), (3, .int v3)], [], me_w (lw M L) J)) rfl k
      by_cases h83 : (J (q 7) v3.toNatClampNeg) = (J (q 0) 2)
      · rw [if_pos h83] at k
        have k := ly_revb 1 (c' := (87, [(4, .int (J (q 6) v3.toNatClampNeg)), (0, .ref (p 24)), (1, .ref (q 0)), (2, .ref ru), (3, .int v3)], [.ref (q 0)], me_w (lw M L) J)) rfl k
        have k := lz_get (a := (q 0)) (g := 607) (M := me_w (lw M L) J) (v := .ref (q 10)) rfl (nt_gfR rfl (hq.1 (0, 7, 10) (by decide))) k
        have k := ly_revb 1 (c' := (92, [(4, .int (J (q 6) v3.toNatClampNeg)), (0, .ref (p 24)), (1, .ref (q 0)), (2, .ref ru), (3, .int v3)], [.int (J (q 6) v3.toNatClampNeg), .ref (q 10)], me_w (lw M L) J)) rfl k
        have k := mx_iald (v := J (q 10) ((J (q 6) v3.toNatClampNeg).toNatClampNeg)) rfl (hq.2.2.1 10 (by omega)) (rfl) k
        have k := ly_revb 1 (c' := (if (J (q 10) ((J (q 6) v3.toNatClampNeg).toNatClampNeg)) = 0 then 96 else 103, [(4, .int (J (q 6) v3.toNatClampNeg)), (0, .ref (p 24)), (1, .ref (q 0)), (2, .ref ru), (3, .int v3)], [], me_w (lw M L) J)) rfl k
        by_cases h93 : (J (q 10) ((J (q 6) v3.toNatClampNeg).toNatClampNeg)) = 0
        · rw [if_pos h93] at k
          have k := ly_revb 4 (c' := (100, [(4, .int (J (q 6) v3.toNatClampNeg)), (0, .ref (p 24)), (1, .ref (q 0)), (2, .ref ru), (3, .int v3)], [.int v3, .ref ru, .ref (q 0), .ref (p 24)], me_w (lw M L) J)) rfl k
          obtain ⟨d1, o1, ed, kc, k⟩ := lz_c (g := 4) (q := 1) (vs := [.ref (p 24), .ref (q 0), .ref ru, .int v3]) (rest := []) rfl rfl (by decide) (Or.inr (Or.inl ⟨_, rfl, rfl⟩)) rfl k
          have e1 := xt4 hp hq hx hs kc
          subst e1
          have k : nt_rn X _ 1 (103, [(4, .int (J (q 6) v3.toNatClampNeg)), (0, .ref (p 24)), (1, .ref (q 0)), (2, .ref ru), (3, .int v3)], [], me_w (lw M ((x4 p q sp ln v3 J L).2)) ((x4 p q sp ln v3 J L).1)) _ := k
          have k := ly_revb 2 (c' := (48, [(3, .int (v3 + (Int32.ofInt 1))), (4, .int (J (q 6) v3.toNatClampNeg)), (0, .ref (p 24)), (1, .ref (q 0)), (2, .ref ru)], [], me_w (lw M ((x4 p q sp ln v3 J L).2)) ((x4 p q sp ln v3 J L).1))) rfl k
          have k := nt_rn_w (a := [(3, .int (v3 + (Int32.ofInt 1))), (4, .int (J (q 6) v3.toNatClampNeg)), (0, .ref (p 24)), (1, .ref (q 0)), (2, .ref ru)]) (b := [(0, .ref (p 24)), (1, .ref (q 0)), (2, .ref ru), (3, .int (v3 + (Int32.ofInt 1))), (4, .int (J (q 6) v3.toNatClampNeg))]) ⟨rfl, rfl, rfl, rfl, rfl, trivial⟩ rfl k
          have k := ih (v3 + (Int32.ofInt 1)) (J (q 6) v3.toNatClampNeg) ((x4 p q sp ln v3 J L).1) ((x4 p q sp ln v3 J L).2) (by rw [show ((x4 p q sp ln v3 J L).1) (q 1) 3 = J (q 1) 3 from congrFun (x4_frJ  (hx 1 25 (by omega) (by omega)) (hq.2.1 1 0 (by omega) (by omega) (by decide)) (hq.2.1 1 10 (by omega) (by omega) (by decide)) (hq.2.1 1 12 (by omega) (by omega) (by decide)) (hq.2.1 1 14 (by omega) (by omega) (by decide)) (hq.2.1 1 16 (by omega) (by omega) (by decide))) 3]; exact lx_dec h56 hc) k
          rw [k, x1_48, if_neg h56, if_pos h83, if_pos h93]
        · rw [if_neg h93] at k
          have k := ly_revb 2 (c' := (48, [(3, .int (v3 + (Int32.ofInt 1))), (4, .int (J (q 6) v3.toNatClampNeg)), (0, .ref (p 24)), (1, .ref (q 0)), (2, .ref ru)], [], me_w (lw M L) J)) rfl k
          have k := nt_rn_w (a := [(3, .int (v3 + (Int32.ofInt 1))), (4, .int (J (q 6) v3.toNatClampNeg)), (0, .ref (p 24)), (1, .ref (q 0)), (2, .ref ru)]) (b := [(0, .ref (p 24)), (1, .ref (q 0)), (2, .ref ru), (3, .int (v3 + (Int32.ofInt 1))), (4, .int (J (q 6) v3.toNatClampNeg))]) ⟨rfl, rfl, rfl, rfl, rfl, trivial⟩ rfl k
          have k := ih (v3 + (Int32.ofInt 1)) (J (q 6) v3.toNatClampNeg) J L (lx_dec h56 hc) k
          rw [k, x1_48, if_neg h56, if_pos h83, if_neg h93]
      · rw [if_neg h83] at k
        have k := ly_revb 2 (c' := (48, [(3, .int (v3 + (Int32.ofInt 1))), (4, .int (J (q 6) v3.toNatClampNeg)), (0, .ref (p 24)), (1, .ref (q 0)), (2, .ref ru)], [], me_w (lw M L) J)) rfl k
        have k := nt_rn_w (a := [(3, .int (v3 + (Int32.ofInt 1))), (4, .int (J (q 6) v3.toNatClampNeg)), (0, .ref (p 24)), (1, .ref (q 0)), (2, .ref ru)]) (b := [(0, .ref (p 24)), (1, .ref (q 0)), (2, .ref ru), (3, .int (v3 + (Int32.ofInt 1))), (4, .int (J (q 6) v3.toNatClampNeg))]) ⟨rfl, rfl, rfl, rfl, rfl, trivial⟩ rfl k
        have k := ih (v3 + (Int32.ofInt 1)) (J (q 6) v3.toNatClampNeg) J L (lx_dec h56 hc) k
        rw [k, x1_48, if_neg h56, if_neg h83]
theorem x1_48_rule {p : Nat → Nat} {q : Nat → Nat} {sp : Nat} {ln : Nat} {I : Nat → Int32 → (Nat → Nat → Int32) → (Nat → Nat → Int64) → Prop} {Q : (Nat → Nat → Int32) × (Nat → Nat → Int64) → Prop} (h0 : ∀ (v3 : Int32) (J : Nat → Nat → Int32) (L : Nat → Nat → Int64), I 0 v3 J L → Q (x1_111 p q sp ln L ((J (q 1) 1).toNatClampNeg) (Int32.ofInt 0) J)) (h1 : ∀ (c : Nat) (v3 : Int32) (J : Nat → Nat → Int32) (L : Nat → Nat → Int64), I (c + 1) v3 J L →
    if (J (q 1) 3) ≤ v3 then (Q (x1_111 p q sp ln L ((J (q 1) 1).toNatClampNeg) (Int32.ofInt 0) J))
    else if (J (q 7) v3.toNatClampNeg) = (J (q 0) 2) then if (J (q 10) ((J (q 6) v3.toNatClampNeg).toNatClampNeg)) = 0 then (I c (v3 + (Int32.ofInt 1)) ((x4 p q sp ln v3 J L).1) ((x4 p q sp ln v3 J L).2))
        else (I c (v3 + (Int32.ofInt 1)) J L)
      else (I c (v3 + (Int32.ofInt 1)) J L)) : ∀ (c : Nat) (v3 : Int32) (J : Nat → Nat → Int32) (L : Nat → Nat → Int64), I c v3 J L → Q (x1_48 p q sp ln c v3 J L) := by
  intro c
  induction c with
  | zero =>
    intro v3 J L hi
    rw [x1_48]
    exact h0 v3 J L hi
  | succ c ih =>
    intro v3 J L hi
    have hi := h1 c v3 J L hi
    rw [x1_48]
    by_cases h : (J (q 1) 3) ≤ v3
    · rw [if_pos h] at hi ⊢
      exact hi
    · rw [if_neg h] at hi ⊢
      by_cases h : (J (q 7) v3.toNatClampNeg) = (J (q 0) 2)
      · rw [if_pos h] at hi ⊢
        by_cases h : (J (q 10) ((J (q 6) v3.toNatClampNeg).toNatClampNeg)) = 0
        · rw [if_pos h] at hi ⊢
          exact ih _ _ _ hi
        · rw [if_neg h] at hi ⊢
          exact ih _ _ _ hi
      · rw [if_neg h] at hi ⊢
        exact ih _ _ _ hi
def x1_2 (p : Nat → Nat) (q : Nat → Nat) (sp : Nat) (ln : Nat) (L : Nat → Nat → Int64) : Nat → Int32 → (Nat → Nat → Int32) → (Nat → Nat → Int32) × (Nat → Nat → Int64)
  | 0, v3, J => (x1_48 p q sp ln ((J (q 1) 3).toNatClampNeg) (Int32.ofInt 0) J L)
  | c + 1, v3, J => if (J (q 1) 1) ≤ v3 then (x1_48 p q sp ln ((J (q 1) 3).toNatClampNeg) (Int32.ofInt 0) J L)
    else if (J (q 10) v3.toNatClampNeg) = (Int32.ofInt 1) then if (x2 q v3 (J (q 0) 2) J) = 0 then (x1_2 p q sp ln L c (v3 + (Int32.ofInt 1)) J)
        else (x1_2 p q sp ln L c (v3 + (Int32.ofInt 1)) (x3 q v3 J))
      else (x1_2 p q sp ln L c (v3 + (Int32.ofInt 1)) J)
theorem xt1_2 {X : nt_X} {d : Nat} {M : nt_M} {o : Option Value × nt_M} {p : Nat → Nat} {q : Nat → Nat} {sp : Nat} {ln : Nat} {ru : Nat} {L : Nat → Nat → Int64} (hp : xs_P M p) (hq : xs_Q M q) (hx : xs_X p q) (hs : xs_S M p ru sp ln) : ∀ (c : Nat) (v3 : Int32) (J : Nat → Nat → Int32), (J (q 1) 1).toInt - v3.toInt ≤ c → nt_rn X d 1 (2, [(0, .ref (p 24)), (1, .ref (q 0)), (2, .ref ru), (3, .int v3)], [], me_w (lw M L) J) o → o = (none, me_w (lw M ((x1_2 p q sp ln L c v3 J).2)) ((x1_2 p q sp ln L c v3 J).1)) := by
  intro c
  induction c with
  | zero =>
    intro v3 J hc k
    have k := ly_revb 2 (c' := (4, [(0, .ref (p 24)), (1, .ref (q 0)), (2, .ref ru), (3, .int v3)], [.ref (q 0), .int v3], me_w (lw M L) J)) rfl k
    have k := lz_get (a := (q 0)) (g := 600) (M := me_w (lw M L) J) (v := .ref (q 1)) rfl (nt_gfR rfl (hq.1 (0, 0, 1) (by decide))) k
    have k := lz_get (a := (q 1)) (g := 801) (M := me_w (lw M L) J) (v := .int (J (q 1) 1)) rfl (congrArg Value.int (rfl)) k
    have k := ly_revb 1 (c' := (if (J (q 1) 1) ≤ v3 then 46 else 13, [(0, .ref (p 24)), (1, .ref (q 0)), (2, .ref ru), (3, .int v3)], [], me_w (lw M L) J)) rfl k
    have h10 : (J (q 1) 1) ≤ v3 := lx_end hc
    rw [if_pos h10] at k
    have k := ly_revb 2 (c' := (48, [(3, .int (Int32.ofInt 0)), (0, .ref (p 24)), (1, .ref (q 0)), (2, .ref ru)], [], me_w (lw M L) J)) rfl k
    have k := nt_rn_w (a := [(3, .int (Int32.ofInt 0)), (0, .ref (p 24)), (1, .ref (q 0)), (2, .ref ru)]) (b := [(0, .ref (p 24)), (1, .ref (q 0)), (2, .ref ru), (3, .int (Int32.ofInt 0)), (4, .int (Int32.ofInt 0))]) ⟨rfl, rfl, rfl, rfl, trivial⟩ rfl k
    have k := xt1_48 hp hq hx hs  ((J (q 1) 3).toNatClampNeg) (Int32.ofInt 0) (Int32.ofInt 0) J L (lx_beg (by decide)) k
    rw [k, x1_2]
  | succ c ih =>
    intro v3 J hc k
    have k := ly_revb 2 (c' := (4, [(0, .ref (p 24)), (1, .ref (q 0)), (2, .ref ru), (3, .int v3)], [.ref (q 0), .int v3], me_w (lw M L) J)) rfl k
    have k := lz_get (a := (q 0)) (g := 600) (M := me_w (lw M L) J) (v := .ref (q 1)) rfl (nt_gfR rfl (hq.1 (0, 0, 1) (by decide))) k
    have k := lz_get (a := (q 1)) (g := 801) (M := me_w (lw M L) J) (v := .int (J (q 1) 1)) rfl (congrArg Value.int (rfl)) k
    have k := ly_revb 1 (c' := (if (J (q 1) 1) ≤ v3 then 46 else 13, [(0, .ref (p 24)), (1, .ref (q 0)), (2, .ref ru), (3, .int v3)], [], me_w (lw M L) J)) rfl k
    by_cases h10 : (J (q 1) 1) ≤ v3
    · rw [if_pos h10] at k
      have k := ly_revb 2 (c' := (48, [(3, .int (Int32.ofInt 0)), (0, .ref (p 24)), (1, .ref (q 0)), (2, .ref ru)], [], me_w (lw M L) J)) rfl k
      have k := nt_rn_w (a := [(3, .int (Int32.ofInt 0)), (0, .ref (p 24)), (1, .ref (q 0)), (2, .ref ru)]) (b := [(0, .ref (p 24)), (1, .ref (q 0)), (2, .ref ru), (3, .int (Int32.ofInt 0)), (4, .int (Int32.ofInt 0))]) ⟨rfl, rfl, rfl, rfl, trivial⟩ rfl k
      have k := xt1_48 hp hq hx hs  ((J (q 1) 3).toNatClampNeg) (Int32.ofInt 0) (Int32.ofInt 0) J L (lx_beg (by decide)) k
      rw [k, x1_2, if_pos h10]
    · rw [if_neg h10] at k
      have k := ly_revb 1 (c' := (14, [(0, .ref (p 24)), (1, .ref (q 0)), (2, .ref ru), (3, .int v3)], [.ref (q 0)], me_w (lw M L) J)) rfl k
      have k := lz_get (a := (q 0)) (g := 607) (M := me_w (lw M L) J) (v := .ref (q 10)) rfl (nt_gfR rfl (hq.1 (0, 7, 10) (by decide))) k
      have k := ly_revb 1 (c' := (18, [(0, .ref (p 24)), (1, .ref (q 0)), (2, .ref ru), (3, .int v3)], [.int v3, .ref (q 10)], me_w (lw M L) J)) rfl k
      have k := mx_iald (v := J (q 10) v3.toNatClampNeg) rfl (hq.2.2.1 10 (by omega)) (rfl) k
      have k := ly_revb 2 (c' := (if (J (q 10) v3.toNatClampNeg) = (Int32.ofInt 1) then 23 else 40, [(0, .ref (p 24)), (1, .ref (q 0)), (2, .ref ru), (3, .int v3)], [], me_w (lw M L) J)) rfl k
      by_cases h20 : (J (q 10) v3.toNatClampNeg) = (Int32.ofInt 1)
      · rw [if_pos h20] at k
        have k := ly_revb 3 (c' := (26, [(0, .ref (p 24)), (1, .ref (q 0)), (2, .ref ru), (3, .int v3)], [.ref (q 0), .int v3, .ref (q 0)], me_w (lw M L) J)) rfl k
        have k := lz_get (a := (q 0)) (g := 602) (M := me_w (lw M L) J) (v := .int (J (q 0) 2)) rfl (congrArg Value.int (rfl)) k
        obtain ⟨d1, o1, ed, kc, k⟩ := lz_c (g := 2) (q := 0) (vs := [.ref (q 0), .int v3, .int (J (q 0) 2)]) (rest := []) rfl rfl (by decide) (Or.inl ⟨_, rfl, rfl⟩) rfl k
        have e1 := xt2 (xs_lq hq) kc
        subst e1
        have k : nt_rn X _ 1 (32, [(0, .ref (p 24)), (1, .ref (q 0)), (2, .ref ru), (3, .int v3)], [.int (x2 q v3 (J (q 0) 2) J)], me_w (lw M L) J) _ := k
        have k := ly_revb 1 (c' := (if (x2 q v3 (J (q 0) 2) J) = 0 then 40 else 35, [(0, .ref (p 24)), (1, .ref (q 0)), (2, .ref ru), (3, .int v3)], [], me_w (lw M L) J)) rfl k
        by_cases h32 : (x2 q v3 (J (q 0) 2) J) = 0
        · rw [if_pos h32] at k
          have k := ly_revb 2 (c' := (2, [(3, .int (v3 + (Int32.ofInt 1))), (0, .ref (p 24)), (1, .ref (q 0)), (2, .ref ru)], [], me_w (lw M L) J)) rfl k
          have k := nt_rn_w (a := [(3, .int (v3 + (Int32.ofInt 1))), (0, .ref (p 24)), (1, .ref (q 0)), (2, .ref ru)]) (b := [(0, .ref (p 24)), (1, .ref (q 0)), (2, .ref ru), (3, .int (v3 + (Int32.ofInt 1)))]) ⟨rfl, rfl, rfl, rfl, trivial⟩ rfl k
          have k := ih (v3 + (Int32.ofInt 1)) J (lx_dec h10 hc) k
          rw [k, x1_2, if_neg h10, if_pos h20, if_pos h32]
        · rw [if_neg h32] at k
          have k := ly_revb 2 (c' := (37, [(0, .ref (p 24)), (1, .ref (q 0)), (2, .ref ru), (3, .int v3)], [.int v3, .ref (q 0)], me_w (lw M L) J)) rfl k
          obtain ⟨d1, o1, ed, kc, k⟩ := lz_c (g := 3) (q := 0) (vs := [.ref (q 0), .int v3]) (rest := []) rfl rfl (by decide) (Or.inl ⟨_, rfl, rfl⟩) rfl k
          have e1 := xt3 (xs_lq hq) kc
          subst e1
          have k : nt_rn X _ 1 (40, [(0, .ref (p 24)), (1, .ref (q 0)), (2, .ref ru), (3, .int v3)], [], me_w (lw M L) (x3 q v3 J)) _ := k
          have k := ly_revb 2 (c' := (2, [(3, .int (v3 + (Int32.ofInt 1))), (0, .ref (p 24)), (1, .ref (q 0)), (2, .ref ru)], [], me_w (lw M L) (x3 q v3 J))) rfl k
          have k := nt_rn_w (a := [(3, .int (v3 + (Int32.ofInt 1))), (0, .ref (p 24)), (1, .ref (q 0)), (2, .ref ru)]) (b := [(0, .ref (p 24)), (1, .ref (q 0)), (2, .ref ru), (3, .int (v3 + (Int32.ofInt 1)))]) ⟨rfl, rfl, rfl, rfl, trivial⟩ rfl k
          have k := ih (v3 + (Int32.ofInt 1)) (x3 q v3 J) (by rw [show (x3 q v3 J) (q 1) 1 = J (q 1) 1 from congrFun (x3_frJ  (hq.2.1 1 0 (by omega) (by omega) (by decide)) (hq.2.1 1 10 (by omega) (by omega) (by decide)) (hq.2.1 1 11 (by omega) (by omega) (by decide)) (hq.2.1 1 12 (by omega) (by omega) (by decide)) (hq.2.1 1 16 (by omega) (by omega) (by decide))) 1]; exact lx_dec h10 hc) k
          rw [k, x1_2, if_neg h10, if_pos h20, if_neg h32]
      · rw [if_neg h20] at k
        have k := ly_revb 2 (c' := (2, [(3, .int (v3 + (Int32.ofInt 1))), (0, .ref (p 24)), (1, .ref (q 0)), (2, .ref ru)], [], me_w (lw M L) J)) rfl k
        have k := nt_rn_w (a := [(3, .int (v3 + (Int32.ofInt 1))), (0, .ref (p 24)), (1, .ref (q 0)), (2, .ref ru)]) (b := [(0, .ref (p 24)), (1, .ref (q 0)), (2, .ref ru), (3, .int (v3 + (Int32.ofInt 1)))]) ⟨rfl, rfl, rfl, rfl, trivial⟩ rfl k
        have k := ih (v3 + (Int32.ofInt 1)) J (lx_dec h10 hc) k
        rw [k, x1_2, if_neg h10, if_neg h20]
theorem x1_2_rule {p : Nat → Nat} {q : Nat → Nat} {sp : Nat} {ln : Nat} {L : Nat → Nat → Int64} {I : Nat → Int32 → (Nat → Nat → Int32) → Prop} {Q : (Nat → Nat → Int32) × (Nat → Nat → Int64) → Prop} (h0 : ∀ (v3 : Int32) (J : Nat → Nat → Int32), I 0 v3 J → Q (x1_48 p q sp ln ((J (q 1) 3).toNatClampNeg) (Int32.ofInt 0) J L)) (h1 : ∀ (c : Nat) (v3 : Int32) (J : Nat → Nat → Int32), I (c + 1) v3 J →
    if (J (q 1) 1) ≤ v3 then (Q (x1_48 p q sp ln ((J (q 1) 3).toNatClampNeg) (Int32.ofInt 0) J L))
    else if (J (q 10) v3.toNatClampNeg) = (Int32.ofInt 1) then if (x2 q v3 (J (q 0) 2) J) = 0 then (I c (v3 + (Int32.ofInt 1)) J)
        else (I c (v3 + (Int32.ofInt 1)) (x3 q v3 J))
      else (I c (v3 + (Int32.ofInt 1)) J)) : ∀ (c : Nat) (v3 : Int32) (J : Nat → Nat → Int32), I c v3 J → Q (x1_2 p q sp ln L c v3 J) := by
  intro c
  induction c with
  | zero =>
    intro v3 J hi
    rw [x1_2]
    exact h0 v3 J hi
  | succ c ih =>
    intro v3 J hi
    have hi := h1 c v3 J hi
    rw [x1_2]
    by_cases h : (J (q 1) 1) ≤ v3
    · rw [if_pos h] at hi ⊢
      exact hi
    · rw [if_neg h] at hi ⊢
      by_cases h : (J (q 10) v3.toNatClampNeg) = (Int32.ofInt 1)
      · rw [if_pos h] at hi ⊢
        by_cases h : (x2 q v3 (J (q 0) 2) J) = 0
        · rw [if_pos h] at hi ⊢
          exact ih _ _ hi
        · rw [if_neg h] at hi ⊢
          exact ih _ _ hi
      · rw [if_neg h] at hi ⊢
        exact ih _ _ hi
def x1 (p : Nat → Nat) (q : Nat → Nat) (sp : Nat) (ln : Nat) (J : Nat → Nat → Int32) (L : Nat → Nat → Int64) : (Nat → Nat → Int32) × (Nat → Nat → Int64) := (x1_2 p q sp ln L ((J (q 1) 1).toNatClampNeg) (Int32.ofInt 0) J)
theorem xt1 {X : nt_X} {d : Nat} {M : nt_M} {o : Option Value × nt_M} {p : Nat → Nat} {q : Nat → Nat} {sp : Nat} {ln : Nat} {ru : Nat} {J : Nat → Nat → Int32} {L : Nat → Nat → Int64} (hp : xs_P M p) (hq : xs_Q M q) (hx : xs_X p q) (hs : xs_S M p ru sp ln) (k : nt_ev X d 1 [.ref (p 24), .ref (q 0), .ref ru] (me_w (lw M L) J) o) : o = (none, me_w (lw M ((x1 p q sp ln J L).2)) ((x1 p q sp ln J L).1)) := by
  have k : nt_rn X d 1 (0, [(0, .ref (p 24)), (1, .ref (q 0)), (2, .ref ru)], [], me_w (lw M L) J) o := k
  have k := ly_revb 2 (c' := (2, [(3, .int (Int32.ofInt 0)), (0, .ref (p 24)), (1, .ref (q 0)), (2, .ref ru)], [], me_w (lw M L) J)) rfl k
  have k := nt_rn_w (a := [(3, .int (Int32.ofInt 0)), (0, .ref (p 24)), (1, .ref (q 0)), (2, .ref ru)]) (b := [(0, .ref (p 24)), (1, .ref (q 0)), (2, .ref ru), (3, .int (Int32.ofInt 0))]) ⟨rfl, rfl, rfl, rfl, trivial⟩ rfl k
  have k := xt1_2 hp hq hx hs  ((J (q 1) 1).toNatClampNeg) (Int32.ofInt 0) J (lx_beg (by decide)) k
  rw [k, x1]
theorem x1_111_frJ {p : Nat → Nat} {q : Nat → Nat} {sp : Nat} {ln : Nat} {L : Nat → Nat → Int64} {b : Nat} : ∀ (c : Nat) (v3 : Int32) (J : Nat → Nat → Int32), b ≠ p 25 → b ≠ q 0 → b ≠ q 10 → b ≠ q 11 → b ≠ q 12 → b ≠ q 13 → b ≠ q 14 → b ≠ q 15 → b ≠ q 16 → (x1_111 p q sp ln L c v3 J).1 b = J b := by
  intro c
  induction c with
  | zero =>
    intro v3 J n0 n1 n2 n3 n4 n5 n6 n7 n8
    rw [x1_111]
    all_goals first | (dsimp only; exact (show (nt_u (nt_u J (q 0) 2 ((J (q 0) 2) + (Int32.ofInt 1))) (q 0) 3 (Int32.ofInt 0)) b = J b from (mu_o n1).trans (mu_o n1))) | exact (show (nt_u (nt_u J (q 0) 2 ((J (q 0) 2) + (Int32.ofInt 1))) (q 0) 3 (Int32.ofInt 0)) b = J b from (mu_o n1).trans (mu_o n1))
  | succ c ih =>
    intro v3 J n0 n1 n2 n3 n4 n5 n6 n7 n8
    rw [x1_111]
    by_cases h : (J (q 1) 1) ≤ v3
    · rw [if_pos h]
      all_goals first | (dsimp only; exact (show (nt_u (nt_u J (q 0) 2 ((J (q 0) 2) + (Int32.ofInt 1))) (q 0) 3 (Int32.ofInt 0)) b = J b from (mu_o n1).trans (mu_o n1))) | exact (show (nt_u (nt_u J (q 0) 2 ((J (q 0) 2) + (Int32.ofInt 1))) (q 0) 3 (Int32.ofInt 0)) b = J b from (mu_o n1).trans (mu_o n1))
    · rw [if_neg h]
      by_cases h : (J (q 10) v3.toNatClampNeg) = (Int32.ofInt 1)
      · rw [if_pos h]
        exact (ih _ _ n0 n1 n2 n3 n4 n5 n6 n7 n8).trans (x9_frJ  n2 n4 n5 n7 n8)
      · rw [if_neg h]
        exact (ih _ _ n0 n1 n2 n3 n4 n5 n6 n7 n8).trans (rfl)
theorem x1_48_frJ {p : Nat → Nat} {q : Nat → Nat} {sp : Nat} {ln : Nat} {b : Nat} : ∀ (c : Nat) (v3 : Int32) (J : Nat → Nat → Int32) (L : Nat → Nat → Int64), b ≠ p 25 → b ≠ q 0 → b ≠ q 10 → b ≠ q 11 → b ≠ q 12 → b ≠ q 13 → b ≠ q 14 → b ≠ q 15 → b ≠ q 16 → (x1_48 p q sp ln c v3 J L).1 b = J b := by
  intro c
  induction c with
  | zero =>
    intro v3 J L n0 n1 n2 n3 n4 n5 n6 n7 n8
    rw [x1_48]
    exact (x1_111_frJ _ _ _ n0 n1 n2 n3 n4 n5 n6 n7 n8).trans (rfl)
  | succ c ih =>
    intro v3 J L n0 n1 n2 n3 n4 n5 n6 n7 n8
    rw [x1_48]
    by_cases h : (J (q 1) 3) ≤ v3
    · rw [if_pos h]
      exact (x1_111_frJ _ _ _ n0 n1 n2 n3 n4 n5 n6 n7 n8).trans (rfl)
    · rw [if_neg h]
      by_cases h : (J (q 7) v3.toNatClampNeg) = (J (q 0) 2)
      · rw [if_pos h]
        by_cases h : (J (q 10) ((J (q 6) v3.toNatClampNeg).toNatClampNeg)) = 0
        · rw [if_pos h]
          exact (ih _ _ _ n0 n1 n2 n3 n4 n5 n6 n7 n8).trans (x4_frJ  n0 n1 n2 n4 n6 n8)
        · rw [if_neg h]
          exact (ih _ _ _ n0 n1 n2 n3 n4 n5 n6 n7 n8).trans (rfl)
      · rw [if_neg h]
        exact (ih _ _ _ n0 n1 n2 n3 n4 n5 n6 n7 n8).trans (rfl)
theorem x1_2_frJ {p : Nat → Nat} {q : Nat → Nat} {sp : Nat} {ln : Nat} {L : Nat → Nat → Int64} {b : Nat} : ∀ (c : Nat) (v3 : Int32) (J : Nat → Nat → Int32), b ≠ p 25 → b ≠ q 0 → b ≠ q 10 → b ≠ q 11 → b ≠ q 12 → b ≠ q 13 → b ≠ q 14 → b ≠ q 15 → b ≠ q 16 → (x1_2 p q sp ln L c v3 J).1 b = J b := by
  intro c
  induction c with
  | zero =>
    intro v3 J n0 n1 n2 n3 n4 n5 n6 n7 n8
    rw [x1_2]
    exact (x1_48_frJ _ _ _ _ n0 n1 n2 n3 n4 n5 n6 n7 n8).trans (rfl)
  | succ c ih =>
    intro v3 J n0 n1 n2 n3 n4 n5 n6 n7 n8
    rw [x1_2]
    by_cases h : (J (q 1) 1) ≤ v3
    · rw [if_pos h]
      exact (x1_48_frJ _ _ _ _ n0 n1 n2 n3 n4 n5 n6 n7 n8).trans (rfl)
    · rw [if_neg h]
      by_cases h : (J (q 10) v3.toNatClampNeg) = (Int32.ofInt 1)
      · rw [if_pos h]
        by_cases h : (x2 q v3 (J (q 0) 2) J) = 0
        · rw [if_pos h]
          exact (ih _ _ n0 n1 n2 n3 n4 n5 n6 n7 n8).trans (rfl)
        · rw [if_neg h]
          exact (ih _ _ n0 n1 n2 n3 n4 n5 n6 n7 n8).trans (x3_frJ  n1 n2 n3 n4 n8)
      · rw [if_neg h]
        exact (ih _ _ n0 n1 n2 n3 n4 n5 n6 n7 n8).trans (rfl)
theorem x1_frJ {p : Nat → Nat} {q : Nat → Nat} {sp : Nat} {ln : Nat} {J : Nat → Nat → Int32} {L : Nat → Nat → Int64} {b : Nat} (n0 : b ≠ p 25) (n1 : b ≠ q 0) (n2 : b ≠ q 10) (n3 : b ≠ q 11) (n4 : b ≠ q 12) (n5 : b ≠ q 13) (n6 : b ≠ q 14) (n7 : b ≠ q 15) (n8 : b ≠ q 16) : (x1 p q sp ln J L).1 b = J b := by
  unfold x1
  exact (x1_2_frJ _ _ _ n0 n1 n2 n3 n4 n5 n6 n7 n8).trans (rfl)
theorem x1_111_frL {p : Nat → Nat} {q : Nat → Nat} {sp : Nat} {ln : Nat} {L : Nat → Nat → Int64} {b : Nat} : ∀ (c : Nat) (v3 : Int32) (J : Nat → Nat → Int32), b ≠ p 25 → b ≠ p 26 → b ≠ p 27 → (x1_111 p q sp ln L c v3 J).2 b = L b := by
  intro c
  induction c with
  | zero =>
    intro v3 J n0 n1 n2
    rw [x1_111]
    all_goals first | (dsimp only; exact (show L b = L b from rfl)) | exact (show L b = L b from rfl)
  | succ c ih =>
    intro v3 J n0 n1 n2
    rw [x1_111]
    by_cases h : (J (q 1) 1) ≤ v3
    · rw [if_pos h]
      all_goals first | (dsimp only; exact (show L b = L b from rfl)) | exact (show L b = L b from rfl)
    · rw [if_neg h]
      by_cases h : (J (q 10) v3.toNatClampNeg) = (Int32.ofInt 1)
      · rw [if_pos h]
        exact (ih _ _ n0 n1 n2).trans (rfl)
      · rw [if_neg h]
        exact (ih _ _ n0 n1 n2).trans (rfl)
theorem x1_48_frL {p : Nat → Nat} {q : Nat → Nat} {sp : Nat} {ln : Nat} {b : Nat} : ∀ (c : Nat) (v3 : Int32) (J : Nat → Nat → Int32) (L : Nat → Nat → Int64), b ≠ p 25 → b ≠ p 26 → b ≠ p 27 → (x1_48 p q sp ln c v3 J L).2 b = L b := by
  intro c
  induction c with
  | zero =>
    intro v3 J L n0 n1 n2
    rw [x1_48]
    exact (x1_111_frL _ _ _ n0 n1 n2).trans (rfl)
  | succ c ih =>
    intro v3 J L n0 n1 n2
    rw [x1_48]
    by_cases h : (J (q 1) 3) ≤ v3
    · rw [if_pos h]
      exact (x1_111_frL _ _ _ n0 n1 n2).trans (rfl)
    · rw [if_neg h]
      by_cases h : (J (q 7) v3.toNatClampNeg) = (J (q 0) 2)
      · rw [if_pos h]
        by_cases h : (J (q 10) ((J (q 6) v3.toNatClampNeg).toNatClampNeg)) = 0
        · rw [if_pos h]
          exact (ih _ _ _ n0 n1 n2).trans (x4_frL n0 n1 n2)
        · rw [if_neg h]
          exact (ih _ _ _ n0 n1 n2).trans (rfl)
      · rw [if_neg h]
        exact (ih _ _ _ n0 n1 n2).trans (rfl)
theorem x1_2_frL {p : Nat → Nat} {q : Nat → Nat} {sp : Nat} {ln : Nat} {L : Nat → Nat → Int64} {b : Nat} : ∀ (c : Nat) (v3 : Int32) (J : Nat → Nat → Int32), b ≠ p 25 → b ≠ p 26 → b ≠ p 27 → (x1_2 p q sp ln L c v3 J).2 b = L b := by
  intro c
  induction c with
  | zero =>
    intro v3 J n0 n1 n2
    rw [x1_2]
    exact (x1_48_frL _ _ _ _ n0 n1 n2).trans (rfl)
  | succ c ih =>
    intro v3 J n0 n1 n2
    rw [x1_2]
    by_cases h : (J (q 1) 1) ≤ v3
    · rw [if_pos h]
      exact (x1_48_frL _ _ _ _ n0 n1 n2).trans (rfl)
    · rw [if_neg h]
      by_cases h : (J (q 10) v3.toNatClampNeg) = (Int32.ofInt 1)
      · rw [if_pos h]
        by_cases h : (x2 q v3 (J (q 0) 2) J) = 0
        · rw [if_pos h]
          exact (ih _ _ n0 n1 n2).trans (rfl)
        · rw [if_neg h]
          exact (ih _ _ n0 n1 n2).trans (rfl)
      · rw [if_neg h]
        exact (ih _ _ n0 n1 n2).trans (rfl)
theorem x1_frL {p : Nat → Nat} {q : Nat → Nat} {sp : Nat} {ln : Nat} {J : Nat → Nat → Int32} {L : Nat → Nat → Int64} {b : Nat} (n0 : b ≠ p 25) (n1 : b ≠ p 26) (n2 : b ≠ p 27) : (x1 p q sp ln J L).2 b = L b := by
  unfold x1
  exact (x1_2_frL _ _ _ n0 n1 n2).trans (rfl)
/-! $Calendar.pass -/
def x1N_111 (p : Nat → Nat) (q : Nat → Nat) : Nat → Int32 → (Nat → Nat → Int32) → (Nat → Nat → Int32)
  | 0, v3, J => (nt_u (nt_u J (q 0) 2 ((J (q 0) 2) + (Int32.ofInt 1))) (q 0) 3 (Int32.ofInt 0))
  | c + 1, v3, J => if (J (q 1) 1) ≤ v3 then (nt_u (nt_u J (q 0) 2 ((J (q 0) 2) + (Int32.ofInt 1))) (q 0) 3 (Int32.ofInt 0))
    else if (J (q 10) v3.toNatClampNeg) = (Int32.ofInt 1) then (x1N_111 p q c (v3 + (Int32.ofInt 1)) (x9 q v3 J))
      else (x1N_111 p q c (v3 + (Int32.ofInt 1)) J)
theorem xt1N_111 {X : nt_X} {d : Nat} {M : nt_M} {o : Option Value × nt_M} {p : Nat → Nat} {q : Nat → Nat} {v4 : Int32} (hp : xs_P M p) (hq : xs_Q M q) (hx : xs_X p q) : ∀ (c : Nat) (v3 : Int32) (J : Nat → Nat → Int32), (J (q 1) 1).toInt - v3.toInt ≤ c → nt_rn X d 1 (111, [(0, .ref (p 24)), (1, .ref (q 0)), (2, .null), (3, .int v3), (4, .int v4)], [], me_w M J) o → o = (none, me_w M (x1N_111 p q c v3 J)) := by
  intro c
  induction c with
  | zero =>
    intro v3 J hc k
    have k := ly_revb 2 (c' := (113, [(0, .ref (p 24)), (1, .ref (q 0)), (2, .null), (3, .int v3), (4, .int v4)], [.ref (q 0), .int v3], me_w M J)) rfl k
    have k := lz_get (a := (q 0)) (g := 600) (M := me_w M J) (v := .ref (q 1)) rfl (nt_gfR rfl (hq.1 (0, 0, 1) (by decide))) k
    have k := lz_get (a := (q 1)) (g := 801) (M := me_w M J) (v := .int (J (q 1) 1)) rfl (congrArg Value.int (rfl)) k
    have k := ly_revb 1 (c' := (if (J (q 1) 1) ≤ v3 then 143 else 122, [(0, .ref (p 24)), (1, .ref (q 0)), (2, .null), (3, .int v3), (4, .int v4)], [], me_w M J)) rfl k
    have h119 : (J (q 1) 1) ≤ v3 := lx_end hc
    rw [if_pos h119] at k
    have k := ly_revb 2 (c' := (145, [(0, .ref (p 24)), (1, .ref (q 0)), (2, .null), (3, .int v3), (4, .int v4)], [.ref (q 0), .ref (q 0)], me_w M J)) rfl k
    have k := lz_get (a := (q 0)) (g := 602) (M := me_w M J) (v := .int (J (q 0) 2)) rfl (congrArg Value.int (rfl)) k
    have k := ly_revb 2 (c' := (150, [(0, .ref (p 24)), (1, .ref (q 0)), (2, .null), (3, .int v3), (4, .int v4)], [.int ((J (q 0) 2) + (Int32.ofInt 1)), .ref (q 0)], me_w M J)) rfl k
    have k := me_put rfl (by decide) k
    have k : nt_rn X _ 1 (153, [(0, .ref (p 24)), (1, .ref (q 0)), (2, .null), (3, .int v3), (4, .int v4)], [], me_w M (nt_u J (q 0) 2 ((J (q 0) 2) + (Int32.ofInt 1)))) _ := k
    have k := ly_revb 2 (c' := (155, [(0, .ref (p 24)), (1, .ref (q 0)), (2, .null), (3, .int v3), (4, .int v4)], [.int (Int32.ofInt 0), .ref (q 0)], me_w M (nt_u J (q 0) 2 ((J (q 0) 2) + (Int32.ofInt 1))))) rfl k
    have k := me_put rfl (by decide) k
    have k : nt_rn X _ 1 (158, [(0, .ref (p 24)), (1, .ref (q 0)), (2, .null), (3, .int v3), (4, .int v4)], [], me_w M (nt_u (nt_u J (q 0) 2 ((J (q 0) 2) + (Int32.ofInt 1))) (q 0) 3 (Int32.ofInt 0))) _ := k
    have k := lz_rv rfl rfl k
    rw [k, x1N_111]
  | succ c ih =>
    intro v3 J hc k
    have k := ly_revb 2 (c' := (113, [(0, .ref (p 24)), (1, .ref (q 0)), (2, .null), (3, .int v3), (4, .int v4)], [.ref (q 0), .int v3], me_w M J)) rfl k
    have k := lz_get (a := (q 0)) (g := 600) (M := me_w M J) (v := .ref (q 1)) rfl (nt_gfR rfl (hq.1 (0, 0, 1) (by decide))) k
    have k := lz_get (a := (q 1)) (g := 801) (M := me_w M J) (v := .int (J (q 1) 1)) rfl (congrArg Value.int (rfl)) k
    have k := ly_revb 1 (c' := (if (J (q 1) 1) ≤ v3 then 143 else 122, [(0, .ref (p 24)), (1, .ref (q 0)), (2, .null), (3, .int v3), (4, .int v4)], [], me_w M J)) rfl k
    by_cases h119 : (J (q 1) 1) ≤ v3
    · rw [if_pos h119] at k
      have k := ly_revb 2 (c' := (145, [(0, .ref (p 24)), (1, .ref (q 0)), (2, .null), (3, .int v3), (4, .int v4)], [.ref (q 0), .ref (q 0)], me_w M J)) rfl k
      have k := lz_get (a := (q 0)) (g := 602) (M := me_w M J) (v := .int (J (q 0) 2)) rfl (congrArg Value.int (rfl)) k
      have k := ly_revb 2 (c' := (150, [(0, .ref (p 24)), (1, .ref (q 0)), (2, .null), (3, .int v3), (4, .int v4)], [.int ((J (q 0) 2) + (Int32.ofInt 1)), .ref (q 0)], me_w M J)) rfl k
      have k := me_put rfl (by decide) k
      have k : nt_rn X _ 1 (153, [(0, .ref (p 24)), (1, .ref (q 0)), (2, .null), (3, .int v3), (4, .int v4)], [], me_w M (nt_u J (q 0) 2 ((J (q 0) 2) + (Int32.ofInt 1)))) _ := k
      have k := ly_revb 2 (c' := (155, [(0, .ref (p 24)), (1, .ref (q 0)), (2, .null), (3, .int v3), (4, .int v4)], [.int (Int32.ofInt 0), .ref (q 0)], me_w M (nt_u J (q 0) 2 ((J (q 0) 2) + (Int32.ofInt 1))))) rfl k
      have k := me_put rfl (by decide) k
      have k : nt_rn X _ 1 (158, [(0, .ref (p 24)), (1, .ref (q 0)), (2, .null), (3, .int v3), (4, .int v4)], [], me_w M (nt_u (nt_u J (q 0) 2 ((J (q 0) 2) + (Int32.ofInt 1))) (q 0) 3 (Int32.ofInt 0))) _ := k
      have k := lz_rv rfl rfl k
      rw [k, x1N_111, if_pos h119]
    · rw [if_neg h119] at k
      have k := ly_revb 1 (c' := (123, [(0, .ref (p 24)), (1, .ref (q 0)), (2, .null), (3, .int v3), (4, .int v4)], [.ref (q 0)], me_w M J)) rfl k
      have k := lz_get (a := (q 0)) (g := 607) (M := me_w M J) (v := .ref (q 10)) rfl (nt_gfR rfl (hq.1 (0, 7, 10) (by decide))) k
      have k := ly_revb 1 (c' := (127, [(0, .ref (p 24)), (1, .ref (q 0)), (2, .null), (3, .int v3), (4, .int v4)], [.int v3, .ref (q 10)], me_w M J)) rfl k
      have k := mx_iald (v := J (q 10) v3.toNatClampNeg) rfl (hq.2.2.1 10 (by omega)) (rfl) k
      have k := ly_revb 2 (c' := (if (J (q 10) v3.toNatClampNeg) = (Int32.ofInt 1) then 132 else 137, [(0, .ref (p 24)), (1, .ref (q 0)), (2, .null), (3, .int v3), (4, .int v4)], [], me_w M J)) rfl k
      by_cases h129 : (J (q 10) v3.toNatClampNeg) = (Int32.ofInt 1)
      · rw [if_pos h129] at k
        have k := ly_revb 2 (c' := (134, [(0, .ref (p 24)), (1, .ref (q 0)), (2, .null), (3, .int v3), (4, .int v4)], [.int v3, .ref (q 0)], me_w M J)) rfl k
        obtain ⟨d1, o1, ed, kc, k⟩ := lz_c (g := 9) (q := 0) (vs := [.ref (q 0), .int v3]) (rest := []) rfl rfl (by decide) (Or.inl ⟨_, rfl, rfl⟩) rfl k
        have e1 := xt9 hq kc
        subst e1
        have k : nt_rn X _ 1 (137, [(0, .ref (p 24)), (1, .ref (q 0)), (2, .null), (3, .int v3), (4, .int v4)], [], me_w M (x9 q v3 J)) _ := k
        have k := ly_revb 2 (c' := (111, [(3, .int (v3 + (Int32.ofInt 1))), (0, .ref (p 24)), (1, .ref (q 0)), (2, .null), (4, .int v4)], [], me_w M (x9 q v3 J))) rfl k
        have k := nt_rn_w (a := [(3, .int (v3 + (Int32.ofInt 1))), (0, .ref (p 24)), (1, .ref (q 0)), (2, .null), (4, .int v4)]) (b := [(0, .ref (p 24)), (1, .ref (q 0)), (2, .null), (3, .int (v3 + (Int32.ofInt 1))), (4, .int v4)]) ⟨rfl, rfl, rfl, rfl, rfl, trivial⟩ rfl k
        have k := ih (v3 + (Int32.ofInt 1)) (x9 q v3 J) (by rw [show (x9 q v3 J) (q 1) 1 = J (q 1) 1 from congrFun (x9_frJ  (hq.2.1 1 10 (by omega) (by omega) (by decide)) (hq.2.1 1 12 (by omega) (by omega) (by decide)) (hq.2.1 1 13 (by omega) (by omega) (by decide)) (hq.2.1 1 15 (by omega) (by omega) (by decide)) (hq.2.1 1 16 (by omega) (by omega) (by decide))) 1]; exact lx_dec h119 hc) k
        rw [k, x1N_111, if_neg h119, if_pos h129]
      · rw [if_neg h129] at k
        have k := ly_revb 2 (c' := (111, [(3, .int (v3 + (Int32.ofInt 1))), (0, .ref (p 24)), (1, .ref (q 0)), (2, .null), (4, .int v4)], [], me_w M J)) rfl k
        have k := nt_rn_w (a := [(3, .int (v3 + (Int32.ofInt 1))), (0, .ref (p 24)), (1, .ref (q 0)), (2, .null), (4, .int v4)]) (b := [(0, .ref (p 24)), (1, .ref (q 0)), (2, .null), (3, .int (v3 + (Int32.ofInt 1))), (4, .int v4)]) ⟨rfl, rfl, rfl, rfl, rfl, trivial⟩ rfl k
        have k := ih (v3 + (Int32.ofInt 1)) J (lx_dec h119 hc) k
        rw [k, x1N_111, if_neg h119, if_neg h129]
theorem x1N_111_rule {p : Nat → Nat} {q : Nat → Nat} {I : Nat → Int32 → (Nat → Nat → Int32) → Prop} {Q : (Nat → Nat → Int32) → Prop} (h0 : ∀ (v3 : Int32) (J : Nat → Nat → Int32), I 0 v3 J → Q (nt_u (nt_u J (q 0) 2 ((J (q 0) 2) + (Int32.ofInt 1))) (q 0) 3 (Int32.ofInt 0))) (h1 : ∀ (c : Nat) (v3 : Int32) (J : Nat → Nat → Int32), I (c + 1) v3 J →
    if (J (q 1) 1) ≤ v3 then (Q (nt_u (nt_u J (q 0) 2 ((J (q 0) 2) + (Int32.ofInt 1))) (q 0) 3 (Int32.ofInt 0)))
    else if (J (q 10) v3.toNatClampNeg) = (Int32.ofInt 1) then (I c (v3 + (Int32.ofInt 1)) (x9 q v3 J))
      else (I c (v3 + (Int32.ofInt 1)) J)) : ∀ (c : Nat) (v3 : Int32) (J : Nat → Nat → Int32), I c v3 J → Q (x1N_111 p q c v3 J) := by
  intro c
  induction c with
  | zero =>
    intro v3 J hi
    rw [x1N_111]
    exact h0 v3 J hi
  | succ c ih =>
    intro v3 J hi
    have hi := h1 c v3 J hi
    rw [x1N_111]
    by_cases h : (J (q 1) 1) ≤ v3
    · rw [if_pos h] at hi ⊢
      exact hi
    · rw [if_neg h] at hi ⊢
      by_cases h : (J (q 10) v3.toNatClampNeg) = (Int32.ofInt 1)
      · rw [if_pos h] at hi ⊢
        exact ih _ _ hi
      · rw [if_neg h] at hi ⊢
        exact ih _ _ hi
def x1N_48 (p : Nat → Nat) (q : Nat → Nat) : Nat → Int32 → (Nat → Nat → Int32) → (Nat → Nat → Int32)
  | 0, v3, J => (x1N_111 p q ((J (q 1) 1).toNatClampNeg) (Int32.ofInt 0) J)
  | c + 1, v3, J => if (J (q 1) 3) ≤ v3 then (x1N_111 p q ((J (q 1) 1).toNatClampNeg) (Int32.ofInt 0) J)
    else if (J (q 7) v3.toNatClampNeg) = (J (q 0) 2) then if (J (q 10) ((J (q 6) v3.toNatClampNeg).toNatClampNeg)) = 0 then (x1N_48 p q c (v3 + (Int32.ofInt 1)) (x4N p q v3 J))
        else (x1N_48 p q c (v3 + (Int32.ofInt 1)) J)
      else (x1N_48 p q c (v3 + (Int32.ofInt 1)) J)
theorem xt1N_48 {X : nt_X} {d : Nat} {M : nt_M} {o : Option Value × nt_M} {p : Nat → Nat} {q : Nat → Nat} (hp : xs_P M p) (hq : xs_Q M q) (hx : xs_X p q) : ∀ (c : Nat) (v3 : Int32) (v4 : Int32) (J : Nat → Nat → Int32), (J (q 1) 3).toInt - v3.toInt ≤ c → nt_rn X d 1 (48, [(0, .ref (p 24)), (1, .ref (q 0)), (2, .null), (3, .int v3), (4, .int v4)], [], me_w M J) o → o = (none, me_w M (x1N_48 p q c v3 J)) := by
  intro c
  induction c with
  | zero =>
    intro v3 v4 J hc k
    have k := ly_revb 2 (c' := (50, [(0, .ref (p 24)), (1, .ref (q 0)), (2, .null), (3, .int v3), (4, .int v4)], [.ref (q 0), .int v3], me_w M J)) rfl k
    have k := lz_get (a := (q 0)) (g := 600) (M := me_w M J) (v := .ref (q 1)) rfl (nt_gfR rfl (hq.1 (0, 0, 1) (by decide))) k
    have k := lz_get (a := (q 1)) (g := 803) (M := me_w M J) (v := .int (J (q 1) 3)) rfl (congrArg Value.int (rfl)) k
    have k := ly_revb 1 (c' := (if (J (q 1) 3) ≤ v3 then 109 else 59, [(0, .ref (p 24)), (1, .ref (q 0)), (2, .null), (3, .int v3), (4, .int v4)], [], me_w M J)) rfl k
    have h56 : (J (q 1) 3) ≤ v3 := lx_end hc
    rw [if_pos h56] at k
    have k := ly_revb 2 (c' := (111, [(3, .int (Int32.ofInt 0)), (0, .ref (p 24)), (1, .ref (q 0)), (2, .null), (4, .int v4)], [], me_w M J)) rfl k
    have k := nt_rn_w (a := [(3, .int (Int32.ofInt 0)), (0, .ref (p 24)), (1, .ref (q 0)), (2, .null), (4, .int v4)]) (b := [(0, .ref (p 24)), (1, .ref (q 0)), (2, .null), (3, .int (Int32.ofInt 0)), (4, .int v4)]) ⟨rfl, rfl, rfl, rfl, rfl, trivial⟩ rfl k
    have k := xt1N_111 hp hq hx  ((J (q 1) 1).toNatClampNeg) (Int32.ofInt 0) J (lx_beg (by decide)) k
    rw [k, x1N_48]
  | succ c ih =>
    intro v3 v4 J hc k
    have k := ly_revb 2 (c' := (50, [(0, .ref (p 24)), (1, .ref (q 0)), (2, .null), (3, .int v3), (4, .int v4)], [.ref (q 0), .int v3], me_w M J)) rfl k
    have k := lz_get (a := (q 0)) (g := 600) (M := me_w M J) (v := .ref (q 1)) rfl (nt_gfR rfl (hq.1 (0, 0, 1) (by decide))) k
    have k := lz_get (a := (q 1)) (g := 803) (M := me_w M J) (v := .int (J (q 1) 3)) rfl (congrArg Value.int (rfl)) k
    have k := ly_revb 1 (c' := (if (J (q 1) 3) ≤ v3 then 109 else 59, [(0, .ref (p 24)), (1, .ref (q 0)), (2, .null), (3, .int v3), (4, .int v4)], [], me_w M J)) rfl k
    by_cases h56 : (J (q 1) 3) ≤ v3
    · rw [if_pos h56] at k
      have k := ly_revb 2 (c' := (111, [(3, .int (Int32.ofInt 0)), (0, .ref (p 24)), (1, .ref (q 0)), (2, .null), (4, .int v4)], [], me_w M J)) rfl k
      have k := nt_rn_w (a := [(3, .int (Int32.ofInt 0)), (0, .ref (p 24)), (1, .ref (q 0)), (2, .null), (4, .int v4)]) (b := [(0, .ref (p 24)), (1, .ref (q 0)), (2, .null), (3, .int (Int32.ofInt 0)), (4, .int v4)]) ⟨rfl, rfl, rfl, rfl, rfl, trivial⟩ rfl k
      have k := xt1N_111 hp hq hx  ((J (q 1) 1).toNatClampNeg) (Int32.ofInt 0) J (lx_beg (by decide)) k
      rw [k, x1N_48, if_pos h56]
    · rw [if_neg h56] at k
      have k := ly_revb 1 (c' := (60, [(0, .ref (p 24)), (1, .ref (q 0)), (2, .null), (3, .int v3), (4, .int v4)], [.ref (q 0)], me_w M J)) rfl k
      have k := lz_get (a := (q 0)) (g := 600) (M := me_w M J) (v := .ref (q 1)) rfl (nt_gfR rfl (hq.1 (0, 0, 1) (by decide))) k
      have k := lz_get (a := (q 1)) (g := 809) (M := me_w M J) (v := .ref (q 6)) rfl (nt_gfR rfl (hq.1 (1, 9, 6) (by decide))) k
      have k := ly_revb 1 (c' := (67, [(0, .ref (p 24)), (1, .ref (q 0)), (2, .null), (3, .int v3), (4, .int v4)], [.int v3, .ref (q 6)], me_w M J)) rfl k
      have k := mx_iald (v := J (q 6) v3.toNatClampNeg) rfl (hq.2.2.1 6 (by omega)) (rfl) k
      have k := ly_revb 2 (c' := (71, [(4, .int (J (q 6) v3.toNatClampNeg)), (0, .ref (p 24)), (1, .ref (q 0)), (2, .null), (3, .int v3)], [.ref (q 0)], me_w M J)) rfl k
      have k := lz_get (a := (q 0)) (g := 600) (M := me_w M J) (v := .ref (q 1)) rfl (nt_gfR rfl (hq.1 (0, 0, 1) (by decide))) k
      have k := lz_get (a := (q 1)) (g := 810) (M := me_w M J) (v := .ref (q 7)) rfl (nt_gfR rfl (hq.1 (1, 10, 7) (by decide))) k
      have k := ly_revb 1 (c' := (78, [(4, .int (J (q 6) v3.toNatClampNeg)), (0, .ref (p 24)), (1, .ref (q 0)), (2, .null), (3, .int v3)], [.int v3, .ref (q 7)], me_w M J)) rfl k
      have k := mx_iald (v := J (q 7) v3.toNatClampNeg) rfl (hq.2.2.1 7 (by omega)) (rfl) k
      have k := ly_revb 1 (c' := (80, [(4, .int (J (q 6) v3.toNatClampNeg)), (0, .ref (p 24)), (1, .ref (q 0)), (2, .null), (3, .int v3)], [.ref (q 0), .int (J (q 7) v3.toNatClampNeg)], me_w M J)) rfl k
      have k := lz_get (a := (q 0)) (g := 602) (M := me_w M J) (v := .int (J (q 0) 2)) rfl (congrArg Value.int (rfl)) k
      have k := ly_revb 1 (c' := (if (J (q 7) v3.toNatClampNeg) = (J (q 0) 2) then 86 else 103, [(4, .int (J (q 6) v3.toNatClampNeg)), (0, .ref (p 24)), (1, .ref (q 0)), (2, .null), (3, .int v3)], [], me_w M J)) rfl k
      by_cases h83 : (J (q 7) v3.toNatClampNeg) = (J (q 0) 2)
      · rw [if_pos h83] at k
        have k := ly_revb 1 (c' := (87, [(4, .int (J (q 6) v3.toNatClampNeg)), (0, .ref (p 24)), (1, .ref (q 0)), (2, .null), (3, .int v3)], [.ref (q 0)], me_w M J)) rfl k
        have k := lz_get (a := (q 0)) (g := 607) (M := me_w M J) (v := .ref (q 10)) rfl (nt_gfR rfl (hq.1 (0, 7, 10) (by decide))) k
        have k := ly_revb 1 (c' := (92, [(4, .int (J (q 6) v3.toNatClampNeg)), (0, .ref (p 24)), (1, .ref (q 0)), (2, .null), (3, .int v3)], [.int (J (q 6) v3.toNatClampNeg), .ref (q 10)], me_w M J)) rfl k
        have k := mx_iald (v := J (q 10) ((J (q 6) v3.toNatClampNeg).toNatClampNeg)) rfl (hq.2.2.1 10 (by omega)) (rfl) k
        have k := ly_revb 1 (c' := (if (J (q 10) ((J (q 6) v3.toNatClampNeg).toNatClampNeg)) = 0 then 96 else 103, [(4, .int (J (q 6) v3.toNatClampNeg)), (0, .ref (p 24)), (1, .ref (q 0)), (2, .null), (3, .int v3)], [], me_w M J)) rfl k
        by_cases h93 : (J (q 10) ((J (q 6) v3.toNatClampNeg).toNatClampNeg)) = 0
        · rw [if_pos h93] at k
          have k := ly_revb 4 (c' := (100, [(4, .int (J (q 6) v3.toNatClampNeg)), (0, .ref (p 24)), (1, .ref (q 0)), (2, .null), (3, .int v3)], [.int v3, .null, .ref (q 0), .ref (p 24)], me_w M J)) rfl k
          obtain ⟨d1, o1, ed, kc, k⟩ := lz_c (g := 4) (q := 1) (vs := [.ref (p 24), .ref (q 0), .null, .int v3]) (rest := []) rfl rfl (by decide) (Or.inr (Or.inl ⟨_, rfl, rfl⟩)) rfl k
          have e1 := xt4N hp hq hx kc
          subst e1
          have k : nt_rn X _ 1 (103, [(4, .int (J (q 6) v3.toNatClampNeg)), (0, .ref (p 24)), (1, .ref (q 0)), (2, .null), (3, .int v3)], [], me_w M (x4N p q v3 J)) _ := k
          have k := ly_revb 2 (c' := (48, [(3, .int (v3 + (Int32.ofInt 1))), (4, .int (J (q 6) v3.toNatClampNeg)), (0, .ref (p 24)), (1, .ref (q 0)), (2, .null)], [], me_w M (x4N p q v3 J))) rfl k
          have k := nt_rn_w (a := [(3, .int (v3 + (Int32.ofInt 1))), (4, .int (J (q 6) v3.toNatClampNeg)), (0, .ref (p 24)), (1, .ref (q 0)), (2, .null)]) (b := [(0, .ref (p 24)), (1, .ref (q 0)), (2, .null), (3, .int (v3 + (Int32.ofInt 1))), (4, .int (J (q 6) v3.toNatClampNeg))]) ⟨rfl, rfl, rfl, rfl, rfl, trivial⟩ rfl k
          have k := ih (v3 + (Int32.ofInt 1)) (J (q 6) v3.toNatClampNeg) (x4N p q v3 J) (by rw [show (x4N p q v3 J) (q 1) 3 = J (q 1) 3 from congrFun (x4N_frJ  (hq.2.1 1 10 (by omega) (by omega) (by decide)) (hq.2.1 1 12 (by omega) (by omega) (by decide)) (hq.2.1 1 16 (by omega) (by omega) (by decide))) 3]; exact lx_dec h56 hc) k
          rw [k, x1N_48, if_neg h56, if_pos h83, if_pos h93]
        · rw [if_neg h93] at k
          have k := ly_revb 2 (c' := (48, [(3, .int (v3 + (Int32.ofInt 1))), (4, .int (J (q 6) v3.toNatClampNeg)), (0, .ref (p 24)), (1, .ref (q 0)), (2, .null)], [], me_w M J)) rfl k
          have k := nt_rn_w (a := [(3, .int (v3 + (Int32.ofInt 1))), (4, .int (J (q 6) v3.toNatClampNeg)), (0, .ref (p 24)), (1, .ref (q 0)), (2, .null)]) (b := [(0, .ref (p 24)), (1, .ref (q 0)), (2, .null), (3, .int (v3 + (Int32.ofInt 1))), (4, .int (J (q 6) v3.toNatClampNeg))]) ⟨rfl, rfl, rfl, rfl, rfl, trivial⟩ rfl k
          have k := ih (v3 + (Int32.ofInt 1)) (J (q 6) v3.toNatClampNeg) J (lx_dec h56 hc) k
          rw [k, x1N_48, if_neg h56, if_pos h83, if_neg h93]
      · rw [if_neg h83] at k
        have k := ly_revb 2 (c' := (48, [(3, .int (v3 + (Int32.ofInt 1))), (4, .int (J (q 6) v3.toNatClampNeg)), (0, .ref (p 24)), (1, .ref (q 0)), (2, .null)], [], me_w M J)) rfl k
        have k := nt_rn_w (a := [(3, .int (v3 + (Int32.ofInt 1))), (4, .int (J (q 6) v3.toNatClampNeg)), (0, .ref (p 24)), (1, .ref (q 0)), (2, .null)]) (b := [(0, .ref (p 24)), (1, .ref (q 0)), (2, .null), (3, .int (v3 + (Int32.ofInt 1))), (4, .int (J (q 6) v3.toNatClampNeg))]) ⟨rfl, rfl, rfl, rfl, rfl, trivial⟩ rfl k
        have k := ih (v3 + (Int32.ofInt 1)) (J (q 6) v3.toNatClampNeg) J (lx_dec h56 hc) k
        rw [k, x1N_48, if_neg h56, if_neg h83]
theorem x1N_48_rule {p : Nat → Nat} {q : Nat → Nat} {I : Nat → Int32 → (Nat → Nat → Int32) → Prop} {Q : (Nat → Nat → Int32) → Prop} (h0 : ∀ (v3 : Int32) (J : Nat → Nat → Int32), I 0 v3 J → Q (x1N_111 p q ((J (q 1) 1).toNatClampNeg) (Int32.ofInt 0) J)) (h1 : ∀ (c : Nat) (v3 : Int32) (J : Nat → Nat → Int32), I (c + 1) v3 J →
    if (J (q 1) 3) ≤ v3 then (Q (x1N_111 p q ((J (q 1) 1).toNatClampNeg) (Int32.ofInt 0) J))
    else if (J (q 7) v3.toNatClampNeg) = (J (q 0) 2) then if (J (q 10) ((J (q 6) v3.toNatClampNeg).toNatClampNeg)) = 0 then (I c (v3 + (Int32.ofInt 1)) (x4N p q v3 J))
        else (I c (v3 + (Int32.ofInt 1)) J)
      else (I c (v3 + (Int32.ofInt 1)) J)) : ∀ (c : Nat) (v3 : Int32) (J : Nat → Nat → Int32), I c v3 J → Q (x1N_48 p q c v3 J) := by
  intro c
  induction c with
  | zero =>
    intro v3 J hi
    rw [x1N_48]
    exact h0 v3 J hi
  | succ c ih =>
    intro v3 J hi
    have hi := h1 c v3 J hi
    rw [x1N_48]
    by_cases h : (J (q 1) 3) ≤ v3
    · rw [if_pos h] at hi ⊢
      exact hi
    · rw [if_neg h] at hi ⊢
      by_cases h : (J (q 7) v3.toNatClampNeg) = (J (q 0) 2)
      · rw [if_pos h] at hi ⊢
        by_cases h : (J (q 10) ((J (q 6) v3.toNatClampNeg).toNatClampNeg)) = 0
        · rw [if_pos h] at hi ⊢
          exact ih _ _ hi
        · rw [if_neg h] at hi ⊢
          exact ih _ _ hi
      · rw [if_neg h] at hi ⊢
        exact ih _ _ hi
def x1N_2 (p : Nat → Nat) (q : Nat → Nat) : Nat → Int32 → (Nat → Nat → Int32) → (Nat → Nat → Int32)
  | 0, v3, J => (x1N_48 p q ((J (q 1) 3).toNatClampNeg) (Int32.ofInt 0) J)
  | c + 1, v3, J => if (J (q 1) 1) ≤ v3 then (x1N_48 p q ((J (q 1) 3).toNatClampNeg) (Int32.ofInt 0) J)
    else if (J (q 10) v3.toNatClampNeg) = (Int32.ofInt 1) then if (x2 q v3 (J (q 0) 2) J) = 0 then (x1N_2 p q c (v3 + (Int32.ofInt 1)) J)
        else (x1N_2 p q c (v3 + (Int32.ofInt 1)) (x3 q v3 J))
      else (x1N_2 p q c (v3 + (Int32.ofInt 1)) J)
theorem xt1N_2 {X : nt_X} {d : Nat} {M : nt_M} {o : Option Value × nt_M} {p : Nat → Nat} {q : Nat → Nat} (hp : xs_P M p) (hq : xs_Q M q) (hx : xs_X p q) : ∀ (c : Nat) (v3 : Int32) (J : Nat → Nat → Int32), (J (q 1) 1).toInt - v3.toInt ≤ c → nt_rn X d 1 (2, [(0, .ref (p 24)), (1, .ref (q 0)), (2, .null), (3, .int v3)], [], me_w M J) o → o = (none, me_w M (x1N_2 p q c v3 J)) := by
  intro c
  induction c with
  | zero =>
    intro v3 J hc k
    have k := ly_revb 2 (c' := (4, [(0, .ref (p 24)), (1, .ref (q 0)), (2, .null), (3, .int v3)], [.ref (q 0), .int v3], me_w M J)) rfl k
    have k := lz_get (a := (q 0)) (g := 600) (M := me_w M J) (v := .ref (q 1)) rfl (nt_gfR rfl (hq.1 (0, 0, 1) (by decide))) k
    have k := lz_get (a := (q 1)) (g := 801) (M := me_w M J) (v := .int (J (q 1) 1)) rfl (congrArg Value.int (rfl)) k
    have k := ly_revb 1 (c' := (if (J (q 1) 1) ≤ v3 then 46 else 13, [(0, .ref (p 24)), (1, .ref (q 0)), (2, .null), (3, .int v3)], [], me_w M J)) rfl k
    have h10 : (J (q 1) 1) ≤ v3 := lx_end hc
    rw [if_pos h10] at k
    have k := ly_revb 2 (c' := (48, [(3, .int (Int32.ofInt 0)), (0, .ref (p 24)), (1, .ref (q 0)), (2, .null)], [], me_w M J)) rfl k
    have k := nt_rn_w (a := [(3, .int (Int32.ofInt 0)), (0, .ref (p 24)), (1, .ref (q 0)), (2, .null)]) (b := [(0, .ref (p 24)), (1, .ref (q 0)), (2, .null), (3, .int (Int32.ofInt 0)), (4, .int (Int32.ofInt 0))]) ⟨rfl, rfl, rfl, rfl, trivial⟩ rfl k
    have k := xt1N_48 hp hq hx  ((J (q 1) 3).toNatClampNeg) (Int32.ofInt 0) (Int32.ofInt 0) J (lx_beg (by decide)) k
    rw [k, x1N_2]
  | succ c ih =>
    intro v3 J hc k
    have k := ly_revb 2 (c' := (4, [(0, .ref (p 24)), (1, .ref (q 0)), (2, .null), (3, .int v3)], [.ref (q 0), .int v3], me_w M J)) rfl k
    have k := lz_get (a := (q 0)) (g := 600) (M := me_w M J) (v := .ref (q 1)) rfl (nt_gfR rfl (hq.1 (0, 0, 1) (by decide))) k
    have k := lz_get (a := (q 1)) (g := 801) (M := me_w M J) (v := .int (J (q 1) 1)) rfl (congrArg Value.int (rfl)) k
    have k := ly_revb 1 (c' := (if (J (q 1) 1) ≤ v3 then 46 else 13, [(0, .ref (p 24)), (1, .ref (q 0)), (2, .null), (3, .int v3)], [], me_w M J)) rfl k
    by_cases h10 : (J (q 1) 1) ≤ v3
    · rw [if_pos h10] at k
      have k := ly_revb 2 (c' := (48, [(3, .int (Int32.ofInt 0)), (0, .ref (p 24)), (1, .ref (q 0)), (2, .null)], [], me_w M J)) rfl k
      have k := nt_rn_w (a := [(3, .int (Int32.ofInt 0)), (0, .ref (p 24)), (1, .ref (q 0)), (2, .null)]) (b := [(0, .ref (p 24)), (1, .ref (q 0)), (2, .null), (3, .int (Int32.ofInt 0)), (4, .int (Int32.ofInt 0))]) ⟨rfl, rfl, rfl, rfl, trivial⟩ rfl k
      have k := xt1N_48 hp hq hx  ((J (q 1) 3).toNatClampNeg) (Int32.ofInt 0) (Int32.ofInt 0) J (lx_beg (by decide)) k
      rw [k, x1N_2, if_pos h10]
    · rw [if_neg h10] at k
      have k := ly_revb 1 (c' := (14, [(0, .ref (p 24)), (1, .ref (q 0)), (2, .null), (3, .int v3)], [.ref (q 0)], me_w M J)) rfl k
      have k := lz_get (a := (q 0)) (g := 607) (M := me_w M J) (v := .ref (q 10)) rfl (nt_gfR rfl (hq.1 (0, 7, 10) (by decide))) k
      have k := ly_revb 1 (c' := (18, [(0, .ref (p 24)), (1, .ref (q 0)), (2, .null), (3, .int v3)], [.int v3, .ref (q 10)], me_w M J)) rfl k
      have k := mx_iald (v := J (q 10) v3.toNatClampNeg) rfl (hq.2.2.1 10 (by omega)) (rfl) k
      have k := ly_revb 2 (c' := (if (J (q 10) v3.toNatClampNeg) = (Int32.ofInt 1) then 23 else 40, [(0, .ref (p 24)), (1, .ref (q 0)), (2, .null), (3, .int v3)], [], me_w M J)) rfl k
      by_cases h20 : (J (q 10) v3.toNatClampNeg) = (Int32.ofInt 1)
      · rw [if_pos h20] at k
        have k := ly_revb 3 (c' := (26, [(0, .ref (p 24)), (1, .ref (q 0)), (2, .null), (3, .int v3)], [.ref (q 0), .int v3, .ref (q 0)], me_w M J)) rfl k
        have k := lz_get (a := (q 0)) (g := 602) (M := me_w M J) (v := .int (J (q 0) 2)) rfl (congrArg Value.int (rfl)) k
        obtain ⟨d1, o1, ed, kc, k⟩ := lz_c (g := 2) (q := 0) (vs := [.ref (q 0), .int v3, .int (J (q 0) 2)]) (rest := []) rfl rfl (by decide) (Or.inl ⟨_, rfl, rfl⟩) rfl k
        have e1 := xt2 hq kc
        subst e1
        have k : nt_rn X _ 1 (32, [(0, .ref (p 24)), (1, .ref (q 0)), (2, .null), (3, .int v3)], [.int (x2 q v3 (J (q 0) 2) J)], me_w M J) _ := k
        have k := ly_revb 1 (c' := (if (x2 q v3 (J (q 0) 2) J) = 0 then 40 else 35, [(0, .ref (p 24)), (1, .ref (q 0)), (2, .null), (3, .int v3)], [], me_w M J)) rfl k
        by_cases h32 : (x2 q v3 (J (q 0) 2) J) = 0
        · rw [if_pos h32] at k
          have k := ly_revb 2 (c' := (2, [(3, .int (v3 + (Int32.ofInt 1))), (0, .ref (p 24)), (1, .ref (q 0)), (2, .null)], [], me_w M J)) rfl k
          have k := nt_rn_w (a := [(3, .int (v3 + (Int32.ofInt 1))), (0, .ref (p 24)), (1, .ref (q 0)), (2, .null)]) (b := [(0, .ref (p 24)), (1, .ref (q 0)), (2, .null), (3, .int (v3 + (Int32.ofInt 1)))]) ⟨rfl, rfl, rfl, rfl, trivial⟩ rfl k
          have k := ih (v3 + (Int32.ofInt 1)) J (lx_dec h10 hc) k
          rw [k, x1N_2, if_neg h10, if_pos h20, if_pos h32]
        · rw [if_neg h32] at k
          have k := ly_revb 2 (c' := (37, [(0, .ref (p 24)), (1, .ref (q 0)), (2, .null), (3, .int v3)], [.int v3, .ref (q 0)], me_w M J)) rfl k
          obtain ⟨d1, o1, ed, kc, k⟩ := lz_c (g := 3) (q := 0) (vs := [.ref (q 0), .int v3]) (rest := []) rfl rfl (by decide) (Or.inl ⟨_, rfl, rfl⟩) rfl k
          have e1 := xt3 hq kc
          subst e1
          have k : nt_rn X _ 1 (40, [(0, .ref (p 24)), (1, .ref (q 0)), (2, .null), (3, .int v3)], [], me_w M (x3 q v3 J)) _ := k
          have k := ly_revb 2 (c' := (2, [(3, .int (v3 + (Int32.ofInt 1))), (0, .ref (p 24)), (1, .ref (q 0)), (2, .null)], [], me_w M (x3 q v3 J))) rfl k
          have k := nt_rn_w (a := [(3, .int (v3 + (Int32.ofInt 1))), (0, .ref (p 24)), (1, .ref (q 0)), (2, .null)]) (b := [(0, .ref (p 24)), (1, .ref (q 0)), (2, .null), (3, .int (v3 + (Int32.ofInt 1)))]) ⟨rfl, rfl, rfl, rfl, trivial⟩ rfl k
          have k := ih (v3 + (Int32.ofInt 1)) (x3 q v3 J) (by rw [show (x3 q v3 J) (q 1) 1 = J (q 1) 1 from congrFun (x3_frJ  (hq.2.1 1 0 (by omega) (by omega) (by decide)) (hq.2.1 1 10 (by omega) (by omega) (by decide)) (hq.2.1 1 11 (by omega) (by omega) (by decide)) (hq.2.1 1 12 (by omega) (by omega) (by decide)) (hq.2.1 1 16 (by omega) (by omega) (by decide))) 1]; exact lx_dec h10 hc) k
          rw [k, x1N_2, if_neg h10, if_pos h20, if_neg h32]
      · rw [if_neg h20] at k
        have k := ly_revb 2 (c' := (2, [(3, .int (v3 + (Int32.ofInt 1))), (0, .ref (p 24)), (1, .ref (q 0)), (2, .null)], [], me_w M J)) rfl k
        have k := nt_rn_w (a := [(3, .int (v3 + (Int32.ofInt 1))), (0, .ref (p 24)), (1, .ref (q 0)), (2, .null)]) (b := [(0, .ref (p 24)), (1, .ref (q 0)), (2, .null), (3, .int (v3 + (Int32.ofInt 1)))]) ⟨rfl, rfl, rfl, rfl, trivial⟩ rfl k
        have k := ih (v3 + (Int32.ofInt 1)) J (lx_dec h10 hc) k
        rw [k, x1N_2, if_neg h10, if_neg h20]
theorem x1N_2_rule {p : Nat → Nat} {q : Nat → Nat} {I : Nat → Int32 → (Nat → Nat → Int32) → Prop} {Q : (Nat → Nat → Int32) → Prop} (h0 : ∀ (v3 : Int32) (J : Nat → Nat → Int32), I 0 v3 J → Q (x1N_48 p q ((J (q 1) 3).toNatClampNeg) (Int32.ofInt 0) J)) (h1 : ∀ (c : Nat) (v3 : Int32) (J : Nat → Nat → Int32), I (c + 1) v3 J →
    if (J (q 1) 1) ≤ v3 then (Q (x1N_48 p q ((J (q 1) 3).toNatClampNeg) (Int32.ofInt 0) J))
    else if (J (q 10) v3.toNatClampNeg) = (Int32.ofInt 1) then if (x2 q v3 (J (q 0) 2) J) = 0 then (I c (v3 + (Int32.ofInt 1)) J)
        else (I c (v3 + (Int32.ofInt 1)) (x3 q v3 J))
      else (I c (v3 + (Int32.ofInt 1)) J)) : ∀ (c : Nat) (v3 : Int32) (J : Nat → Nat → Int32), I c v3 J → Q (x1N_2 p q c v3 J) := by
  intro c
  induction c with
  | zero =>
    intro v3 J hi
    rw [x1N_2]
    exact h0 v3 J hi
  | succ c ih =>
    intro v3 J hi
    have hi := h1 c v3 J hi
    rw [x1N_2]
    by_cases h : (J (q 1) 1) ≤ v3
    · rw [if_pos h] at hi ⊢
      exact hi
    · rw [if_neg h] at hi ⊢
      by_cases h : (J (q 10) v3.toNatClampNeg) = (Int32.ofInt 1)
      · rw [if_pos h] at hi ⊢
        by_cases h : (x2 q v3 (J (q 0) 2) J) = 0
        · rw [if_pos h] at hi ⊢
          exact ih _ _ hi
        · rw [if_neg h] at hi ⊢
          exact ih _ _ hi
      · rw [if_neg h] at hi ⊢
        exact ih _ _ hi
def x1N (p : Nat → Nat) (q : Nat → Nat) (J : Nat → Nat → Int32) : (Nat → Nat → Int32) := (x1N_2 p q ((J (q 1) 1).toNatClampNeg) (Int32.ofInt 0) J)
theorem xt1N {X : nt_X} {d : Nat} {M : nt_M} {o : Option Value × nt_M} {p : Nat → Nat} {q : Nat → Nat} {J : Nat → Nat → Int32} (hp : xs_P M p) (hq : xs_Q M q) (hx : xs_X p q) (k : nt_ev X d 1 [.ref (p 24), .ref (q 0), .null] (me_w M J) o) : o = (none, me_w M (x1N p q J)) := by
  have k : nt_rn X d 1 (0, [(0, .ref (p 24)), (1, .ref (q 0)), (2, .null)], [], me_w M J) o := k
  have k := ly_revb 2 (c' := (2, [(3, .int (Int32.ofInt 0)), (0, .ref (p 24)), (1, .ref (q 0)), (2, .null)], [], me_w M J)) rfl k
  have k := nt_rn_w (a := [(3, .int (Int32.ofInt 0)), (0, .ref (p 24)), (1, .ref (q 0)), (2, .null)]) (b := [(0, .ref (p 24)), (1, .ref (q 0)), (2, .null), (3, .int (Int32.ofInt 0))]) ⟨rfl, rfl, rfl, rfl, trivial⟩ rfl k
  have k := xt1N_2 hp hq hx  ((J (q 1) 1).toNatClampNeg) (Int32.ofInt 0) J (lx_beg (by decide)) k
  rw [k, x1N]
theorem x1N_111_frJ {p : Nat → Nat} {q : Nat → Nat} {b : Nat} : ∀ (c : Nat) (v3 : Int32) (J : Nat → Nat → Int32), b ≠ q 0 → b ≠ q 10 → b ≠ q 11 → b ≠ q 12 → b ≠ q 13 → b ≠ q 15 → b ≠ q 16 → x1N_111 p q c v3 J b = J b := by
  intro c
  induction c with
  | zero =>
    intro v3 J n0 n1 n2 n3 n4 n5 n6
    rw [x1N_111]
    all_goals first | (dsimp only; exact (show (nt_u (nt_u J (q 0) 2 ((J (q 0) 2) + (Int32.ofInt 1))) (q 0) 3 (Int32.ofInt 0)) b = J b from (mu_o n0).trans (mu_o n0))) | exact (show (nt_u (nt_u J (q 0) 2 ((J (q 0) 2) + (Int32.ofInt 1))) (q 0) 3 (Int32.ofInt 0)) b = J b from (mu_o n0).trans (mu_o n0))
  | succ c ih =>
    intro v3 J n0 n1 n2 n3 n4 n5 n6
    rw [x1N_111]
    by_cases h : (J (q 1) 1) ≤ v3
    · rw [if_pos h]
      all_goals first | (dsimp only; exact (show (nt_u (nt_u J (q 0) 2 ((J (q 0) 2) + (Int32.ofInt 1))) (q 0) 3 (Int32.ofInt 0)) b = J b from (mu_o n0).trans (mu_o n0))) | exact (show (nt_u (nt_u J (q 0) 2 ((J (q 0) 2) + (Int32.ofInt 1))) (q 0) 3 (Int32.ofInt 0)) b = J b from (mu_o n0).trans (mu_o n0))
    · rw [if_neg h]
      by_cases h : (J (q 10) v3.toNatClampNeg) = (Int32.ofInt 1)
      · rw [if_pos h]
        exact (ih _ _ n0 n1 n2 n3 n4 n5 n6).trans (x9_frJ  n1 n3 n4 n5 n6)
      · rw [if_neg h]
        exact (ih _ _ n0 n1 n2 n3 n4 n5 n6).trans (rfl)
theorem x1N_48_frJ {p : Nat → Nat} {q : Nat → Nat} {b : Nat} : ∀ (c : Nat) (v3 : Int32) (J : Nat → Nat → Int32), b ≠ q 0 → b ≠ q 10 → b ≠ q 11 → b ≠ q 12 → b ≠ q 13 → b ≠ q 15 → b ≠ q 16 → x1N_48 p q c v3 J b = J b := by
  intro c
  induction c with
  | zero =>
    intro v3 J n0 n1 n2 n3 n4 n5 n6
    rw [x1N_48]
    exact (x1N_111_frJ _ _ _ n0 n1 n2 n3 n4 n5 n6).trans (rfl)
  | succ c ih =>
    intro v3 J n0 n1 n2 n3 n4 n5 n6
    rw [x1N_48]
    by_cases h : (J (q 1) 3) ≤ v3
    · rw [if_pos h]
      exact (x1N_111_frJ _ _ _ n0 n1 n2 n3 n4 n5 n6).trans (rfl)
    · rw [if_neg h]
      by_cases h : (J (q 7) v3.toNatClampNeg) = (J (q 0) 2)
      · rw [if_pos h]
        by_cases h : (J (q 10) ((J (q 6) v3.toNatClampNeg).toNatClampNeg)) = 0
        · rw [if_pos h]
          exact (ih _ _ n0 n1 n2 n3 n4 n5 n6).trans (x4N_frJ  n1 n3 n6)
        · rw [if_neg h]
          exact (ih _ _ n0 n1 n2 n3 n4 n5 n6).trans (rfl)
      · rw [if_neg h]
        exact (ih _ _ n0 n1 n2 n3 n4 n5 n6).trans (rfl)
theorem x1N_2_frJ {p : Nat → Nat} {q : Nat → Nat} {b : Nat} : ∀ (c : Nat) (v3 : Int32) (J : Nat → Nat → Int32), b ≠ q 0 → b ≠ q 10 → b ≠ q 11 → b ≠ q 12 → b ≠ q 13 → b ≠ q 15 → b ≠ q 16 → x1N_2 p q c v3 J b = J b := by
  intro c
  induction c with
  | zero =>
    intro v3 J n0 n1 n2 n3 n4 n5 n6
    rw [x1N_2]
    exact (x1N_48_frJ _ _ _ n0 n1 n2 n3 n4 n5 n6).trans (rfl)
  | succ c ih =>
    intro v3 J n0 n1 n2 n3 n4 n5 n6
    rw [x1N_2]
    by_cases h : (J (q 1) 1) ≤ v3
    · rw [if_pos h]
      exact (x1N_48_frJ _ _ _ n0 n1 n2 n3 n4 n5 n6).trans (rfl)
    · rw [if_neg h]
      by_cases h : (J (q 10) v3.toNatClampNeg) = (Int32.ofInt 1)
      · rw [if_pos h]
        by_cases h : (x2 q v3 (J (q 0) 2) J) = 0
        · rw [if_pos h]
          exact (ih _ _ n0 n1 n2 n3 n4 n5 n6).trans (rfl)
        · rw [if_neg h]
          exact (ih _ _ n0 n1 n2 n3 n4 n5 n6).trans (x3_frJ  n0 n1 n2 n3 n6)
      · rw [if_neg h]
        exact (ih _ _ n0 n1 n2 n3 n4 n5 n6).trans (rfl)
theorem x1N_frJ {p : Nat → Nat} {q : Nat → Nat} {J : Nat → Nat → Int32} {b : Nat} (n0 : b ≠ q 0) (n1 : b ≠ q 10) (n2 : b ≠ q 11) (n3 : b ≠ q 12) (n4 : b ≠ q 13) (n5 : b ≠ q 15) (n6 : b ≠ q 16) : x1N p q J b = J b := by
  unfold x1N
  exact (x1N_2_frJ _ _ _ n0 n1 n2 n3 n4 n5 n6).trans (rfl)
