section
/-! the class: by rules -/
/-! $Reckoner.push -/
def x42 (p : Nat → Nat) (v1 : Int64) (J : Nat → Nat → Int32) (L : Nat → Nat → Int64) : (Nat → Nat → Int32) × (Nat → Nat → Int64) := if (Int32.ofNat 60) ≤ (J (p 25) 2) then (J, L)
  else (nt_u J (p 25) 2 ((J (p 25) 2) + (Int32.ofInt 1)), nt_u L (p 27) ((J (p 25) 2).toNatClampNeg) v1)
theorem xt42 {X : nt_X} {d : Nat} {M : nt_M} {o : Option Value × nt_M} {p : Nat → Nat} {v1 : Int64} {J : Nat → Nat → Int32} {L : Nat → Nat → Int64} (hp : xs_P M p) (k : nt_ev X d 42 [.ref (p 25), .long v1] (me_w (lw M L) J) o) : o = (none, me_w (lw M ((x42 p v1 J L).2)) ((x42 p v1 J L).1)) := by
  have k : nt_rn X d 42 (0, [(0, .ref (p 25)), (1, .long v1)], [], me_w (lw M L) J) o := k
  have k := ly_revb 1 (c' := (1, [(0, .ref (p 25)), (1, .long v1)], [.ref (p 25)], me_w (lw M L) J)) rfl k
  have k := lz_get (a := (p 25)) (g := 302) (M := me_w (lw M L) J) (v := .int (J (p 25) 2)) rfl (congrArg Value.int (rfl)) k
  have k := ly_revb 1 (c' := (5, [(0, .ref (p 25)), (1, .long v1)], [.ref (p 25), .int (J (p 25) 2)], me_w (lw M L) J)) rfl k
  have k := lz_get (a := (p 25)) (g := 301) (M := me_w (lw M L) J) (v := .ref (p 27)) rfl (nt_gfR rfl (hp.1 (25, 1, 27) (by decide))) k
  have k := lz_len rfl (hp.2.2.1 27 (by omega)) k
  rw [show nt_l (me_w (lw M L) J) (p 27) = 60 from hp.2.2.2] at k
  have k : nt_rn X _ 42 (9, [(0, .ref (p 25)), (1, .long v1)], [.int (Int32.ofNat 60), .int (J (p 25) 2)], me_w (lw M L) J) _ := k
  have k := ly_revb 1 (c' := (if (Int32.ofNat 60) ≤ (J (p 25) 2) then 32 else 12, [(0, .ref (p 25)), (1, .long v1)], [], me_w (lw M L) J)) rfl k
  by_cases h9 : (Int32.ofNat 60) ≤ (J (p 25) 2)
  · rw [if_pos h9] at k
    have k := lz_rv rfl rfl k
    rw [k, x42, if_pos h9]
  · rw [if_neg h9] at k
    have k := ly_revb 1 (c' := (13, [(0, .ref (p 25)), (1, .long v1)], [.ref (p 25)], me_w (lw M L) J)) rfl k
    have k := lz_get (a := (p 25)) (g := 301) (M := me_w (lw M L) J) (v := .ref (p 27)) rfl (nt_gfR rfl (hp.1 (25, 1, 27) (by decide))) k
    have k := ly_revb 1 (c' := (17, [(0, .ref (p 25)), (1, .long v1)], [.ref (p 25), .ref (p 27)], me_w (lw M L) J)) rfl k
    have k := lz_get (a := (p 25)) (g := 302) (M := me_w (lw M L) J) (v := .int (J (p 25) 2)) rfl (congrArg Value.int (rfl)) k
    have k := ly_revb 1 (c' := (21, [(0, .ref (p 25)), (1, .long v1)], [.long v1, .int (J (p 25) 2), .ref (p 27)], me_w (lw M L) J)) rfl k
    have k := mx_last (q := (J (p 25) 2).toNatClampNeg) rfl rfl k
    have k : nt_rn X _ 42 (22, [(0, .ref (p 25)), (1, .long v1)], [], me_w (lw M (nt_u L (p 27) ((J (p 25) 2).toNatClampNeg) v1)) J) _ := k
    have k := ly_revb 2 (c' := (24, [(0, .ref (p 25)), (1, .long v1)], [.ref (p 25), .ref (p 25)], me_w (lw M (nt_u L (p 27) ((J (p 25) 2).toNatClampNeg) v1)) J)) rfl k
    have k := lz_get (a := (p 25)) (g := 302) (M := me_w (lw M (nt_u L (p 27) ((J (p 25) 2).toNatClampNeg) v1)) J) (v := .int (J (p 25) 2)) rfl (congrArg Value.int (rfl)) k
    have k := ly_revb 2 (c' := (29, [(0, .ref (p 25)), (1, .long v1)], [.int ((J (p 25) 2) + (Int32.ofInt 1)), .ref (p 25)], me_w (lw M (nt_u L (p 27) ((J (p 25) 2).toNatClampNeg) v1)) J)) rfl k
    have k := me_put rfl (by decide) k
    have k : nt_rn X _ 42 (32, [(0, .ref (p 25)), (1, .long v1)], [], me_w (lw M (nt_u L (p 27) ((J (p 25) 2).toNatClampNeg) v1)) (nt_u J (p 25) 2 ((J (p 25) 2) + (Int32.ofInt 1)))) _ := k
    have k := lz_rv rfl rfl k
    rw [k, x42, if_neg h9]
theorem x42_frJ {p : Nat → Nat} {v1 : Int64} {J : Nat → Nat → Int32} {L : Nat → Nat → Int64} {b : Nat} (n0 : b ≠ p 25) : (x42 p v1 J L).1 b = J b := by
  unfold x42
  by_cases h : (Int32.ofNat 60) ≤ (J (p 25) 2)
  · rw [if_pos h]
    all_goals first | (dsimp only; exact (show J b = J b from rfl)) | exact (show J b = J b from rfl)
  · rw [if_neg h]
    all_goals first | (dsimp only; exact (show (nt_u J (p 25) 2 ((J (p 25) 2) + (Int32.ofInt 1))) b = J b from mu_o n0)) | exact (show (nt_u J (p 25) 2 ((J (p 25) 2) + (Int32.ofInt 1))) b = J b from mu_o n0)
theorem x42_frL {p : Nat → Nat} {v1 : Int64} {J : Nat → Nat → Int32} {L : Nat → Nat → Int64} {b : Nat} (n0 : b ≠ p 27) : (x42 p v1 J L).2 b = L b := by
  unfold x42
  by_cases h : (Int32.ofNat 60) ≤ (J (p 25) 2)
  · rw [if_pos h]
    all_goals first | (dsimp only; exact (show L b = L b from rfl)) | exact (show L b = L b from rfl)
  · rw [if_neg h]
    all_goals first | (dsimp only; exact (show (nt_u L (p 27) ((J (p 25) 2).toNatClampNeg) v1) b = L b from mu_o n0)) | exact (show (nt_u L (p 27) ((J (p 25) 2).toNatClampNeg) v1) b = L b from mu_o n0)
/-! $Reckoner.joined -/
def x44 (v0 : Int32) (v1 : Int64) (v3 : Int64) : Int64 := if v0.toInt < 10 ∨ 19 < v0.toInt then (v1 ||| v3)
  else if v0 = Int32.ofInt 10 then (v1 + v3)
    else if v0 = Int32.ofInt 11 then (v1 - v3)
      else if v0 = Int32.ofInt 12 then (v1 * v3)
        else if v0 = Int32.ofInt 13 then if (lg_cmp v3 (Int64.ofNat 0)) = 0 then (Int64.ofNat 0)
            else (v1 / v3)
          else if v0 = Int32.ofInt 14 then if 0 ≤ (lg_cmp v1 v3) then (Int64.ofNat 0)
              else (Int64.ofNat 1)
            else if v0 = Int32.ofInt 15 then if 0 < (lg_cmp v1 v3) then (Int64.ofNat 0)
                else (Int64.ofNat 1)
              else if v0 = Int32.ofInt 16 then if (lg_cmp v1 v3) = 0 then (Int64.ofNat 1)
                  else (Int64.ofNat 0)
                else if v0 = Int32.ofInt 17 then if (lg_cmp v1 v3) < 0 then (Int64.ofNat 0)
                    else (Int64.ofNat 1)
                  else if v0 = Int32.ofInt 18 then if (lg_cmp v1 v3) ≤ 0 then (Int64.ofNat 0)
                      else (Int64.ofNat 1)
                    else (v1 &&& v3)
theorem xt44 {X : nt_X} {d : Nat} {M : nt_M} {o : Option Value × nt_M} {v0 : Int32} {v1 : Int64} {v3 : Int64} {J : Nat → Nat → Int32}  (k : nt_ev X d 44 [.int v0, .long v1, .long v3] (me_w M J) o) : o = (some (.long (x44 v0 v1 v3)), me_w M J) := by
  have k : nt_rn X d 44 (0, [(0, .int v0), (1, .long v1), (3, .long v3)], [], me_w M J) o := k
  have k := ly_revb 1 (c' := (1, [(0, .int v0), (1, .long v1), (3, .long v3)], [.int v0], me_w M J)) rfl k
  by_cases h1 : v0.toInt < 10 ∨ 19 < v0.toInt
  · have k := mx_tsd (q := 146) rfl h1 (by decide) k
    have k : nt_rn X _ 44 (146, [(0, .int v0), (1, .long v1), (3, .long v3)], [], me_w M J) _ := k
    have k := ly_revb 3 (c' := (149, [(0, .int v0), (1, .long v1), (3, .long v3)], [.long (v1 ||| v3)], me_w M J)) rfl k
    have k := mx_rl rfl rfl k
    rw [k, x44, if_pos h1]
  · by_cases h1_10 : v0 = Int32.ofInt 10
    · have k := mx_tsc (q := 56) (off := 55) rfl h1 (by rw [h1_10]; rfl) (by decide) k
      have k : nt_rn X _ 44 (56, [(0, .int v0), (1, .long v1), (3, .long v3)], [], me_w M J) _ := k
      have k := ly_revb 3 (c' := (59, [(0, .int v0), (1, .long v1), (3, .long v3)], [.long (v1 + v3)], me_w M J)) rfl k
      have k := mx_rl rfl rfl k
      rw [k, x44, if_neg h1, if_pos h1_10]
    · by_cases h1_11 : v0 = Int32.ofInt 11
      · have k := mx_tsc (q := 60) (off := 59) rfl h1 (by rw [h1_11]; rfl) (by decide) k
        have k : nt_rn X _ 44 (60, [(0, .int v0), (1, .long v1), (3, .long v3)], [], me_w M J) _ := k
        have k := ly_revb 3 (c' := (63, [(0, .int v0), (1, .long v1), (3, .long v3)], [.long (v1 - v3)], me_w M J)) rfl k
        have k := mx_rl rfl rfl k
        rw [k, x44, if_neg h1, if_neg h1_10, if_pos h1_11]
      · by_cases h1_12 : v0 = Int32.ofInt 12
        · have k := mx_tsc (q := 64) (off := 63) rfl h1 (by rw [h1_12]; rfl) (by decide) k
          have k : nt_rn X _ 44 (64, [(0, .int v0), (1, .long v1), (3, .long v3)], [], me_w M J) _ := k
          have k := ly_revb 3 (c' := (67, [(0, .int v0), (1, .long v1), (3, .long v3)], [.long (v1 * v3)], me_w M J)) rfl k
          have k := mx_rl rfl rfl k
          rw [k, x44, if_neg h1, if_neg h1_10, if_neg h1_11, if_pos h1_12]
        · by_cases h1_13 : v0 = Int32.ofInt 13
          · have k := mx_tsc (q := 68) (off := 67) rfl h1 (by rw [h1_13]; rfl) (by decide) k
            have k : nt_rn X _ 44 (68, [(0, .int v0), (1, .long v1), (3, .long v3)], [], me_w M J) _ := k
            have k := ly_revb 4 (c' := (if (lg_cmp v3 (Int64.ofNat 0)) = 0 then 74 else 78, [(0, .int v0), (1, .long v1), (3, .long v3)], [], me_w M J)) rfl k
            by_cases h71 : (lg_cmp v3 (Int64.ofNat 0)) = 0
            · rw [if_pos h71] at k
              have k := ly_revb 2 (c' := (81, [(0, .int v0), (1, .long v1), (3, .long v3)], [.long (Int64.ofNat 0)], me_w M J)) rfl k
              have k := mx_rl rfl rfl k
              rw [k, x44, if_neg h1, if_neg h1_10, if_neg h1_11, if_neg h1_12, if_pos h1_13, if_pos h71]
            · rw [if_neg h71] at k
              have k := ly_revb 2 (c' := (80, [(0, .int v0), (1, .long v1), (3, .long v3)], [.long v3, .long v1], me_w M J)) rfl k
              obtain ⟨hd80, k⟩ := mx_ldiv rfl k
              have k := mx_rl rfl rfl k
              rw [k, x44, if_neg h1, if_neg h1_10, if_neg h1_11, if_neg h1_12, if_pos h1_13, if_neg h71]
          · by_cases h1_14 : v0 = Int32.ofInt 14
            · have k := mx_tsc (q := 82) (off := 81) rfl h1 (by rw [h1_14]; rfl) (by decide) k
              have k : nt_rn X _ 44 (82, [(0, .int v0), (1, .long v1), (3, .long v3)], [], me_w M J) _ := k
              have k := ly_revb 4 (c' := (if 0 ≤ (lg_cmp v1 v3) then 92 else 88, [(0, .int v0), (1, .long v1), (3, .long v3)], [], me_w M J)) rfl k
              by_cases h85 : 0 ≤ (lg_cmp v1 v3)
              · rw [if_pos h85] at k
                have k := ly_revb 1 (c' := (93, [(0, .int v0), (1, .long v1), (3, .long v3)], [.long (Int64.ofNat 0)], me_w M J)) rfl k
                have k := mx_rl rfl rfl k
                rw [k, x44, if_neg h1, if_neg h1_10, if_neg h1_11, if_neg h1_12, if_neg h1_13, if_pos h1_14, if_pos h85]
              · rw [if_neg h85] at k
                have k := ly_revb 2 (c' := (93, [(0, .int v0), (1, .long v1), (3, .long v3)], [.long (Int64.ofNat 1)], me_w M J)) rfl k
                have k := mx_rl rfl rfl k
                rw [k, x44, if_neg h1, if_neg h1_10, if_neg h1_11, if_neg h1_12, if_neg h1_13, if_pos h1_14, if_neg h85]
            · by_cases h1_15 : v0 = Int32.ofInt 15
              · have k := mx_tsc (q := 94) (off := 93) rfl h1 (by rw [h1_15]; rfl) (by decide) k
                have k : nt_rn X _ 44 (94, [(0, .int v0), (1, .long v1), (3, .long v3)], [], me_w M J) _ := k
                have k := ly_revb 4 (c' := (if 0 < (lg_cmp v1 v3) then 104 else 100, [(0, .int v0), (1, .long v1), (3, .long v3)], [], me_w M J)) rfl k
                by_cases h97 : 0 < (lg_cmp v1 v3)
                · rw [if_pos h97] at k
                  have k := ly_revb 1 (c' := (105, [(0, .int v0), (1, .long v1), (3, .long v3)], [.long (Int64.ofNat 0)], me_w M J)) rfl k
                  have k := mx_rl rfl rfl k
                  rw [k, x44, if_neg h1, if_neg h1_10, if_neg h1_11, if_neg h1_12, if_neg h1_13, if_neg h1_14, if_pos h1_15, if_pos h97]
                · rw [if_neg h97] at k
                  have k := ly_revb 2 (c' := (105, [(0, .int v0), (1, .long v1), (3, .long v3)], [.long (Int64.ofNat 1)], me_w M J)) rfl k
                  have k := mx_rl rfl rfl k
                  rw [k, x44, if_neg h1, if_neg h1_10, if_neg h1_11, if_neg h1_12, if_neg h1_13, if_neg h1_14, if_pos h1_15, if_neg h97]
              · by_cases h1_16 : v0 = Int32.ofInt 16
                · have k := mx_tsc (q := 106) (off := 105) rfl h1 (by rw [h1_16]; rfl) (by decide) k
                  have k : nt_rn X _ 44 (106, [(0, .int v0), (1, .long v1), (3, .long v3)], [], me_w M J) _ := k
                  have k := ly_revb 4 (c' := (if (lg_cmp v1 v3) = 0 then 112 else 116, [(0, .int v0), (1, .long v1), (3, .long v3)], [], me_w M J)) rfl k
                  by_cases h109 : (lg_cmp v1 v3) = 0
                  · rw [if_pos h109] at k
                    have k := ly_revb 2 (c' := (117, [(0, .int v0), (1, .long v1), (3, .long v3)], [.long (Int64.ofNat 1)], me_w M J)) rfl k
                    have k := mx_rl rfl rfl k
                    rw [k, x44, if_neg h1, if_neg h1_10, if_neg h1_11, if_neg h1_12, if_neg h1_13, if_neg h1_14, if_neg h1_15, if_pos h1_16, if_pos h109]
                  · rw [if_neg h109] at k
                    have k := ly_revb 1 (c' := (117, [(0, .int v0), (1, .long v1), (3, .long v3)], [.long (Int64.ofNat 0)], me_w M J)) rfl k
                    have k := mx_rl rfl rfl k
                    rw [k, x44, if_neg h1, if_neg h1_10, if_neg h1_11, if_neg h1_12, if_neg h1_13, if_neg h1_14, if_neg h1_15, if_pos h1_16, if_neg h109]
                · by_cases h1_17 : v0 = Int32.ofInt 17
                  · have k := mx_tsc (q := 118) (off := 117) rfl h1 (by rw [h1_17]; rfl) (by decide) k
                    have k : nt_rn X _ 44 (118, [(0, .int v0), (1, .long v1), (3, .long v3)], [], me_w M J) _ := k
                    have k := ly_revb 4 (c' := (if (lg_cmp v1 v3) < 0 then 128 else 124, [(0, .int v0), (1, .long v1), (3, .long v3)], [], me_w M J)) rfl k
                    by_cases h121 : (lg_cmp v1 v3) < 0
                    · rw [if_pos h121] at k
                      have k := ly_revb 1 (c' := (129, [(0, .int v0), (1, .long v1), (3, .long v3)], [.long (Int64.ofNat 0)], me_w M J)) rfl k
                      have k := mx_rl rfl rfl k
                      rw [k, x44, if_neg h1, if_neg h1_10, if_neg h1_11, if_neg h1_12, if_neg h1_13, if_neg h1_14, if_neg h1_15, if_neg h1_16, if_pos h1_17, if_pos h121]
                    · rw [if_neg h121] at k
                      have k := ly_revb 2 (c' := (129, [(0, .int v0), (1, .long v1), (3, .long v3)], [.long (Int64.ofNat 1)], me_w M J)) rfl k
                      have k := mx_rl rfl rfl k
                      rw [k, x44, if_neg h1, if_neg h1_10, if_neg h1_11, if_neg h1_12, if_neg h1_13, if_neg h1_14, if_neg h1_15, if_neg h1_16, if_pos h1_17, if_neg h121]
                  · by_cases h1_18 : v0 = Int32.ofInt 18
                    · have k := mx_tsc (q := 130) (off := 129) rfl h1 (by rw [h1_18]; rfl) (by decide) k
                      have k : nt_rn X _ 44 (130, [(0, .int v0), (1, .long v1), (3, .long v3)], [], me_w M J) _ := k
                      have k := ly_revb 4 (c' := (if (lg_cmp v1 v3) ≤ 0 then 140 else 136, [(0, .int v0), (1, .long v1), (3, .long v3)], [], me_w M J)) rfl k
                      by_cases h133 : (lg_cmp v1 v3) ≤ 0
                      · rw [if_pos h133] at k
                        have k := ly_revb 1 (c' := (141, [(0, .int v0), (1, .long v1), (3, .long v3)], [.long (Int64.ofNat 0)], me_w M J)) rfl k
                        have k := mx_rl rfl rfl k
                        rw [k, x44, if_neg h1, if_neg h1_10, if_neg h1_11, if_neg h1_12, if_neg h1_13, if_neg h1_14, if_neg h1_15, if_neg h1_16, if_neg h1_17, if_pos h1_18, if_pos h133]
                      · rw [if_neg h133] at k
                        have k := ly_revb 2 (c' := (141, [(0, .int v0), (1, .long v1), (3, .long v3)], [.long (Int64.ofNat 1)], me_w M J)) rfl k
                        have k := mx_rl rfl rfl k
                        rw [k, x44, if_neg h1, if_neg h1_10, if_neg h1_11, if_neg h1_12, if_neg h1_13, if_neg h1_14, if_neg h1_15, if_neg h1_16, if_neg h1_17, if_pos h1_18, if_neg h133]
                    · have hz : v0 = Int32.ofInt 19 := by
                        have z1 := h1
                        have y0 : v0.toInt ≠ 10 := fun e => h1_10 (Int32.toInt_inj.mp (e.trans (by decide)))
                        have y1 : v0.toInt ≠ 11 := fun e => h1_11 (Int32.toInt_inj.mp (e.trans (by decide)))
                        have y2 : v0.toInt ≠ 12 := fun e => h1_12 (Int32.toInt_inj.mp (e.trans (by decide)))
                        have y3 : v0.toInt ≠ 13 := fun e => h1_13 (Int32.toInt_inj.mp (e.trans (by decide)))
                        have y4 : v0.toInt ≠ 14 := fun e => h1_14 (Int32.toInt_inj.mp (e.trans (by decide)))
                        have y5 : v0.toInt ≠ 15 := fun e => h1_15 (Int32.toInt_inj.mp (e.trans (by decide)))
                        have y6 : v0.toInt ≠ 16 := fun e => h1_16 (Int32.toInt_inj.mp (e.trans (by decide)))
                        have y7 : v0.toInt ≠ 17 := fun e => h1_17 (Int32.toInt_inj.mp (e.trans (by decide)))
                        have y8 : v0.toInt ≠ 18 := fun e => h1_18 (Int32.toInt_inj.mp (e.trans (by decide)))
                        exact Int32.toInt_inj.mp ((show v0.toInt = 19 by omega).trans (by decide))
                      have k := mx_tsc (q := 142) (off := 141) rfl h1 (by rw [hz]; rfl) (by decide) k
                      have k : nt_rn X _ 44 (142, [(0, .int v0), (1, .long v1), (3, .long v3)], [], me_w M J) _ := k
                      have k := ly_revb 3 (c' := (145, [(0, .int v0), (1, .long v1), (3, .long v3)], [.long (v1 &&& v3)], me_w M J)) rfl k
                      have k := mx_rl rfl rfl k
                      rw [k, x44, if_neg h1, if_neg h1_10, if_neg h1_11, if_neg h1_12, if_neg h1_13, if_neg h1_14, if_neg h1_15, if_neg h1_16, if_neg h1_17, if_neg h1_18]
/-! $Reckoner.apply -/
def x43 (p : Nat → Nat) (v1 : Int32) (J : Nat → Nat → Int32) (L : Nat → Nat → Int64) : (Nat → Nat → Int32) × (Nat → Nat → Int64) := if v1 = (Int32.ofInt 21) then if (J (p 25) 2) < (Int32.ofInt 1) then if (J (p 25) 2) < (Int32.ofInt 2) then (J, L)
      else (nt_u J (p 25) 2 ((J (p 25) 2) - (Int32.ofInt 1)), nt_u L (p 27) ((((J (p 25) 2) - (Int32.ofInt 1)) - (Int32.ofInt 1)).toNatClampNeg) (x44 v1 (L (p 27) ((((J (p 25) 2) - (Int32.ofInt 1)) - (Int32.ofInt 1)).toNatClampNeg)) (L (p 27) (((J (p 25) 2) - (Int32.ofInt 1)).toNatClampNeg))))
    else (J, nt_u L (p 27) (((J (p 25) 2) - (Int32.ofInt 1)).toNatClampNeg) ((Int64.ofNat 1) - (L (p 27) (((J (p 25) 2) - (Int32.ofInt 1)).toNatClampNeg))))
  else if (J (p 25) 2) < (Int32.ofInt 2) then (J, L)
    else (nt_u J (p 25) 2 ((J (p 25) 2) - (Int32.ofInt 1)), nt_u L (p 27) ((((J (p 25) 2) - (Int32.ofInt 1)) - (Int32.ofInt 1)).toNatClampNeg) (x44 v1 (L (p 27) ((((J (p 25) 2) - (Int32.ofInt 1)) - (Int32.ofInt 1)).toNatClampNeg)) (L (p 27) (((J (p 25) 2) - (Int32.ofInt 1)).toNatClampNeg))))
theorem xt43 {X : nt_X} {d : Nat} {M : nt_M} {o : Option Value × nt_M} {p : Nat → Nat} {v1 : Int32} {J : Nat → Nat → Int32} {L : Nat → Nat → Int64} (hp : xs_P M p) (k : nt_ev X d 43 [.ref (p 25), .int v1] (me_w (lw M L) J) o) : o = (none, me_w (lw M ((x43 p v1 J L).2)) ((x43 p v1 J L).1)) := by
  have k : nt_rn X d 43 (0, [(0, .ref (p 25)), (1, .int v1)], [], me_w (lw M L) J) o := k
  have k := ly_revb 3 (c' := (if v1 = (Int32.ofInt 21) then 6 else 41, [(0, .ref (p 25)), (1, .int v1)], [], me_w (lw M L) J)) rfl k
  by_cases h3 : v1 = (Int32.ofInt 21)
  · rw [if_pos h3] at k
    have k := ly_revb 1 (c' := (7, [(0, .ref (p 25)), (1, .int v1)], [.ref (p 25)], me_w (lw M L) J)) rfl k
    have k := lz_get (a := (p 25)) (g := 302) (M := me_w (lw M L) J) (v := .int (J (p 25) 2)) rfl (congrArg Value.int (rfl)) k
    have k := ly_revb 2 (c' := (if (J (p 25) 2) < (Int32.ofInt 1) then 41 else 14, [(0, .ref (p 25)), (1, .int v1)], [], me_w (lw M L) J)) rfl k
    by_cases h11 : (J (p 25) 2) < (Int32.ofInt 1)
    · rw [if_pos h11] at k
      have k := ly_revb 1 (c' := (42, [(0, .ref (p 25)), (1, .int v1)], [.ref (p 25)], me_w (lw M L) J)) rfl k
      have k := lz_get (a := (p 25)) (g := 302) (M := me_w (lw M L) J) (v := .int (J (p 25) 2)) rfl (congrArg Value.int (rfl)) k
      have k := ly_revb 2 (c' := (if (J (p 25) 2) < (Int32.ofInt 2) then 94 else 49, [(0, .ref (p 25)), (1, .int v1)], [], me_w (lw M L) J)) rfl k
      by_cases h46 : (J (p 25) 2) < (Int32.ofInt 2)
      · rw [if_pos h46] at k
        have k := lz_rv rfl rfl k
        rw [k, x43, if_pos h3, if_pos h11, if_pos h46]
      · rw [if_neg h46] at k
        have k := ly_revb 2 (c' := (51, [(0, .ref (p 25)), (1, .int v1)], [.ref (p 25), .ref (p 25)], me_w (lw M L) J)) rfl k
        have k := lz_get (a := (p 25)) (g := 302) (M := me_w (lw M L) J) (v := .int (J (p 25) 2)) rfl (congrArg Value.int (rfl)) k
        have k := ly_revb 2 (c' := (56, [(0, .ref (p 25)), (1, .int v1)], [.int ((J (p 25) 2) - (Int32.ofInt 1)), .ref (p 25)], me_w (lw M L) J)) rfl k
        have k := me_put rfl (by decide) k
        have k : nt_rn X _ 43 (59, [(0, .ref (p 25)), (1, .int v1)], [], me_w (lw M L) (nt_u J (p 25) 2 ((J (p 25) 2) - (Int32.ofInt 1)))) _ := k
        have k := ly_revb 1 (c' := (60, [(0, .ref (p 25)), (1, .int v1)], [.ref (p 25)], me_w (lw M L) (nt_u J (p 25) 2 ((J (p 25) 2) - (Int32.ofInt 1))))) rfl k
        have k := lz_get (a := (p 25)) (g := 301) (M := me_w (lw M L) (nt_u J (p 25) 2 ((J (p 25) 2) - (Int32.ofInt 1)))) (v := .ref (p 27)) rfl (nt_gfR rfl (hp.1 (25, 1, 27) (by decide))) k
        have k := ly_revb 1 (c' := (64, [(0, .ref (p 25)), (1, .int v1)], [.ref (p 25), .ref (p 27)], me_w (lw M L) (nt_u J (p 25) 2 ((J (p 25) 2) - (Int32.ofInt 1))))) rfl k
        have k := lz_get (a := (p 25)) (g := 302) (M := me_w (lw M L) (nt_u J (p 25) 2 ((J (p 25) 2) - (Int32.ofInt 1)))) (v := .int ((J (p 25) 2) - (Int32.ofInt 1))) rfl (congrArg Value.int (mu_s)) k
        have k := ly_revb 4 (c' := (71, [(0, .ref (p 25)), (1, .int v1)], [.ref (p 25), .int v1, .int (((J (p 25) 2) - (Int32.ofInt 1)) - (Int32.ofInt 1)), .ref (p 27)], me_w (lw M L) (nt_u J (p 25) 2 ((J (p 25) 2) - (Int32.ofInt 1))))) rfl k
        have k := lz_get (a := (p 25)) (g := 301) (M := me_w (lw M L) (nt_u J (p 25) 2 ((J (p 25) 2) - (Int32.ofInt 1)))) (v := .ref (p 27)) rfl (nt_gfR rfl (hp.1 (25, 1, 27) (by decide))) k
        have k := ly_revb 1 (c' := (75, [(0, .ref (p 25)), (1, .int v1)], [.ref (p 25), .ref (p 27), .int v1, .int (((J (p 25) 2) - (Int32.ofInt 1)) - (Int32.ofInt 1)), .ref (p 27)], me_w (lw M L) (nt_u J (p 25) 2 ((J (p 25) 2) - (Int32.ofInt 1))))) rfl k
        have k := lz_get (a := (p 25)) (g := 302) (M := me_w (lw M L) (nt_u J (p 25) 2 ((J (p 25) 2) - (Int32.ofInt 1)))) (v := .int ((J (p 25) 2) - (Int32.ofInt 1))) rfl (congrArg Value.int (mu_s)) k
        have k := ly_revb 2 (c' := (80, [(0, .ref (p 25)), (1, .int v1)], [.int (((J (p 25) 2) - (Int32.ofInt 1)) - (Int32.ofInt 1)), .ref (p 27), .int v1, .int (((J (p 25) 2) - (Int32.ofInt 1)) - (Int32.ofInt 1)), .ref (p 27)], me_w (lw M L) (nt_u J (p 25) 2 ((J (p 25) 2) - (Int32.ofInt 1))))) rfl k
        have k := mx_lald (v := L (p 27) ((((J (p 25) 2) - (Int32.ofInt 1)) - (Int32.ofInt 1)).toNatClampNeg)) rfl (rfl) k
        have k := ly_revb 1 (c' := (82, [(0, .ref (p 25)), (1, .int v1)], [.ref (p 25), .long (L (p 27) ((((J (p 25) 2) - (Int32.ofInt 1)) - (Int32.ofInt 1)).toNatClampNeg)), .int v1, .int (((J (p 25) 2) - (Int32.ofInt 1)) - (Int32.ofInt 1)), .ref (p 27)], me_w (lw M L) (nt_u J (p 25) 2 ((J (p 25) 2) - (Int32.ofInt 1))))) rfl k
        have k := lz_get (a := (p 25)) (g := 301) (M := me_w (lw M L) (nt_u J (p 25) 2 ((J (p 25) 2) - (Int32.ofInt 1)))) (v := .ref (p 27)) rfl (nt_gfR rfl (hp.1 (25, 1, 27) (by decide))) k
        have k := ly_revb 1 (c' := (86, [(0, .ref (p 25)), (1, .int v1)], [.ref (p 25), .ref (p 27), .long (L (p 27) ((((J (p 25) 2) - (Int32.ofInt 1)) - (Int32.ofInt 1)).toNatClampNeg)), .int v1, .int (((J (p 25) 2) - (Int32.ofInt 1)) - (Int32.ofInt 1)), .ref (p 27)], me_w (lw M L) (nt_u J (p 25) 2 ((J (p 25) 2) - (Int32.ofInt 1))))) rfl k
        have k := lz_get (a := (p 25)) (g := 302) (M := me_w (lw M L) (nt_u J (p 25) 2 ((J (p 25) 2) - (Int32.ofInt 1)))) (v := .int ((J (p 25) 2) - (Int32.ofInt 1))) rfl (congrArg Value.int (mu_s)) k
        have k := mx_lald (v := L (p 27) (((J (p 25) 2) - (Int32.ofInt 1)).toNatClampNeg)) rfl (rfl) k
        obtain ⟨d1, o1, ed, kc, k⟩ := lz_c (g := 44) (q := 0) (vs := [.int v1, .long (L (p 27) ((((J (p 25) 2) - (Int32.ofInt 1)) - (Int32.ofInt 1)).toNatClampNeg)), .long (L (p 27) (((J (p 25) 2) - (Int32.ofInt 1)).toNatClampNeg))]) (rest := [.int (((J (p 25) 2) - (Int32.ofInt 1)) - (Int32.ofInt 1)), .ref (p 27)]) rfl rfl (by decide) (Or.inl ⟨_, rfl, rfl⟩) rfl k
        have e1 := xt44  kc
        subst e1
        have k : nt_rn X _ 43 (93, [(0, .ref (p 25)), (1, .int v1)], [.long (x44 v1 (L (p 27) ((((J (p 25) 2) - (Int32.ofInt 1)) - (Int32.ofInt 1)).toNatClampNeg)) (L (p 27) (((J (p 25) 2) - (Int32.ofInt 1)).toNatClampNeg))), .int (((J (p 25) 2) - (Int32.ofInt 1)) - (Int32.ofInt 1)), .ref (p 27)], me_w (lw M L) (nt_u J (p 25) 2 ((J (p 25) 2) - (Int32.ofInt 1)))) _ := k
        have k := mx_last (q := (((J (p 25) 2) - (Int32.ofInt 1)) - (Int32.ofInt 1)).toNatClampNeg) rfl rfl k
        have k : nt_rn X _ 43 (94, [(0, .ref (p 25)), (1, .int v1)], [], me_w (lw M (nt_u L (p 27) ((((J (p 25) 2) - (Int32.ofInt 1)) - (Int32.ofInt 1)).toNatClampNeg) (x44 v1 (L (p 27) ((((J (p 25) 2) - (Int32.ofInt 1)) - (Int32.ofInt 1)).toNatClampNeg)) (L (p 27) (((J (p 25) 2) - (Int32.ofInt 1)).toNatClampNeg))))) (nt_u J (p 25) 2 ((J (p 25) 2) - (Int32.ofInt 1)))) _ := k
        have k := lz_rv rfl rfl k
        rw [k, x43, if_pos h3, if_pos h11, if_neg h46]
    · rw [if_neg h11] at k
      have k := ly_revb 1 (c' := (15, [(0, .ref (p 25)), (1, .int v1)], [.ref (p 25)], me_w (lw M L) J)) rfl k
      have k := lz_get (a := (p 25)) (g := 301) (M := me_w (lw M L) J) (v := .ref (p 27)) rfl (nt_gfR rfl (hp.1 (25, 1, 27) (by decide))) k
      have k := ly_revb 1 (c' := (19, [(0, .ref (p 25)), (1, .int v1)], [.ref (p 25), .ref (p 27)], me_w (lw M L) J)) rfl k
      have k := lz_get (a := (p 25)) (g := 302) (M := me_w (lw M L) J) (v := .int (J (p 25) 2)) rfl (congrArg Value.int (rfl)) k
      have k := ly_revb 4 (c' := (26, [(0, .ref (p 25)), (1, .int v1)], [.ref (p 25), .long (Int64.ofNat 1), .int ((J (p 25) 2) - (Int32.ofInt 1)), .ref (p 27)], me_w (lw M L) J)) rfl k
      have k := lz_get (a := (p 25)) (g := 301) (M := me_w (lw M L) J) (v := .ref (p 27)) rfl (nt_gfR rfl (hp.1 (25, 1, 27) (by decide))) k
      have k := ly_revb 1 (c' := (30, [(0, .ref (p 25)), (1, .int v1)], [.ref (p 25), .ref (p 27), .long (Int64.ofNat 1), .int ((J (p 25) 2) - (Int32.ofInt 1)), .ref (p 27)], me_w (lw M L) J)) rfl k
      have k := lz_get (a := (p 25)) (g := 302) (M := me_w (lw M L) J) (v := .int (J (p 25) 2)) rfl (congrArg Value.int (rfl)) k
      have k := ly_revb 2 (c' := (35, [(0, .ref (p 25)), (1, .int v1)], [.int ((J (p 25) 2) - (Int32.ofInt 1)), .ref (p 27), .long (Int64.ofNat 1), .int ((J (p 25) 2) - (Int32.ofInt 1)), .ref (p 27)], me_w (lw M L) J)) rfl k
      have k := mx_lald (v := L (p 27) (((J (p 25) 2) - (Int32.ofInt 1)).toNatClampNeg)) rfl (rfl) k
      have k := ly_revb 1 (c' := (37, [(0, .ref (p 25)), (1, .int v1)], [.long ((Int64.ofNat 1) - (L (p 27) (((J (p 25) 2) - (Int32.ofInt 1)).toNatClampNeg))), .int ((J (p 25) 2) - (Int32.ofInt 1)), .ref (p 27)], me_w (lw M L) J)) rfl k
      have k := mx_last (q := ((J (p 25) 2) - (Int32.ofInt 1)).toNatClampNeg) rfl rfl k
      have k : nt_rn X _ 43 (38, [(0, .ref (p 25)), (1, .int v1)], [], me_w (lw M (nt_u L (p 27) (((J (p 25) 2) - (Int32.ofInt 1)).toNatClampNeg) ((Int64.ofNat 1) - (L (p 27) (((J (p 25) 2) - (Int32.ofInt 1)).toNatClampNeg))))) J) _ := k
      have k := ly_revb 1 (c' := (94, [(0, .ref (p 25)), (1, .int v1)], [], me_w (lw M (nt_u L (p 27) (((J (p 25) 2) - (Int32.ofInt 1)).toNatClampNeg) ((Int64.ofNat 1) - (L (p 27) (((J (p 25) 2) - (Int32.ofInt 1)).toNatClampNeg))))) J)) rfl k
      have k := lz_rv rfl rfl k
      rw [k, x43, if_pos h3, if_neg h11]
  · rw [if_neg h3] at k
    have k := ly_revb 1 (c' := (42, [(0, .ref (p 25)), (1, .int v1)], [.ref (p 25)], me_w (lw M L) J)) rfl k
    have k := lz_get (a := (p 25)) (g := 302) (M := me_w (lw M L) J) (v := .int (J (p 25) 2)) rfl (congrArg Value.int (rfl)) k
    have k := ly_revb 2 (c' := (if (J (p 25) 2) < (Int32.ofInt 2) then 94 else 49, [(0, .ref (p 25)), (1, .int v1)], [], me_w (lw M L) J)) rfl k
    by_cases h46 : (J (p 25) 2) < (Int32.ofInt 2)
    · rw [if_pos h46] at k
      have k := lz_rv rfl rfl k
      rw [k, x43, if_neg h3, if_pos h46]
    · rw [if_neg h46] at k
      have k := ly_revb 2 (c' := (51, [(0, .ref (p 25)), (1, .int v1)], [.ref (p 25), .ref (p 25)], me_w (lw M L) J)) rfl k
      have k := lz_get (a := (p 25)) (g := 302) (M := me_w (lw M L) J) (v := .int (J (p 25) 2)) rfl (congrArg Value.int (rfl)) k
      have k := ly_revb 2 (c' := (56, [(0, .ref (p 25)), (1, .int v1)], [.int ((J (p 25) 2) - (Int32.ofInt 1)), .ref (p 25)], me_w (lw M L) J)) rfl k
      have k := me_put rfl (by decide) k
      have k : nt_rn X _ 43 (59, [(0, .ref (p 25)), (1, .int v1)], [], me_w (lw M L) (nt_u J (p 25) 2 ((J (p 25) 2) - (Int32.ofInt 1)))) _ := k
      have k := ly_revb 1 (c' := (60, [(0, .ref (p 25)), (1, .int v1)], [.ref (p 25)], me_w (lw M L) (nt_u J (p 25) 2 ((J (p 25) 2) - (Int32.ofInt 1))))) rfl k
      have k := lz_get (a := (p 25)) (g := 301) (M := me_w (lw M L) (nt_u J (p 25) 2 ((J (p 25) 2) - (Int32.ofInt 1)))) (v := .ref (p 27)) rfl (nt_gfR rfl (hp.1 (25, 1, 27) (by decide))) k
      have k := ly_revb 1 (c' := (64, [(0, .ref (p 25)), (1, .int v1)], [.ref (p 25), .ref (p 27)], me_w (lw M L) (nt_u J (p 25) 2 ((J (p 25) 2) - (Int32.ofInt 1))))) rfl k
      have k := lz_get (a := (p 25)) (g := 302) (M := me_w (lw M L) (nt_u J (p 25) 2 ((J (p 25) 2) - (Int32.ofInt 1)))) (v := .int ((J (p 25) 2) - (Int32.ofInt 1))) rfl (congrArg Value.int (mu_s)) k
      have k := ly_revb 4 (c' := (71, [(0, .ref (p 25)), (1, .int v1)], [.ref (p 25), .int v1, .int (((J (p 25) 2) - (Int32.ofInt 1)) - (Int32.ofInt 1)), .ref (p 27)], me_w (lw M L) (nt_u J (p 25) 2 ((J (p 25) 2) - (Int32.ofInt 1))))) rfl k
      have k := lz_get (a := (p 25)) (g := 301) (M := me_w (lw M L) (nt_u J (p 25) 2 ((J (p 25) 2) - (Int32.ofInt 1)))) (v := .ref (p 27)) rfl (nt_gfR rfl (hp.1 (25, 1, 27) (by decide))) k
      have k := ly_revb 1 (c' := (75, [(0, .ref (p 25)), (1, .int v1)], [.ref (p 25), .ref (p 27), .int v1, .int (((J (p 25) 2) - (Int32.ofInt 1)) - (Int32.ofInt 1)), .ref (p 27)], me_w (lw M L) (nt_u J (p 25) 2 ((J (p 25) 2) - (Int32.ofInt 1))))) rfl k
      have k := lz_get (a := (p 25)) (g := 302) (M := me_w (lw M L) (nt_u J (p 25) 2 ((J (p 25) 2) - (Int32.ofInt 1)))) (v := .int ((J (p 25) 2) - (Int32.ofInt 1))) rfl (congrArg Value.int (mu_s)) k
      have k := ly_revb 2 (c' := (80, [(0, .ref (p 25)), (1, .int v1)], [.int (((J (p 25) 2) - (Int32.ofInt 1)) - (Int32.ofInt 1)), .ref (p 27), .int v1, .int (((J (p 25) 2) - (Int32.ofInt 1)) - (Int32.ofInt 1)), .ref (p 27)], me_w (lw M L) (nt_u J (p 25) 2 ((J (p 25) 2) - (Int32.ofInt 1))))) rfl k
      have k := mx_lald (v := L (p 27) ((((J (p 25) 2) - (Int32.ofInt 1)) - (Int32.ofInt 1)).toNatClampNeg)) rfl (rfl) k
      have k := ly_revb 1 (c' := (82, [(0, .ref (p 25)), (1, .int v1)], [.ref (p 25), .long (L (p 27) ((((J (p 25) 2) - (Int32.ofInt 1)) - (Int32.ofInt 1)).toNatClampNeg)), .int v1, .int (((J (p 25) 2) - (Int32.ofInt 1)) - (Int32.ofInt 1)), .ref (p 27)], me_w (lw M L) (nt_u J (p 25) 2 ((J (p 25) 2) - (Int32.ofInt 1))))) rfl k
      have k := lz_get (a := (p 25)) (g := 301) (M := me_w (lw M L) (nt_u J (p 25) 2 ((J (p 25) 2) - (Int32.ofInt 1)))) (v := .ref (p 27)) rfl (nt_gfR rfl (hp.1 (25, 1, 27) (by decide))) k
      have k := ly_revb 1 (c' := (86, [(0, .ref (p 25)), (1, .int v1)], [.ref (p 25), .ref (p 27), .long (L (p 27) ((((J (p 25) 2) - (Int32.ofInt 1)) - (Int32.ofInt 1)).toNatClampNeg)), .int v1, .int (((J (p 25) 2) - (Int32.ofInt 1)) - (Int32.ofInt 1)), .ref (p 27)], me_w (lw M L) (nt_u J (p 25) 2 ((J (p 25) 2) - (Int32.ofInt 1))))) rfl k
      have k := lz_get (a := (p 25)) (g := 302) (M := me_w (lw M L) (nt_u J (p 25) 2 ((J (p 25) 2) - (Int32.ofInt 1)))) (v := .int ((J (p 25) 2) - (Int32.ofInt 1))) rfl (congrArg Value.int (mu_s)) k
      have k := mx_lald (v := L (p 27) (((J (p 25) 2) - (Int32.ofInt 1)).toNatClampNeg)) rfl (rfl) k
      obtain ⟨d1, o1, ed, kc, k⟩ := lz_c (g := 44) (q := 0) (vs := [.int v1, .long (L (p 27) ((((J (p 25) 2) - (Int32.ofInt 1)) - (Int32.ofInt 1)).toNatClampNeg)), .long (L (p 27) (((J (p 25) 2) - (Int32.ofInt 1)).toNatClampNeg))]) (rest := [.int (((J (p 25) 2) - (Int32.ofInt 1)) - (Int32.ofInt 1)), .ref (p 27)]) rfl rfl (by decide) (Or.inl ⟨_, rfl, rfl⟩) rfl k
      have e1 := xt44  kc
      subst e1
      have k : nt_rn X _ 43 (93, [(0, .ref (p 25)), (1, .int v1)], [.long (x44 v1 (L (p 27) ((((J (p 25) 2) - (Int32.ofInt 1)) - (Int32.ofInt 1)).toNatClampNeg)) (L (p 27) (((J (p 25) 2) - (Int32.ofInt 1)).toNatClampNeg))), .int (((J (p 25) 2) - (Int32.ofInt 1)) - (Int32.ofInt 1)), .ref (p 27)], me_w (lw M L) (nt_u J (p 25) 2 ((J (p 25) 2) - (Int32.ofInt 1)))) _ := k
      have k := mx_last (q := (((J (p 25) 2) - (Int32.ofInt 1)) - (Int32.ofInt 1)).toNatClampNeg) rfl rfl k
      have k : nt_rn X _ 43 (94, [(0, .ref (p 25)), (1, .int v1)], [], me_w (lw M (nt_u L (p 27) ((((J (p 25) 2) - (Int32.ofInt 1)) - (Int32.ofInt 1)).toNatClampNeg) (x44 v1 (L (p 27) ((((J (p 25) 2) - (Int32.ofInt 1)) - (Int32.ofInt 1)).toNatClampNeg)) (L (p 27) (((J (p 25) 2) - (Int32.ofInt 1)).toNatClampNeg))))) (nt_u J (p 25) 2 ((J (p 25) 2) - (Int32.ofInt 1)))) _ := k
      have k := lz_rv rfl rfl k
      rw [k, x43, if_neg h3, if_neg h46]
theorem x43_frJ {p : Nat → Nat} {v1 : Int32} {J : Nat → Nat → Int32} {L : Nat → Nat → Int64} {b : Nat} (n0 : b ≠ p 25) : (x43 p v1 J L).1 b = J b := by
  unfold x43
  by_cases h : v1 = (Int32.ofInt 21)
  · rw [if_pos h]
    by_cases h : (J (p 25) 2) < (Int32.ofInt 1)
    · rw [if_pos h]
      by_cases h : (J (p 25) 2) < (Int32.ofInt 2)
      · rw [if_pos h]
        all_goals first | (dsimp only; exact (show J b = J b from rfl)) | exact (show J b = J b from rfl)
      · rw [if_neg h]
        all_goals first | (dsimp only; exact (show (nt_u J (p 25) 2 ((J (p 25) 2) - (Int32.ofInt 1))) b = J b from mu_o n0)) | exact (show (nt_u J (p 25) 2 ((J (p 25) 2) - (Int32.ofInt 1))) b = J b from mu_o n0)
    · rw [if_neg h]
      all_goals first | (dsimp only; exact (show J b = J b from rfl)) | exact (show J b = J b from rfl)
  · rw [if_neg h]
    by_cases h : (J (p 25) 2) < (Int32.ofInt 2)
    · rw [if_pos h]
      all_goals first | (dsimp only; exact (show J b = J b from rfl)) | exact (show J b = J b from rfl)
    · rw [if_neg h]
      all_goals first | (dsimp only; exact (show (nt_u J (p 25) 2 ((J (p 25) 2) - (Int32.ofInt 1))) b = J b from mu_o n0)) | exact (show (nt_u J (p 25) 2 ((J (p 25) 2) - (Int32.ofInt 1))) b = J b from mu_o n0)
theorem x43_frL {p : Nat → Nat} {v1 : Int32} {J : Nat → Nat → Int32} {L : Nat → Nat → Int64} {b : Nat} (n0 : b ≠ p 27) : (x43 p v1 J L).2 b = L b := by
  unfold x43
  by_cases h : v1 = (Int32.ofInt 21)
  · rw [if_pos h]
    by_cases h : (J (p 25) 2) < (Int32.ofInt 1)
    · rw [if_pos h]
      by_cases h : (J (p 25) 2) < (Int32.ofInt 2)
      · rw [if_pos h]
        all_goals first | (dsimp only; exact (show L b = L b from rfl)) | exact (show L b = L b from rfl)
      · rw [if_neg h]
        all_goals first | (dsimp only; exact (show (nt_u L (p 27) ((((J (p 25) 2) - (Int32.ofInt 1)) - (Int32.ofInt 1)).toNatClampNeg) (x44 v1 (L (p 27) ((((J (p 25) 2) - (Int32.ofInt 1)) - (Int32.ofInt 1)).toNatClampNeg)) (L (p 27) (((J (p 25) 2) - (Int32.ofInt 1)).toNatClampNeg)))) b = L b from mu_o n0)) | exact (show (nt_u L (p 27) ((((J (p 25) 2) - (Int32.ofInt 1)) - (Int32.ofInt 1)).toNatClampNeg) (x44 v1 (L (p 27) ((((J (p 25) 2) - (Int32.ofInt 1)) - (Int32.ofInt 1)).toNatClampNeg)) (L (p 27) (((J (p 25) 2) - (Int32.ofInt 1)).toNatClampNeg)))) b = L b from mu_o n0)
    · rw [if_neg h]
      all_goals first | (dsimp only; exact (show (nt_u L (p 27) (((J (p 25) 2) - (Int32.ofInt 1)).toNatClampNeg) ((Int64.ofNat 1) - (L (p 27) (((J (p 25) 2) - (Int32.ofInt 1)).toNatClampNeg)))) b = L b from mu_o n0)) | exact (show (nt_u L (p 27) (((J (p 25) 2) - (Int32.ofInt 1)).toNatClampNeg) ((Int64.ofNat 1) - (L (p 27) (((J (p 25) 2) - (Int32.ofInt 1)).toNatClampNeg)))) b = L b from mu_o n0)
  · rw [if_neg h]
    by_cases h : (J (p 25) 2) < (Int32.ofInt 2)
    · rw [if_pos h]
      all_goals first | (dsimp only; exact (show L b = L b from rfl)) | exact (show L b = L b from rfl)
    · rw [if_neg h]
      all_goals first | (dsimp only; exact (show (nt_u L (p 27) ((((J (p 25) 2) - (Int32.ofInt 1)) - (Int32.ofInt 1)).toNatClampNeg) (x44 v1 (L (p 27) ((((J (p 25) 2) - (Int32.ofInt 1)) - (Int32.ofInt 1)).toNatClampNeg)) (L (p 27) (((J (p 25) 2) - (Int32.ofInt 1)).toNatClampNeg)))) b = L b from mu_o n0)) | exact (show (nt_u L (p 27) ((((J (p 25) 2) - (Int32.ofInt 1)) - (Int32.ofInt 1)).toNatClampNeg) (x44 v1 (L (p 27) ((((J (p 25) 2) - (Int32.ofInt 1)) - (Int32.ofInt 1)).toNatClampNeg)) (L (p 27) (((J (p 25) 2) - (Int32.ofInt 1)).toNatClampNeg)))) b = L b from mu_o n0)
/-! $Reckoner.sum -/
def x45 (p : Nat → Nat) (J : Nat → Nat → Int32) (L : Nat → Nat → Int64) : Int64 := (L (p 25) 3)
theorem xt45 {X : nt_X} {d : Nat} {M : nt_M} {o : Option Value × nt_M} {p : Nat → Nat} {J : Nat → Nat → Int32} {L : Nat → Nat → Int64} (hp : xs_P M p) (k : nt_ev X d 45 [.ref (p 25)] (me_w (lw M L) J) o) : o = (some (.long (x45 p J L)), me_w (lw M L) J) := by
  have k : nt_rn X d 45 (0, [(0, .ref (p 25))], [], me_w (lw M L) J) o := k
  have k := ly_revb 1 (c' := (1, [(0, .ref (p 25))], [.ref (p 25)], me_w (lw M L) J)) rfl k
  have k := lz_get (a := (p 25)) (g := 303) (M := me_w (lw M L) J) (v := .long (L (p 25) 3)) rfl (congrArg Value.long (rfl)) k
  have k := mx_rl rfl rfl k
  rw [k, x45]
/-! $Reckoner.isTaken -/
def x41_7 (p : Nat → Nat) (sp : Nat) (ln : Nat) : Nat → Int32 → (Nat → Nat → Int32) → (Nat → Nat → Int64) → Int32 × (Nat → Nat → Int32) × (Nat → Nat → Int64)
  | 0, v2, J, L => (Int32.ofInt 0, J, L)
  | c + 1, v2, J, L => if (Int32.ofNat ln) ≤ v2 then (Int32.ofInt 0, J, L)
    else if (J sp v2.toNatClampNeg) < (Int32.ofInt 100) then if (J sp v2.toNatClampNeg) < 0 then if (J sp v2.toNatClampNeg) = (Int32.ofInt 22) then if (J sp v2.toNatClampNeg) = (Int32.ofInt 22) then (Int32.ofInt 1, J, nt_u L (p 25) 3 (L (p 27) 0))
            else if (lg_cmp (L (p 27) 1) (Int64.ofNat 0)) = 0 then (x41_7 p sp ln c (v2 + (Int32.ofInt 1)) (nt_u J (p 25) 2 (Int32.ofInt 0)) L)
              else (Int32.ofInt 1, J, nt_u L (p 25) 3 (L (p 27) 0))
          else if (J sp v2.toNatClampNeg) = (Int32.ofInt 23) then if (J sp v2.toNatClampNeg) = (Int32.ofInt 22) then (Int32.ofInt 1, J, nt_u L (p 25) 3 (L (p 27) 0))
              else if (lg_cmp (L (p 27) 1) (Int64.ofNat 0)) = 0 then (x41_7 p sp ln c (v2 + (Int32.ofInt 1)) (nt_u J (p 25) 2 (Int32.ofInt 0)) L)
                else (Int32.ofInt 1, J, nt_u L (p 25) 3 (L (p 27) 0))
            else (x41_7 p sp ln c (v2 + (Int32.ofInt 1)) ((x43 p (J sp v2.toNatClampNeg) J L).1) ((x43 p (J sp v2.toNatClampNeg) J L).2))
        else if (Int32.ofInt 10) ≤ (J sp v2.toNatClampNeg) then if (J sp v2.toNatClampNeg) = (Int32.ofInt 22) then if (J sp v2.toNatClampNeg) = (Int32.ofInt 22) then (Int32.ofInt 1, J, nt_u L (p 25) 3 (L (p 27) 0))
              else if (lg_cmp (L (p 27) 1) (Int64.ofNat 0)) = 0 then (x41_7 p sp ln c (v2 + (Int32.ofInt 1)) (nt_u J (p 25) 2 (Int32.ofInt 0)) L)
                else (Int32.ofInt 1, J, nt_u L (p 25) 3 (L (p 27) 0))
            else if (J sp v2.toNatClampNeg) = (Int32.ofInt 23) then if (J sp v2.toNatClampNeg) = (Int32.ofInt 22) then (Int32.ofInt 1, J, nt_u L (p 25) 3 (L (p 27) 0))
                else if (lg_cmp (L (p 27) 1) (Int64.ofNat 0)) = 0 then (x41_7 p sp ln c (v2 + (Int32.ofInt 1)) (nt_u J (p 25) 2 (Int32.ofInt 0)) L)
                  else (Int32.ofInt 1, J, nt_u L (p 25) 3 (L (p 27) 0))
              else (x41_7 p sp ln c (v2 + (Int32.ofInt 1)) ((x43 p (J sp v2.toNatClampNeg) J L).1) ((x43 p (J sp v2.toNatClampNeg) J L).2))
          else (x41_7 p sp ln c (v2 + (Int32.ofInt 1)) ((x42 p (L (p 26) ((J sp v2.toNatClampNeg).toNatClampNeg)) J L).1) ((x42 p (L (p 26) ((J sp v2.toNatClampNeg).toNatClampNeg)) J L).2))
      else (x41_7 p sp ln c (v2 + (Int32.ofInt 1)) ((x42 p (((J sp v2.toNatClampNeg) - (Int32.ofInt 100)).toInt64) J L).1) ((x42 p (((J sp v2.toNatClampNeg) - (Int32.ofInt 100)).toInt64) J L).2))
theorem xt41_7 {X : nt_X} {d : Nat} {M : nt_M} {o : Option Value × nt_M} {p : Nat → Nat} {sp : Nat} {ln : Nat} {ru : Nat} (hp : xs_P M p) (hs : xs_S M p ru sp ln) : ∀ (c : Nat) (v2 : Int32) (v3 : Int32) (J : Nat → Nat → Int32) (L : Nat → Nat → Int64), (Int32.ofNat ln).toInt - v2.toInt ≤ c → nt_rn X d 41 (7, [(0, .ref (p 25)), (1, .ref sp), (2, .int v2), (3, .int v3)], [], me_w (lw M L) J) o → o = (some (.int ((x41_7 p sp ln c v2 J L).1)), me_w (lw M ((x41_7 p sp ln c v2 J L).2.2)) ((x41_7 p sp ln c v2 J L).2.1)) := by
  intro c
  induction c with
  | zero =>
    intro v2 v3 J L hc k
    have k := ly_revb 2 (c' := (9, [(0, .ref (p 25)), (1, .ref sp), (2, .int v2), (3, .int v3)], [.ref sp, .int v2], me_w (lw M L) J)) rfl k
    have k := lz_len rfl (hs.2.2.1) k
    rw [show nt_l (me_w (lw M L) J) sp = ln from hs.2.2.2] at k
    have k : nt_rn X _ 41 (10, [(0, .ref (p 25)), (1, .ref sp), (2, .int v2), (3, .int v3)], [.int (Int32.ofNat ln), .int v2], me_w (lw M L) J) _ := k
    have k := ly_revb 1 (c' := (if (Int32.ofNat ln) ≤ v2 then 118 else 13, [(0, .ref (p 25)), (1, .ref sp), (2, .int v2), (3, .int v3)], [], me_w (lw M L) J)) rfl k
    have h10 : (Int32.ofNat ln) ≤ v2 := lx_end hc
    rw [if_pos h10] at k
    have k := ly_revb 1 (c' := (119, [(0, .ref (p 25)), (1, .ref sp), (2, .int v2), (3, .int v3)], [.int (Int32.ofInt 0)], me_w (lw M L) J)) rfl k
    have k := lz_ri rfl (by decide) k
    rw [k, x41_7]
  | succ c ih =>
    intro v2 v3 J L hc k
    have k := ly_revb 2 (c' := (9, [(0, .ref (p 25)), (1, .ref sp), (2, .int v2), (3, .int v3)], [.ref sp, .int v2], me_w (lw M L) J)) rfl k
    have k := lz_len rfl (hs.2.2.1) k
    rw [show nt_l (me_w (lw M L) J) sp = ln from hs.2.2.2] at k
    have k : nt_rn X _ 41 (10, [(0, .ref (p 25)), (1, .ref sp), (2, .int v2), (3, .int v3)], [.int (Int32.ofNat ln), .int v2], me_w (lw M L) J) _ := k
    have k := ly_revb 1 (c' := (if (Int32.ofNat ln) ≤ v2 then 118 else 13, [(0, .ref (p 25)), (1, .ref sp), (2, .int v2), (3, .int v3)], [], me_w (lw M L) J)) rfl k
    by_cases h10 : (Int32.ofNat ln) ≤ v2
    · rw [if_pos h10] at k
      have k := ly_revb 1 (c' := (119, [(0, .ref (p 25)), (1, .ref sp), (2, .int v2), (3, .int v3)], [.int (Int32.ofInt 0)], me_w (lw M L) J)) rfl k
      have k := lz_ri rfl (by decide) k
      rw [k, x41_7, if_pos h10]
    · rw [if_neg h10] at k
      have k := ly_revb 2 (c' := (15, [(0, .ref (p 25)), (1, .ref sp), (2, .int v2), (3, .int v3)], [.int v2, .ref sp], me_w (lw M L) J)) rfl k
      have k := mx_iald (v := J sp v2.toNatClampNeg) rfl (hs.2.2.1) (rfl) k
      have k := ly_revb 4 (c' := (if (J sp v2.toNatClampNeg) < (Int32.ofInt 100) then 35 else 23, [(3, .int (J sp v2.toNatClampNeg)), (0, .ref (p 25)), (1, .ref sp), (2, .int v2)], [], me_w (lw M L) J)) rfl k
      by_cases h20 : (J sp v2.toNatClampNeg) < (Int32.ofInt 100)
      · rw [if_pos h20] at k
        have k := ly_revb 2 (c' := (if (J sp v2.toNatClampNeg) < 0 then 58 else 39, [(3, .int (J sp v2.toNatClampNeg)), (0, .ref (p 25)), (1, .ref sp), (2, .int v2)], [], me_w (lw M L) J)) rfl k
        by_cases h36 : (J sp v2.toNatClampNeg) < 0
        · rw [if_pos h36] at k
          have k := ly_revb 3 (c' := (if (J sp v2.toNatClampNeg) = (Int32.ofInt 22) then 70 else 64, [(3, .int (J sp v2.toNatClampNeg)), (0, .ref (p 25)), (1, .ref sp), (2, .int v2)], [], me_w (lw M L) J)) rfl k
          by_cases h61 : (J sp v2.toNatClampNeg) = (Int32.ofInt 22)
          · rw [if_pos h61] at k
            have k := ly_revb 3 (c' := (if (J sp v2.toNatClampNeg) = (Int32.ofInt 22) then 87 else 76, [(3, .int (J sp v2.toNatClampNeg)), (0, .ref (p 25)), (1, .ref sp), (2, .int v2)], [], me_w (lw M L) J)) rfl k
            by_cases h73 : (J sp v2.toNatClampNeg) = (Int32.ofInt 22)
            · rw [if_pos h73] at k
              have k := ly_revb 2 (c' := (89, [(3, .int (J sp v2.toNatClampNeg)), (0, .ref (p 25)), (1, .ref sp), (2, .int v2)], [.ref (p 25), .ref (p 25)], me_w (lw M L) J)) rfl k
              have k := lz_get (a := (p 25)) (g := 301) (M := me_w (lw M L) J) (v := .ref (p 27)) rfl (nt_gfR rfl (hp.1 (25, 1, 27) (by decide))) k
              have k := ly_revb 1 (c' := (93, [(3, .int (J sp v2.toNatClampNeg)), (0, .ref (p 25)), (1, .ref sp), (2, .int v2)], [.int (Int32.ofInt 0), .ref (p 27), .ref (p 25)], me_w (lw M L) J)) rfl k
              have k := mx_lald (v := L (p 27) 0) rfl ((congrArg (L (p 27)) (show (Int32.ofInt 0).toNatClampNeg = 0 from rfl)).trans (rfl)) k
              have k := mx_putl rfl (by decide) k
              have k : nt_rn X _ 41 (97, [(3, .int (J sp v2.toNatClampNeg)), (0, .ref (p 25)), (1, .ref sp), (2, .int v2)], [], me_w (lw M (nt_u L (p 25) 3 (L (p 27) 0))) J) _ := k
              have k := ly_revb 1 (c' := (98, [(3, .int (J sp v2.toNatClampNeg)), (0, .ref (p 25)), (1, .ref sp), (2, .int v2)], [.int (Int32.ofInt 1)], me_w (lw M (nt_u L (p 25) 3 (L (p 27) 0))) J)) rfl k
              have k := lz_ri rfl (by decide) k
              rw [k, x41_7, if_neg h10, if_pos h20, if_pos h36, if_pos h61, if_pos h73]
            · rw [if_neg h73] at k
              have k := ly_revb 1 (c' := (77, [(3, .int (J sp v2.toNatClampNeg)), (0, .ref (p 25)), (1, .ref sp), (2, .int v2)], [.ref (p 25)], me_w (lw M L) J)) rfl k
              have k := lz_get (a := (p 25)) (g := 301) (M := me_w (lw M L) J) (v := .ref (p 27)) rfl (nt_gfR rfl (hp.1 (25, 1, 27) (by decide))) k
              have k := ly_revb 1 (c' := (81, [(3, .int (J sp v2.toNatClampNeg)), (0, .ref (p 25)), (1, .ref sp), (2, .int v2)], [.int (Int32.ofInt 1), .ref (p 27)], me_w (lw M L) J)) rfl k
              have k := mx_lald (v := L (p 27) 1) rfl ((congrArg (L (p 27)) (show (Int32.ofInt 1).toNatClampNeg = 1 from rfl)).trans (rfl)) k
              have k := ly_revb 3 (c' := (if (lg_cmp (L (p 27) 1) (Int64.ofNat 0)) = 0 then 99 else 87, [(3, .int (J sp v2.toNatClampNeg)), (0, .ref (p 25)), (1, .ref sp), (2, .int v2)], [], me_w (lw M L) J)) rfl k
              by_cases h84 : (lg_cmp (L (p 27) 1) (Int64.ofNat 0)) = 0
              · rw [if_pos h84] at k
                have k := ly_revb 2 (c' := (101, [(3, .int (J sp v2.toNatClampNeg)), (0, .ref (p 25)), (1, .ref sp), (2, .int v2)], [.int (Int32.ofInt 0), .ref (p 25)], me_w (lw M L) J)) rfl k
                have k := me_put rfl (by decide) k
                have k : nt_rn X _ 41 (104, [(3, .int (J sp v2.toNatClampNeg)), (0, .ref (p 25)), (1, .ref sp), (2, .int v2)], [], me_w (lw M L) (nt_u J (p 25) 2 (Int32.ofInt 0))) _ := k
                have k := ly_revb 3 (c' := (7, [(2, .int (v2 + (Int32.ofInt 1))), (3, .int (J sp v2.toNatClampNeg)), (0, .ref (p 25)), (1, .ref sp)], [], me_w (lw M L) (nt_u J (p 25) 2 (Int32.ofInt 0)))) rfl k
                have k := nt_rn_w (a := [(2, .int (v2 + (Int32.ofInt 1))), (3, .int (J sp v2.toNatClampNeg)), (0, .ref (p 25)), (1, .ref sp)]) (b := [(0, .ref (p 25)), (1, .ref sp), (2, .int (v2 + (Int32.ofInt 1))), (3, .int (J sp v2.toNatClampNeg))]) ⟨rfl, rfl, rfl, rfl, trivial⟩ rfl k
                have k := ih (v2 + (Int32.ofInt 1)) (J sp v2.toNatClampNeg) (nt_u J (p 25) 2 (Int32.ofInt 0)) L (lx_dec h10 hc) k
                rw [k, x41_7, if_neg h10, if_pos h20, if_pos h36, if_pos h61, if_neg h73, if_pos h84]
              · rw [if_neg h84] at k
                have k := ly_revb 2 (c' := (89, [(3, .int (J sp v2.toNatClampNeg)), (0, .ref (p 25)), (1, .ref sp), (2, .int v2)], [.ref (p 25), .ref (p 25)], me_w (lw M L) J)) rfl k
                have k := lz_get (a := (p 25)) (g := 301) (M := me_w (lw M L) J) (v := .ref (p 27)) rfl (nt_gfR rfl (hp.1 (25, 1, 27) (by decide))) k
                have k := ly_revb 1 (c' := (93, [(3, .int (J sp v2.toNatClampNeg)), (0, .ref (p 25)), (1, .ref sp), (2, .int v2)], [.int (Int32.ofInt 0), .ref (p 27), .ref (p 25)], me_w (lw M L) J)) rfl k
                have k := mx_lald (v := L (p 27) 0) rfl ((congrArg (L (p 27)) (show (Int32.ofInt 0).toNatClampNeg = 0 from rfl)).trans (rfl)) k
                have k := mx_putl rfl (by decide) k
                have k : nt_rn X _ 41 (97, [(3, .int (J sp v2.toNatClampNeg)), (0, .ref (p 25)), (1, .ref sp), (2, .int v2)], [], me_w (lw M (nt_u L (p 25) 3 (L (p 27) 0))) J) _ := k
                have k := ly_revb 1 (c' := (98, [(3, .int (J sp v2.toNatClampNeg)), (0, .ref (p 25)), (1, .ref sp), (2, .int v2)], [.int (Int32.ofInt 1)], me_w (lw M (nt_u L (p 25) 3 (L (p 27) 0))) J)) rfl k
                have k := lz_ri rfl (by decide) k
                rw [k, x41_7, if_neg h10, if_pos h20, if_pos h36, if_pos h61, if_neg h73, if_neg h84]
          · rw [if_neg h61] at k
            have k := ly_revb 3 (c' := (if (J sp v2.toNatClampNeg) = (Int32.ofInt 23) then 70 else 107, [(3, .int (J sp v2.toNatClampNeg)), (0, .ref (p 25)), (1, .ref sp), (2, .int v2)], [], me_w (lw M L) J)) rfl k
            by_cases h67 : (J sp v2.toNatClampNeg) = (Int32.ofInt 23)
            · rw [if_pos h67] at k
              have k := ly_revb 3 (c' := (if (J sp v2.toNatClampNeg) = (Int32.ofInt 22) then 87 else 76, [(3, .int (J sp v2.toNatClampNeg)), (0, .ref (p 25)), (1, .ref sp), (2, .int v2)], [], me_w (lw M L) J)) rfl k
              by_cases h73 : (J sp v2.toNatClampNeg) = (Int32.ofInt 22)
              · rw [if_pos h73] at k
                have k := ly_revb 2 (c' := (89, [(3, .int (J sp v2.toNatClampNeg)), (0, .ref (p 25)), (1, .ref sp), (2, .int v2)], [.ref (p 25), .ref (p 25)], me_w (lw M L) J)) rfl k
                have k := lz_get (a := (p 25)) (g := 301) (M := me_w (lw M L) J) (v := .ref (p 27)) rfl (nt_gfR rfl (hp.1 (25, 1, 27) (by decide))) k
                have k := ly_revb 1 (c' := (93, [(3, .int (J sp v2.toNatClampNeg)), (0, .ref (p 25)), (1, .ref sp), (2, .int v2)], [.int (Int32.ofInt 0), .ref (p 27), .ref (p 25)], me_w (lw M L) J)) rfl k
                have k := mx_lald (v := L (p 27) 0) rfl ((congrArg (L (p 27)) (show (Int32.ofInt 0).toNatClampNeg = 0 from rfl)).trans (rfl)) k
                have k := mx_putl rfl (by decide) k
                have k : nt_rn X _ 41 (97, [(3, .int (J sp v2.toNatClampNeg)), (0, .ref (p 25)), (1, .ref sp), (2, .int v2)], [], me_w (lw M (nt_u L (p 25) 3 (L (p 27) 0))) J) _ := k
                have k := ly_revb 1 (c' := (98, [(3, .int (J sp v2.toNatClampNeg)), (0, .ref (p 25)), (1, .ref sp), (2, .int v2)], [.int (Int32.ofInt 1)], me_w (lw M (nt_u L (p 25) 3 (L (p 27) 0))) J)) rfl k
                have k := lz_ri rfl (by decide) k
                rw [k, x41_7, if_neg h10, if_pos h20, if_pos h36, if_neg h61, if_pos h67, if_pos h73]
              · rw [if_neg h73] at k
                have k := ly_revb 1 (c' := (77, [(3, .int (J sp v2.toNatClampNeg)), (0, .ref (p 25)), (1, .ref sp), (2, .int v2)], [.ref (p 25)], me_w (lw M L) J)) rfl k
                have k := lz_get (a := (p 25)) (g := 301) (M := me_w (lw M L) J) (v := .ref (p 27)) rfl (nt_gfR rfl (hp.1 (25, 1, 27) (by decide))) k
                have k := ly_revb 1 (c' := (81, [(3, .int (J sp v2.toNatClampNeg)), (0, .ref (p 25)), (1, .ref sp), (2, .int v2)], [.int (Int32.ofInt 1), .ref (p 27)], me_w (lw M L) J)) rfl k
                have k := mx_lald (v := L (p 27) 1) rfl ((congrArg (L (p 27)) (show (Int32.ofInt 1).toNatClampNeg = 1 from rfl)).trans (rfl)) k
                have k := ly_revb 3 (c' := (if (lg_cmp (L (p 27) 1) (Int64.ofNat 0)) = 0 then 99 else 87, [(3, .int (J sp v2.toNatClampNeg)), (0, .ref (p 25)), (1, .ref sp), (2, .int v2)], [], me_w (lw M L) J)) rfl k
                by_cases h84 : (lg_cmp (L (p 27) 1) (Int64.ofNat 0)) = 0
                · rw [if_pos h84] at k
                  have k := ly_revb 2 (c' := (101, [(3, .int (J sp v2.toNatClampNeg)), (0, .ref (p 25)), (1, .ref sp), (2, .int v2)], [.int (Int32.ofInt 0), .ref (p 25)], me_w (lw M L) J)) rfl k
                  have k := me_put rfl (by decide) k
                  have k : nt_rn X _ 41 (104, [(3, .int (J sp v2.toNatClampNeg)), (0, .ref (p 25)), (1, .ref sp), (2, .int v2)], [], me_w (lw M L) (nt_u J (p 25) 2 (Int32.ofInt 0))) _ := k
                  have k := ly_revb 3 (c' := (7, [(2, .int (v2 + (Int32.ofInt 1))), (3, .int (J sp v2.toNatClampNeg)), (0, .ref (p 25)), (1, .ref sp)], [], me_w (lw M L) (nt_u J (p 25) 2 (Int32.ofInt 0)))) rfl k
                  have k := nt_rn_w (a := [(2, .int (v2 + (Int32.ofInt 1))), (3, .int (J sp v2.toNatClampNeg)), (0, .ref (p 25)), (1, .ref sp)]) (b := [(0, .ref (p 25)), (1, .ref sp), (2, .int (v2 + (Int32.ofInt 1))), (3, .int (J sp v2.toNatClampNeg))]) ⟨rfl, rfl, rfl, rfl, trivial⟩ rfl k
                  have k := ih (v2 + (Int32.ofInt 1)) (J sp v2.toNatClampNeg) (nt_u J (p 25) 2 (Int32.ofInt 0)) L (lx_dec h10 hc) k
                  rw [k, x41_7, if_neg h10, if_pos h20, if_pos h36, if_neg h61, if_pos h67, if_neg h73, if_pos h84]
                · rw [if_neg h84] at k
                  have k := ly_revb 2 (c' := (89, [(3, .int (J sp v2.toNatClampNeg)), (0, .ref (p 25)), (1, .ref sp), (2, .int v2)], [.ref (p 25), .ref (p 25)], me_w (lw M L) J)) rfl k
                  have k := lz_get (a := (p 25)) (g := 301) (M := me_w (lw M L) J) (v := .ref (p 27)) rfl (nt_gfR rfl (hp.1 (25, 1, 27) (by decide))) k
                  have k := ly_revb 1 (c' := (93, [(3, .int (J sp v2.toNatClampNeg)), (0, .ref (p 25)), (1, .ref sp), (2, .int v2)], [.int (Int32.ofInt 0), .ref (p 27), .ref (p 25)], me_w (lw M L) J)) rfl k
                  have k := mx_lald (v := L (p 27) 0) rfl ((congrArg (L (p 27)) (show (Int32.ofInt 0).toNatClampNeg = 0 from rfl)).trans (rfl)) k
                  have k := mx_putl rfl (by decide) k
                  have k : nt_rn X _ 41 (97, [(3, .int (J sp v2.toNatClampNeg)), (0, .ref (p 25)), (1, .ref sp), (2, .int v2)], [], me_w (lw M (nt_u L (p 25) 3 (L (p 27) 0))) J) _ := k
                  have k := ly_revb 1 (c' := (98, [(3, .int (J sp v2.toNatClampNeg)), (0, .ref (p 25)), (1, .ref sp), (2, .int v2)], [.int (Int32.ofInt 1)], me_w (lw M (nt_u L (p 25) 3 (L (p 27) 0))) J)) rfl k
                  have k := lz_ri rfl (by decide) k
                  rw [k, x41_7, if_neg h10, if_pos h20, if_pos h36, if_neg h61, if_pos h67, if_neg h73, if_neg h84]
            · rw [if_neg h67] at k
              have k := ly_revb 2 (c' := (109, [(3, .int (J sp v2.toNatClampNeg)), (0, .ref (p 25)), (1, .ref sp), (2, .int v2)], [.int (J sp v2.toNatClampNeg), .ref (p 25)], me_w (lw M L) J)) rfl k
              obtain ⟨d1, o1, ed, kc, k⟩ := lz_c (g := 43) (q := 1) (vs := [.ref (p 25), .int (J sp v2.toNatClampNeg)]) (rest := []) rfl rfl (by decide) (Or.inr (Or.inl ⟨_, rfl, rfl⟩)) rfl k
              have e1 := xt43 hp kc
              subst e1
              have k : nt_rn X _ 41 (112, [(3, .int (J sp v2.toNatClampNeg)), (0, .ref (p 25)), (1, .ref sp), (2, .int v2)], [], me_w (lw M ((x43 p (J sp v2.toNatClampNeg) J L).2)) ((x43 p (J sp v2.toNatClampNeg) J L).1)) _ := k
              have k := ly_revb 2 (c' := (7, [(2, .int (v2 + (Int32.ofInt 1))), (3, .int (J sp v2.toNatClampNeg)), (0, .ref (p 25)), (1, .ref sp)], [], me_w (lw M ((x43 p (J sp v2.toNatClampNeg) J L).2)) ((x43 p (J sp v2.toNatClampNeg) J L).1))) rfl k
              have k := nt_rn_w (a := [(2, .int (v2 + (Int32.ofInt 1))), (3, .int (J sp v2.toNatClampNeg)), (0, .ref (p 25)), (1, .ref sp)]) (b := [(0, .ref (p 25)), (1, .ref sp), (2, .int (v2 + (Int32.ofInt 1))), (3, .int (J sp v2.toNatClampNeg))]) ⟨rfl, rfl, rfl, rfl, trivial⟩ rfl k
              have k := ih (v2 + (Int32.ofInt 1)) (J sp v2.toNatClampNeg) ((x43 p (J sp v2.toNatClampNeg) J L).1) ((x43 p (J sp v2.toNatClampNeg) J L).2) (lx_dec h10 hc) k
              rw [k, x41_7, if_neg h10, if_pos h20, if_pos h36, if_neg h61, if_neg h67]
        · rw [if_neg h36] at k
          have k := ly_revb 3 (c' := (if (Int32.ofInt 10) ≤ (J sp v2.toNatClampNeg) then 58 else 45, [(3, .int (J sp v2.toNatClampNeg)), (0, .ref (p 25)), (1, .ref sp), (2, .int v2)], [], me_w (lw M L) J)) rfl k
          by_cases h42 : (Int32.ofInt 10) ≤ (J sp v2.toNatClampNeg)
          · rw [if_pos h42] at k
            have k := ly_revb 3 (c' := (if (J sp v2.toNatClampNeg) = (Int32.ofInt 22) then 70 else 64, [(3, .int (J sp v2.toNatClampNeg)), (0, .ref (p 25)), (1, .ref sp), (2, .int v2)], [], me_w (lw M L) J)) rfl k
            by_cases h61 : (J sp v2.toNatClampNeg) = (Int32.ofInt 22)
            · rw [if_pos h61] at k
              have k := ly_revb 3 (c' := (if (J sp v2.toNatClampNeg) = (Int32.ofInt 22) then 87 else 76, [(3, .int (J sp v2.toNatClampNeg)), (0, .ref (p 25)), (1, .ref sp), (2, .int v2)], [], me_w (lw M L) J)) rfl k
              by_cases h73 : (J sp v2.toNatClampNeg) = (Int32.ofInt 22)
              · rw [if_pos h73] at k
                have k := ly_revb 2 (c' := (89, [(3, .int (J sp v2.toNatClampNeg)), (0, .ref (p 25)), (1, .ref sp), (2, .int v2)], [.ref (p 25), .ref (p 25)], me_w (lw M L) J)) rfl k
                have k := lz_get (a := (p 25)) (g := 301) (M := me_w (lw M L) J) (v := .ref (p 27)) rfl (nt_gfR rfl (hp.1 (25, 1, 27) (by decide))) k
                have k := ly_revb 1 (c' := (93, [(3, .int (J sp v2.toNatClampNeg)), (0, .ref (p 25)), (1, .ref sp), (2, .int v2)], [.int (Int32.ofInt 0), .ref (p 27), .ref (p 25)], me_w (lw M L) J)) rfl k
                have k := mx_lald (v := L (p 27) 0) rfl ((congrArg (L (p 27)) (show (Int32.ofInt 0).toNatClampNeg = 0 from rfl)).trans (rfl)) k
                have k := mx_putl rfl (by decide) k
                have k : nt_rn X _ 41 (97, [(3, .int (J sp v2.toNatClampNeg)), (0, .ref (p 25)), (1, .ref sp), (2, .int v2)], [], me_w (lw M (nt_u L (p 25) 3 (L (p 27) 0))) J) _ := k
                have k := ly_revb 1 (c' := (98, [(3, .int (J sp v2.toNatClampNeg)), (0, .ref (p 25)), (1, .ref sp), (2, .int v2)], [.int (Int32.ofInt 1)], me_w (lw M (nt_u L (p 25) 3 (L (p 27) 0))) J)) rfl k
                have k := lz_ri rfl (by decide) k
                rw [k, x41_7, if_neg h10, if_pos h20, if_neg h36, if_pos h42, if_pos h61, if_pos h73]
              · rw [if_neg h73] at k
                have k := ly_revb 1 (c' := (77, [(3, .int (J sp v2.toNatClampNeg)), (0, .ref (p 25)), (1, .ref sp), (2, .int v2)], [.ref (p 25)], me_w (lw M L) J)) rfl k
                have k := lz_get (a := (p 25)) (g := 301) (M := me_w (lw M L) J) (v := .ref (p 27)) rfl (nt_gfR rfl (hp.1 (25, 1, 27) (by decide))) k
                have k := ly_revb 1 (c' := (81, [(3, .int (J sp v2.toNatClampNeg)), (0, .ref (p 25)), (1, .ref sp), (2, .int v2)], [.int (Int32.ofInt 1), .ref (p 27)], me_w (lw M L) J)) rfl k
                have k := mx_lald (v := L (p 27) 1) rfl ((congrArg (L (p 27)) (show (Int32.ofInt 1).toNatClampNeg = 1 from rfl)).trans (rfl)) k
                have k := ly_revb 3 (c' := (if (lg_cmp (L (p 27) 1) (Int64.ofNat 0)) = 0 then 99 else 87, [(3, .int (J sp v2.toNatClampNeg)), (0, .ref (p 25)), (1, .ref sp), (2, .int v2)], [], me_w (lw M L) J)) rfl k
                by_cases h84 : (lg_cmp (L (p 27) 1) (Int64.ofNat 0)) = 0
                · rw [if_pos h84] at k
                  have k := ly_revb 2 (c' := (101, [(3, .int (J sp v2.toNatClampNeg)), (0, .ref (p 25)), (1, .ref sp), (2, .int v2)], [.int (Int32.ofInt 0), .ref (p 25)], me_w (lw M L) J)) rfl k
                  have k := me_put rfl (by decide) k
                  have k : nt_rn X _ 41 (104, [(3, .int (J sp v2.toNatClampNeg)), (0, .ref (p 25)), (1, .ref sp), (2, .int v2)], [], me_w (lw M L) (nt_u J (p 25) 2 (Int32.ofInt 0))) _ := k
                  have k := ly_revb 3 (c' := (7, [(2, .int (v2 + (Int32.ofInt 1))), (3, .int (J sp v2.toNatClampNeg)), (0, .ref (p 25)), (1, .ref sp)], [], me_w (lw M L) (nt_u J (p 25) 2 (Int32.ofInt 0)))) rfl k
                  have k := nt_rn_w (a := [(2, .int (v2 + (Int32.ofInt 1))), (3, .int (J sp v2.toNatClampNeg)), (0, .ref (p 25)), (1, .ref sp)]) (b := [(0, .ref (p 25)), (1, .ref sp), (2, .int (v2 + (Int32.ofInt 1))), (3, .int (J sp v2.toNatClampNeg))]) ⟨rfl, rfl, rfl, rfl, trivial⟩ rfl k
                  have k := ih (v2 + (Int32.ofInt 1)) (J sp v2.toNatClampNeg) (nt_u J (p 25) 2 (Int32.ofInt 0)) L (lx_dec h10 hc) k
                  rw [k, x41_7, if_neg h10, if_pos h20, if_neg h36, if_pos h42, if_pos h61, if_neg h73, if_pos h84]
                · rw [if_neg h84] at k
                  have k := ly_revb 2 (c' := (89, [(3, .int (J sp v2.toNatClampNeg)), (0, .ref (p 25)), (1, .ref sp), (2, .int v2)], [.ref (p 25), .ref (p 25)], me_w (lw M L) J)) rfl k
                  have k := lz_get (a := (p 25)) (g := 301) (M := me_w (lw M L) J) (v := .ref (p 27)) rfl (nt_gfR rfl (hp.1 (25, 1, 27) (by decide))) k
                  have k := ly_revb 1 (c' := (93, [(3, .int (J sp v2.toNatClampNeg)), (0, .ref (p 25)), (1, .ref sp), (2, .int v2)], [.int (Int32.ofInt 0), .ref (p 27), .ref (p 25)], me_w (lw M L) J)) rfl k
                  have k := mx_lald (v := L (p 27) 0) rfl ((congrArg (L (p 27)) (show (Int32.ofInt 0).toNatClampNeg = 0 from rfl)).trans (rfl)) k
                  have k := mx_putl rfl (by decide) k
                  have k : nt_rn X _ 41 (97, [(3, .int (J sp v2.toNatClampNeg)), (0, .ref (p 25)), (1, .ref sp), (2, .int v2)], [], me_w (lw M (nt_u L (p 25) 3 (L (p 27) 0))) J) _ := k
                  have k := ly_revb 1 (c' := (98, [(3, .int (J sp v2.toNatClampNeg)), (0, .ref (p 25)), (1, .ref sp), (2, .int v2)], [.int (Int32.ofInt 1)], me_w (lw M (nt_u L (p 25) 3 (L (p 27) 0))) J)) rfl k
                  have k := lz_ri rfl (by decide) k
                  rw [k, x41_7, if_neg h10, if_pos h20, if_neg h36, if_pos h42, if_pos h61, if_neg h73, if_neg h84]
            · rw [if_neg h61] at k
              have k := ly_revb 3 (c' := (if (J sp v2.toNatClampNeg) = (Int32.ofInt 23) then 70 else 107, [(3, .int (J sp v2.toNatClampNeg)), (0, .ref (p 25)), (1, .ref sp), (2, .int v2)], [], me_w (lw M L) J)) rfl k
              by_cases h67 : (J sp v2.toNatClampNeg) = (Int32.ofInt 23)
              · rw [if_pos h67] at k
                have k := ly_revb 3 (c' := (if (J sp v2.toNatClampNeg) = (Int32.ofInt 22) then 87 else 76, [(3, .int (J sp v2.toNatClampNeg)), (0, .ref (p 25)), (1, .ref sp), (2, .int v2)], [], me_w (lw M L) J)) rfl k
                by_cases h73 : (J sp v2.toNatClampNeg) = (Int32.ofInt 22)
                · rw [if_pos h73] at k
                  have k := ly_revb 2 (c' := (89, [(3, .int (J sp v2.toNatClampNeg)), (0, .ref (p 25)), (1, .ref sp), (2, .int v2)], [.ref (p 25), .ref (p 25)], me_w (lw M L) J)) rfl k
                  have k := lz_get (a := (p 25)) (g := 301) (M := me_w (lw M L) J) (v := .ref (p 27)) rfl (nt_gfR rfl (hp.1 (25, 1, 27) (by decide))) k
                  have k := ly_revb 1 (c' := (93, [(3, .int (J sp v2.toNatClampNeg)), (0, .ref (p 25)), (1, .ref sp), (2, .int v2)], [.int (Int32.ofInt 0), .ref (p 27), .ref (p 25)], me_w (lw M L) J)) rfl k
                  have k := mx_lald (v := L (p 27) 0) rfl ((congrArg (L (p 27)) (show (Int32.ofInt 0).toNatClampNeg = 0 from rfl)).trans (rfl)) k
                  have k := mx_putl rfl (by decide) k
                  have k : nt_rn X _ 41 (97, [(3, .int (J sp v2.toNatClampNeg)), (0, .ref (p 25)), (1, .ref sp), (2, .int v2)], [], me_w (lw M (nt_u L (p 25) 3 (L (p 27) 0))) J) _ := k
                  have k := ly_revb 1 (c' := (98, [(3, .int (J sp v2.toNatClampNeg)), (0, .ref (p 25)), (1, .ref sp), (2, .int v2)], [.int (Int32.ofInt 1)], me_w (lw M (nt_u L (p 25) 3 (L (p 27) 0))) J)) rfl k
                  have k := lz_ri rfl (by decide) k
                  rw [k, x41_7, if_neg h10, if_pos h20, if_neg h36, if_pos h42, if_neg h61, if_pos h67, if_pos h73]
                · rw [if_neg h73] at k
                  have k := ly_revb 1 (c' := (77, [(3, .int (J sp v2.toNatClampNeg)), (0, .ref (p 25)), (1, .ref sp), (2, .int v2)], [.ref (p 25)], me_w (lw M L) J)) rfl k
                  have k := lz_get (a := (p 25)) (g := 301) (M := me_w (lw M L) J) (v := .ref (p 27)) rfl (nt_gfR rfl (hp.1 (25, 1, 27) (by decide))) k
                  have k := ly_revb 1 (c' := (81, [(3, .int (J sp v2.toNatClampNeg)), (0, .ref (p 25)), (1, .ref sp), (2, .int v2)], [.int (Int32.ofInt 1), .ref (p 27)], me_w (lw M L) J)) rfl k
                  have k := mx_lald (v := L (p 27) 1) rfl ((congrArg (L (p 27)) (show (Int32.ofInt 1).toNatClampNeg = 1 from rfl)).trans (rfl)) k
                  have k := ly_revb 3 (c' := (if (lg_cmp (L (p 27) 1) (Int64.ofNat 0)) = 0 then 99 else 87, [(3, .int (J sp v2.toNatClampNeg)), (0, .ref (p 25)), (1, .ref sp), (2, .int v2)], [], me_w (lw M L) J)) rfl k
                  by_cases h84 : (lg_cmp (L (p 27) 1) (Int64.ofNat 0)) = 0
                  · rw [if_pos h84] at k
                    have k := ly_revb 2 (c' := (101, [(3, .int (J sp v2.toNatClampNeg)), (0, .ref (p 25)), (1, .ref sp), (2, .int v2)], [.int (Int32.ofInt 0), .ref (p 25)], me_w (lw M L) J)) rfl k
                    have k := me_put rfl (by decide) k
                    have k : nt_rn X _ 41 (104, [(3, .int (J sp v2.toNatClampNeg)), (0, .ref (p 25)), (1, .ref sp), (2, .int v2)], [], me_w (lw M L) (nt_u J (p 25) 2 (Int32.ofInt 0))) _ := k
                    have k := ly_revb 3 (c' := (7, [(2, .int (v2 + (Int32.ofInt 1))), (3, .int (J sp v2.toNatClampNeg)), (0, .ref (p 25)), (1, .ref sp)], [], me_w (lw M L) (nt_u J (p 25) 2 (Int32.ofInt 0)))) rfl k
                    have k := nt_rn_w (a := [(2, .int (v2 + (Int32.ofInt 1))), (3, .int (J sp v2.toNatClampNeg)), (0, .ref (p 25)), (1, .ref sp)]) (b := [(0, .ref (p 25)), (1, .ref sp), (2, .int (v2 + (Int32.ofInt 1))), (3, .int (J sp v2.toNatClampNeg))]) ⟨rfl, rfl, rfl, rfl, trivial⟩ rfl k
                    have k := ih (v2 + (Int32.ofInt 1)) (J sp v2.toNatClampNeg) (nt_u J (p 25) 2 (Int32.ofInt 0)) L (lx_dec h10 hc) k
                    rw [k, x41_7, if_neg h10, if_pos h20, if_neg h36, if_pos h42, if_neg h61, if_pos h67, if_neg h73, if_pos h84]
                  · rw [if_neg h84] at k
                    have k := ly_revb 2 (c' := (89, [(3, .int (J sp v2.toNatClampNeg)), (0, .ref (p 25)), (1, .ref sp), (2, .int v2)], [.ref (p 25), .ref (p 25)], me_w (lw M L) J)) rfl k
                    have k := lz_get (a := (p 25)) (g := 301) (M := me_w (lw M L) J) (v := .ref (p 27)) rfl (nt_gfR rfl (hp.1 (25, 1, 27) (by decide))) k
                    have k := ly_revb 1 (c' := (93, [(3, .int (J sp v2.toNatClampNeg)), (0, .ref (p 25)), (1, .ref sp), (2, .int v2)], [.int (Int32.ofInt 0), .ref (p 27), .ref (p 25)], me_w (lw M L) J)) rfl k
                    have k := mx_lald (v := L (p 27) 0) rfl ((congrArg (L (p 27)) (show (Int32.ofInt 0).toNatClampNeg = 0 from rfl)).trans (rfl)) k
                    have k := mx_putl rfl (by decide) k
                    have k : nt_rn X _ 41 (97, [(3, .int (J sp v2.toNatClampNeg)), (0, .ref (p 25)), (1, .ref sp), (2, .int v2)], [], me_w (lw M (nt_u L (p 25) 3 (L (p 27) 0))) J) _ := k
                    have k := ly_revb 1 (c' := (98, [(3, .int (J sp v2.toNatClampNeg)), (0, .ref (p 25)), (1, .ref sp), (2, .int v2)], [.int (Int32.ofInt 1)], me_w (lw M (nt_u L (p 25) 3 (L (p 27) 0))) J)) rfl k
                    have k := lz_ri rfl (by decide) k
                    rw [k, x41_7, if_neg h10, if_pos h20, if_neg h36, if_pos h42, if_neg h61, if_pos h67, if_neg h73, if_neg h84]
              · rw [if_neg h67] at k
                have k := ly_revb 2 (c' := (109, [(3, .int (J sp v2.toNatClampNeg)), (0, .ref (p 25)), (1, .ref sp), (2, .int v2)], [.int (J sp v2.toNatClampNeg), .ref (p 25)], me_w (lw M L) J)) rfl k
                obtain ⟨d1, o1, ed, kc, k⟩ := lz_c (g := 43) (q := 1) (vs := [.ref (p 25), .int (J sp v2.toNatClampNeg)]) (rest := []) rfl rfl (by decide) (Or.inr (Or.inl ⟨_, rfl, rfl⟩)) rfl k
                have e1 := xt43 hp kc
                subst e1
                have k : nt_rn X _ 41 (112, [(3, .int (J sp v2.toNatClampNeg)), (0, .ref (p 25)), (1, .ref sp), (2, .int v2)], [], me_w (lw M ((x43 p (J sp v2.toNatClampNeg) J L).2)) ((x43 p (J sp v2.toNatClampNeg) J L).1)) _ := k
                have k := ly_revb 2 (c' := (7, [(2, .int (v2 + (Int32.ofInt 1))), (3, .int (J sp v2.toNatClampNeg)), (0, .ref (p 25)), (1, .ref sp)], [], me_w (lw M ((x43 p (J sp v2.toNatClampNeg) J L).2)) ((x43 p (J sp v2.toNatClampNeg) J L).1))) rfl k
                have k := nt_rn_w (a := [(2, .int (v2 + (Int32.ofInt 1))), (3, .int (J sp v2.toNatClampNeg)), (0, .ref (p 25)), (1, .ref sp)]) (b := [(0, .ref (p 25)), (1, .ref sp), (2, .int (v2 + (Int32.ofInt 1))), (3, .int (J sp v2.toNatClampNeg))]) ⟨rfl, rfl, rfl, rfl, trivial⟩ rfl k
                have k := ih (v2 + (Int32.ofInt 1)) (J sp v2.toNatClampNeg) ((x43 p (J sp v2.toNatClampNeg) J L).1) ((x43 p (J sp v2.toNatClampNeg) J L).2) (lx_dec h10 hc) k
                rw [k, x41_7, if_neg h10, if_pos h20, if_neg h36, if_pos h42, if_neg h61, if_neg h67]
          · rw [if_neg h42] at k
            have k := ly_revb 2 (c' := (47, [(3, .int (J sp v2.toNatClampNeg)), (0, .ref (p 25)), (1, .ref sp), (2, .int v2)], [.ref (p 25), .ref (p 25)], me_w (lw M L) J)) rfl k
            have k := lz_get (a := (p 25)) (g := 300) (M := me_w (lw M L) J) (v := .ref (p 26)) rfl (nt_gfR rfl (hp.1 (25, 0, 26) (by decide))) k
            have k := ly_revb 1 (c' := (51, [(3, .int (J sp v2.toNatClampNeg)), (0, .ref (p 25)), (1, .ref sp), (2, .int v2)], [.int (J sp v2.toNatClampNeg), .ref (p 26), .ref (p 25)], me_w (lw M L) J)) rfl k
            have k := mx_lald (v := L (p 26) ((J sp v2.toNatClampNeg).toNatClampNeg)) rfl (rfl) k
            obtain ⟨d1, o1, ed, kc, k⟩ := lz_c (g := 42) (q := 1) (vs := [.ref (p 25), .long (L (p 26) ((J sp v2.toNatClampNeg).toNatClampNeg))]) (rest := []) rfl rfl (by decide) (Or.inr (Or.inl ⟨_, rfl, rfl⟩)) rfl k
            have e1 := xt42 hp kc
            subst e1
            have k : nt_rn X _ 41 (55, [(3, .int (J sp v2.toNatClampNeg)), (0, .ref (p 25)), (1, .ref sp), (2, .int v2)], [], me_w (lw M ((x42 p (L (p 26) ((J sp v2.toNatClampNeg).toNatClampNeg)) J L).2)) ((x42 p (L (p 26) ((J sp v2.toNatClampNeg).toNatClampNeg)) J L).1)) _ := k
            have k := ly_revb 3 (c' := (7, [(2, .int (v2 + (Int32.ofInt 1))), (3, .int (J sp v2.toNatClampNeg)), (0, .ref (p 25)), (1, .ref sp)], [], me_w (lw M ((x42 p (L (p 26) ((J sp v2.toNatClampNeg).toNatClampNeg)) J L).2)) ((x42 p (L (p 26) ((J sp v2.toNatClampNeg).toNatClampNeg)) J L).1))) rfl k
            have k := nt_rn_w (a := [(2, .int (v2 + (Int32.ofInt 1))), (3, .int (J sp v2.toNatClampNeg)), (0, .ref (p 25)), (1, .ref sp)]) (b := [(0, .ref (p 25)), (1, .ref sp), (2, .int (v2 + (Int32.ofInt 1))), (3, .int (J sp v2.toNatClampNeg))]) ⟨rfl, rfl, rfl, rfl, trivial⟩ rfl k
            have k := ih (v2 + (Int32.ofInt 1)) (J sp v2.toNatClampNeg) ((x42 p (L (p 26) ((J sp v2.toNatClampNeg).toNatClampNeg)) J L).1) ((x42 p (L (p 26) ((J sp v2.toNatClampNeg).toNatClampNeg)) J L).2) (lx_dec h10 hc) k
            rw [k, x41_7, if_neg h10, if_pos h20, if_neg h36, if_neg h42]
      · rw [if_neg h20] at k
        have k := ly_revb 5 (c' := (29, [(3, .int (J sp v2.toNatClampNeg)), (0, .ref (p 25)), (1, .ref sp), (2, .int v2)], [.long (((J sp v2.toNatClampNeg) - (Int32.ofInt 100)).toInt64), .ref (p 25)], me_w (lw M L) J)) rfl k
        obtain ⟨d1, o1, ed, kc, k⟩ := lz_c (g := 42) (q := 1) (vs := [.ref (p 25), .long (((J sp v2.toNatClampNeg) - (Int32.ofInt 100)).toInt64)]) (rest := []) rfl rfl (by decide) (Or.inr (Or.inl ⟨_, rfl, rfl⟩)) rfl k
        have e1 := xt42 hp kc
        subst e1
        have k : nt_rn X _ 41 (32, [(3, .int (J sp v2.toNatClampNeg)), (0, .ref (p 25)), (1, .ref sp), (2, .int v2)], [], me_w (lw M ((x42 p (((J sp v2.toNatClampNeg) - (Int32.ofInt 100)).toInt64) J L).2)) ((x42 p (((J sp v2.toNatClampNeg) - (Int32.ofInt 100)).toInt64) J L).1)) _ := k
        have k := ly_revb 3 (c' := (7, [(2, .int (v2 + (Int32.ofInt 1))), (3, .int (J sp v2.toNatClampNeg)), (0, .ref (p 25)), (1, .ref sp)], [], me_w (lw M ((x42 p (((J sp v2.toNatClampNeg) - (Int32.ofInt 100)).toInt64) J L).2)) ((x42 p (((J sp v2.toNatClampNeg) - (Int32.ofInt 100)).toInt64) J L).1))) rfl k
        have k := nt_rn_w (a := [(2, .int (v2 + (Int32.ofInt 1))), (3, .int (J sp v2.toNatClampNeg)), (0, .ref (p 25)), (1, .ref sp)]) (b := [(0, .ref (p 25)), (1, .ref sp), (2, .int (v2 + (Int32.ofInt 1))), (3, .int (J sp v2.toNatClampNeg))]) ⟨rfl, rfl, rfl, rfl, trivial⟩ rfl k
        have k := ih (v2 + (Int32.ofInt 1)) (J sp v2.toNatClampNeg) ((x42 p (((J sp v2.toNatClampNeg) - (Int32.ofInt 100)).toInt64) J L).1) ((x42 p (((J sp v2.toNatClampNeg) - (Int32.ofInt 100)).toInt64) J L).2) (lx_dec h10 hc) k
        rw [k, x41_7, if_neg h10, if_neg h20]
theorem x41_7_rule {p : Nat → Nat} {sp : Nat} {ln : Nat} {I : Nat → Int32 → (Nat → Nat → Int32) → (Nat → Nat → Int64) → Prop} {Q : Int32 × (Nat → Nat → Int32) × (Nat → Nat → Int64) → Prop} (h0 : ∀ (v2 : Int32) (J : Nat → Nat → Int32) (L : Nat → Nat → Int64), I 0 v2 J L → Q (Int32.ofInt 0, J, L)) (h1 : ∀ (c : Nat) (v2 : Int32) (J : Nat → Nat → Int32) (L : Nat → Nat → Int64), I (c + 1) v2 J L →
    if (Int32.ofNat ln) ≤ v2 then (Q (Int32.ofInt 0, J, L))
    else if (J sp v2.toNatClampNeg) < (Int32.ofInt 100) then if (J sp v2.toNatClampNeg) < 0 then if (J sp v2.toNatClampNeg) = (Int32.ofInt 22) then if (J sp v2.toNatClampNeg) = (Int32.ofInt 22) then (Q (Int32.ofInt 1, J, nt_u L (p 25) 3 (L (p 27) 0)))
            else if (lg_cmp (L (p 27) 1) (Int64.ofNat 0)) = 0 then (I c (v2 + (Int32.ofInt 1)) (nt_u J (p 25) 2 (Int32.ofInt 0)) L)
              else (Q (Int32.ofInt 1, J, nt_u L (p 25) 3 (L (p 27) 0)))
          else if (J sp v2.toNatClampNeg) = (Int32.ofInt 23) then if (J sp v2.toNatClampNeg) = (Int32.ofInt 22) then (Q (Int32.ofInt 1, J, nt_u L (p 25) 3 (L (p 27) 0)))
              else if (lg_cmp (L (p 27) 1) (Int64.ofNat 0)) = 0 then (I c (v2 + (Int32.ofInt 1)) (nt_u J (p 25) 2 (Int32.ofInt 0)) L)
                else (Q (Int32.ofInt 1, J, nt_u L (p 25) 3 (L (p 27) 0)))
            else (I c (v2 + (Int32.ofInt 1)) ((x43 p (J sp v2.toNatClampNeg) J L).1) ((x43 p (J sp v2.toNatClampNeg) J L).2))
        else if (Int32.ofInt 10) ≤ (J sp v2.toNatClampNeg) then if (J sp v2.toNatClampNeg) = (Int32.ofInt 22) then if (J sp v2.toNatClampNeg) = (Int32.ofInt 22) then (Q (Int32.ofInt 1, J, nt_u L (p 25) 3 (L (p 27) 0)))
              else if (lg_cmp (L (p 27) 1) (Int64.ofNat 0)) = 0 then (I c (v2 + (Int32.ofInt 1)) (nt_u J (p 25) 2 (Int32.ofInt 0)) L)
                else (Q (Int32.ofInt 1, J, nt_u L (p 25) 3 (L (p 27) 0)))
            else if (J sp v2.toNatClampNeg) = (Int32.ofInt 23) then if (J sp v2.toNatClampNeg) = (Int32.ofInt 22) then (Q (Int32.ofInt 1, J, nt_u L (p 25) 3 (L (p 27) 0)))
                else if (lg_cmp (L (p 27) 1) (Int64.ofNat 0)) = 0 then (I c (v2 + (Int32.ofInt 1)) (nt_u J (p 25) 2 (Int32.ofInt 0)) L)
                  else (Q (Int32.ofInt 1, J, nt_u L (p 25) 3 (L (p 27) 0)))
              else (I c (v2 + (Int32.ofInt 1)) ((x43 p (J sp v2.toNatClampNeg) J L).1) ((x43 p (J sp v2.toNatClampNeg) J L).2))
          else (I c (v2 + (Int32.ofInt 1)) ((x42 p (L (p 26) ((J sp v2.toNatClampNeg).toNatClampNeg)) J L).1) ((x42 p (L (p 26) ((J sp v2.toNatClampNeg).toNatClampNeg)) J L).2))
      else (I c (v2 + (Int32.ofInt 1)) ((x42 p (((J sp v2.toNatClampNeg) - (Int32.ofInt 100)).toInt64) J L).1) ((x42 p (((J sp v2.toNatClampNeg) - (Int32.ofInt 100)).toInt64) J L).2))) : ∀ (c : Nat) (v2 : Int32) (J : Nat → Nat → Int32) (L : Nat → Nat → Int64), I c v2 J L → Q (x41_7 p sp ln c v2 J L) := by
  intro c
  induction c with
  | zero =>
    intro v2 J L hi
    rw [x41_7]
    exact h0 v2 J L hi
  | succ c ih =>
    intro v2 J L hi
    have hi := h1 c v2 J L hi
    rw [x41_7]
    by_cases h : (Int32.ofNat ln) ≤ v2
    · rw [if_pos h] at hi ⊢
      exact hi
    · rw [if_neg h] at hi ⊢
      by_cases h : (J sp v2.toNatClampNeg) < (Int32.ofInt 100)
      · rw [if_pos h] at hi ⊢
        by_cases h : (J sp v2.toNatClampNeg) < 0
        · rw [if_pos h] at hi ⊢
          by_cases h : (J sp v2.toNatClampNeg) = (Int32.ofInt 22)
          · rw [if_pos h] at hi ⊢
            by_cases h : (J sp v2.toNatClampNeg) = (Int32.ofInt 22)
            · rw [if_pos h] at hi ⊢
              exact hi
            · rw [if_neg h] at hi ⊢
              by_cases h : (lg_cmp (L (p 27) 1) (Int64.ofNat 0)) = 0
              · rw [if_pos h] at hi ⊢
                exact ih _ _ _ hi
              · rw [if_neg h] at hi ⊢
                exact hi
          · rw [if_neg h] at hi ⊢
            by_cases h : (J sp v2.toNatClampNeg) = (Int32.ofInt 23)
            · rw [if_pos h] at hi ⊢
              by_cases h : (J sp v2.toNatClampNeg) = (Int32.ofInt 22)
              · rw [if_pos h] at hi ⊢
                exact hi
              · rw [if_neg h] at hi ⊢
                by_cases h : (lg_cmp (L (p 27) 1) (Int64.ofNat 0)) = 0
                · rw [if_pos h] at hi ⊢
                  exact ih _ _ _ hi
                · rw [if_neg h] at hi ⊢
                  exact hi
            · rw [if_neg h] at hi ⊢
              exact ih _ _ _ hi
        · rw [if_neg h] at hi ⊢
          by_cases h : (Int32.ofInt 10) ≤ (J sp v2.toNatClampNeg)
          · rw [if_pos h] at hi ⊢
            by_cases h : (J sp v2.toNatClampNeg) = (Int32.ofInt 22)
            · rw [if_pos h] at hi ⊢
              by_cases h : (J sp v2.toNatClampNeg) = (Int32.ofInt 22)
              · rw [if_pos h] at hi ⊢
                exact hi
              · rw [if_neg h] at hi ⊢
                by_cases h : (lg_cmp (L (p 27) 1) (Int64.ofNat 0)) = 0
                · rw [if_pos h] at hi ⊢
                  exact ih _ _ _ hi
                · rw [if_neg h] at hi ⊢
                  exact hi
            · rw [if_neg h] at hi ⊢
              by_cases h : (J sp v2.toNatClampNeg) = (Int32.ofInt 23)
              · rw [if_pos h] at hi ⊢
                by_cases h : (J sp v2.toNatClampNeg) = (Int32.ofInt 22)
                · rw [if_pos h] at hi ⊢
                  exact hi
                · rw [if_neg h] at hi ⊢
                  by_cases h : (lg_cmp (L (p 27) 1) (Int64.ofNat 0)) = 0
                  · rw [if_pos h] at hi ⊢
                    exact ih _ _ _ hi
                  · rw [if_neg h] at hi ⊢
                    exact hi
              · rw [if_neg h] at hi ⊢
                exact ih _ _ _ hi
          · rw [if_neg h] at hi ⊢
            exact ih _ _ _ hi
      · rw [if_neg h] at hi ⊢
        exact ih _ _ _ hi
def x41 (p : Nat → Nat) (sp : Nat) (ln : Nat) (J : Nat → Nat → Int32) (L : Nat → Nat → Int64) : Int32 × (Nat → Nat → Int32) × (Nat → Nat → Int64) := (x41_7 p sp ln ((Int32.ofNat ln).toNatClampNeg) (Int32.ofInt 0) (nt_u J (p 25) 2 (Int32.ofInt 0)) L)
theorem xt41 {X : nt_X} {d : Nat} {M : nt_M} {o : Option Value × nt_M} {p : Nat → Nat} {sp : Nat} {ln : Nat} {ru : Nat} {J : Nat → Nat → Int32} {L : Nat → Nat → Int64} (hp : xs_P M p) (hs : xs_S M p ru sp ln) (k : nt_ev X d 41 [.ref (p 25), .ref sp] (me_w (lw M L) J) o) : o = (some (.int ((x41 p sp ln J L).1)), me_w (lw M ((x41 p sp ln J L).2.2)) ((x41 p sp ln J L).2.1)) := by
  have k : nt_rn X d 41 (0, [(0, .ref (p 25)), (1, .ref sp)], [], me_w (lw M L) J) o := k
  have k := ly_revb 2 (c' := (2, [(0, .ref (p 25)), (1, .ref sp)], [.int (Int32.ofInt 0), .ref (p 25)], me_w (lw M L) J)) rfl k
  have k := me_put rfl (by decide) k
  have k : nt_rn X _ 41 (5, [(0, .ref (p 25)), (1, .ref sp)], [], me_w (lw M L) (nt_u J (p 25) 2 (Int32.ofInt 0))) _ := k
  have k := ly_revb 2 (c' := (7, [(2, .int (Int32.ofInt 0)), (0, .ref (p 25)), (1, .ref sp)], [], me_w (lw M L) (nt_u J (p 25) 2 (Int32.ofInt 0)))) rfl k
  have k := nt_rn_w (a := [(2, .int (Int32.ofInt 0)), (0, .ref (p 25)), (1, .ref sp)]) (b := [(0, .ref (p 25)), (1, .ref sp), (2, .int (Int32.ofInt 0)), (3, .int (Int32.ofInt 0))]) ⟨rfl, rfl, rfl, trivial⟩ rfl k
  have k := xt41_7 hp hs  ((Int32.ofNat ln).toNatClampNeg) (Int32.ofInt 0) (Int32.ofInt 0) (nt_u J (p 25) 2 (Int32.ofInt 0)) L (lx_beg (by decide)) k
  rw [k, x41]
theorem x41_7_frJ {p : Nat → Nat} {sp : Nat} {ln : Nat} {b : Nat} : ∀ (c : Nat) (v2 : Int32) (J : Nat → Nat → Int32) (L : Nat → Nat → Int64), b ≠ p 25 → (x41_7 p sp ln c v2 J L).2.1 b = J b := by
  intro c
  induction c with
  | zero =>
    intro v2 J L n0
    rw [x41_7]
    all_goals first | (dsimp only; exact (show J b = J b from rfl)) | exact (show J b = J b from rfl)
  | succ c ih =>
    intro v2 J L n0
    rw [x41_7]
    by_cases h : (Int32.ofNat ln) ≤ v2
    · rw [if_pos h]
      all_goals first | (dsimp only; exact (show J b = J b from rfl)) | exact (show J b = J b from rfl)
    · rw [if_neg h]
      by_cases h : (J sp v2.toNatClampNeg) < (Int32.ofInt 100)
      · rw [if_pos h]
        by_cases h : (J sp v2.toNatClampNeg) < 0
        · rw [if_pos h]
          by_cases h : (J sp v2.toNatClampNeg) = (Int32.ofInt 22)
          · rw [if_pos h]
            by_cases h : (J sp v2.toNatClampNeg) = (Int32.ofInt 22)
            · rw [if_pos h]
              all_goals first | (dsimp only; exact (show J b = J b from rfl)) | exact (show J b = J b from rfl)
            · rw [if_neg h]
              by_cases h : (lg_cmp (L (p 27) 1) (Int64.ofNat 0)) = 0
              · rw [if_pos h]
                exact (ih _ _ _ n0).trans (mu_o n0)
              · rw [if_neg h]
                all_goals first | (dsimp only; exact (show J b = J b from rfl)) | exact (show J b = J b from rfl)
          · rw [if_neg h]
            by_cases h : (J sp v2.toNatClampNeg) = (Int32.ofInt 23)
            · rw [if_pos h]
              by_cases h : (J sp v2.toNatClampNeg) = (Int32.ofInt 22)
              · rw [if_pos h]
                all_goals first | (dsimp only; exact (show J b = J b from rfl)) | exact (show J b = J b from rfl)
              · rw [if_neg h]
                by_cases h : (lg_cmp (L (p 27) 1) (Int64.ofNat 0)) = 0
                · rw [if_pos h]
                  exact (ih _ _ _ n0).trans (mu_o n0)
                · rw [if_neg h]
                  all_goals first | (dsimp only; exact (show J b = J b from rfl)) | exact (show J b = J b from rfl)
            · rw [if_neg h]
              exact (ih _ _ _ n0).trans (x43_frJ  n0)
        · rw [if_neg h]
          by_cases h : (Int32.ofInt 10) ≤ (J sp v2.toNatClampNeg)
          · rw [if_pos h]
            by_cases h : (J sp v2.toNatClampNeg) = (Int32.ofInt 22)
            · rw [if_pos h]
              by_cases h : (J sp v2.toNatClampNeg) = (Int32.ofInt 22)
              · rw [if_pos h]
                all_goals first | (dsimp only; exact (show J b = J b from rfl)) | exact (show J b = J b from rfl)
              · rw [if_neg h]
                by_cases h : (lg_cmp (L (p 27) 1) (Int64.ofNat 0)) = 0
                · rw [if_pos h]
                  exact (ih _ _ _ n0).trans (mu_o n0)
                · rw [if_neg h]
                  all_goals first | (dsimp only; exact (show J b = J b from rfl)) | exact (show J b = J b from rfl)
            · rw [if_neg h]
              by_cases h : (J sp v2.toNatClampNeg) = (Int32.ofInt 23)
              · rw [if_pos h]
                by_cases h : (J sp v2.toNatClampNeg) = (Int32.ofInt 22)
                · rw [if_pos h]
                  all_goals first | (dsimp only; exact (show J b = J b from rfl)) | exact (show J b = J b from rfl)
                · rw [if_neg h]
                  by_cases h : (lg_cmp (L (p 27) 1) (Int64.ofNat 0)) = 0
                  · rw [if_pos h]
                    exact (ih _ _ _ n0).trans (mu_o n0)
                  · rw [if_neg h]
                    all_goals first | (dsimp only; exact (show J b = J b from rfl)) | exact (show J b = J b from rfl)
              · rw [if_neg h]
                exact (ih _ _ _ n0).trans (x43_frJ  n0)
          · rw [if_neg h]
            exact (ih _ _ _ n0).trans (x42_frJ  n0)
      · rw [if_neg h]
        exact (ih _ _ _ n0).trans (x42_frJ  n0)
theorem x41_frJ {p : Nat → Nat} {sp : Nat} {ln : Nat} {J : Nat → Nat → Int32} {L : Nat → Nat → Int64} {b : Nat} (n0 : b ≠ p 25) : (x41 p sp ln J L).2.1 b = J b := by
  unfold x41
  exact (x41_7_frJ _ _ _ _ n0).trans (mu_o n0)
theorem x41_7_frL {p : Nat → Nat} {sp : Nat} {ln : Nat} {b : Nat} : ∀ (c : Nat) (v2 : Int32) (J : Nat → Nat → Int32) (L : Nat → Nat → Int64), b ≠ p 25 → b ≠ p 27 → (x41_7 p sp ln c v2 J L).2.2 b = L b := by
  intro c
  induction c with
  | zero =>
    intro v2 J L n0 n1
    rw [x41_7]
    all_goals first | (dsimp only; exact (show L b = L b from rfl)) | exact (show L b = L b from rfl)
  | succ c ih =>
    intro v2 J L n0 n1
    rw [x41_7]
    by_cases h : (Int32.ofNat ln) ≤ v2
    · rw [if_pos h]
      all_goals first | (dsimp only; exact (show L b = L b from rfl)) | exact (show L b = L b from rfl)
    · rw [if_neg h]
      by_cases h : (J sp v2.toNatClampNeg) < (Int32.ofInt 100)
      · rw [if_pos h]
        by_cases h : (J sp v2.toNatClampNeg) < 0
        · rw [if_pos h]
          by_cases h : (J sp v2.toNatClampNeg) = (Int32.ofInt 22)
          · rw [if_pos h]
            by_cases h : (J sp v2.toNatClampNeg) = (Int32.ofInt 22)
            · rw [if_pos h]
              all_goals first | (dsimp only; exact (show (nt_u L (p 25) 3 (L (p 27) 0)) b = L b from mu_o n0)) | exact (show (nt_u L (p 25) 3 (L (p 27) 0)) b = L b from mu_o n0)
            · rw [if_neg h]
              by_cases h : (lg_cmp (L (p 27) 1) (Int64.ofNat 0)) = 0
              · rw [if_pos h]
                exact (ih _ _ _ n0 n1).trans (rfl)
              · rw [if_neg h]
                all_goals first | (dsimp only; exact (show (nt_u L (p 25) 3 (L (p 27) 0)) b = L b from mu_o n0)) | exact (show (nt_u L (p 25) 3 (L (p 27) 0)) b = L b from mu_o n0)
          · rw [if_neg h]
            by_cases h : (J sp v2.toNatClampNeg) = (Int32.ofInt 23)
            · rw [if_pos h]
              by_cases h : (J sp v2.toNatClampNeg) = (Int32.ofInt 22)
              · rw [if_pos h]
                all_goals first | (dsimp only; exact (show (nt_u L (p 25) 3 (L (p 27) 0)) b = L b from mu_o n0)) | exact (show (nt_u L (p 25) 3 (L (p 27) 0)) b = L b from mu_o n0)
              · rw [if_neg h]
                by_cases h : (lg_cmp (L (p 27) 1) (Int64.ofNat 0)) = 0
                · rw [if_pos h]
                  exact (ih _ _ _ n0 n1).trans (rfl)
                · rw [if_neg h]
                  all_goals first | (dsimp only; exact (show (nt_u L (p 25) 3 (L (p 27) 0)) b = L b from mu_o n0)) | exact (show (nt_u L (p 25) 3 (L (p 27) 0)) b = L b from mu_o n0)
            · rw [if_neg h]
              exact (ih _ _ _ n0 n1).trans (x43_frL n1)
        · rw [if_neg h]
          by_cases h : (Int32.ofInt 10) ≤ (J sp v2.toNatClampNeg)
          · rw [if_pos h]
            by_cases h : (J sp v2.toNatClampNeg) = (Int32.ofInt 22)
            · rw [if_pos h]
              by_cases h : (J sp v2.toNatClampNeg) = (Int32.ofInt 22)
              · rw [if_pos h]
                all_goals first | (dsimp only; exact (show (nt_u L (p 25) 3 (L (p 27) 0)) b = L b from mu_o n0)) | exact (show (nt_u L (p 25) 3 (L (p 27) 0)) b = L b from mu_o n0)
              · rw [if_neg h]
                by_cases h : (lg_cmp (L (p 27) 1) (Int64.ofNat 0)) = 0
                · rw [if_pos h]
                  exact (ih _ _ _ n0 n1).trans (rfl)
                · rw [if_neg h]
                  all_goals first | (dsimp only; exact (show (nt_u L (p 25) 3 (L (p 27) 0)) b = L b from mu_o n0)) | exact (show (nt_u L (p 25) 3 (L (p 27) 0)) b = L b from mu_o n0)
            · rw [if_neg h]
              by_cases h : (J sp v2.toNatClampNeg) = (Int32.ofInt 23)
              · rw [if_pos h]
                by_cases h : (J sp v2.toNatClampNeg) = (Int32.ofInt 22)
                · rw [if_pos h]
                  all_goals first | (dsimp only; exact (show (nt_u L (p 25) 3 (L (p 27) 0)) b = L b from mu_o n0)) | exact (show (nt_u L (p 25) 3 (L (p 27) 0)) b = L b from mu_o n0)
                · rw [if_neg h]
                  by_cases h : (lg_cmp (L (p 27) 1) (Int64.ofNat 0)) = 0
                  · rw [if_pos h]
                    exact (ih _ _ _ n0 n1).trans (rfl)
                  · rw [if_neg h]
                    all_goals first | (dsimp only; exact (show (nt_u L (p 25) 3 (L (p 27) 0)) b = L b from mu_o n0)) | exact (show (nt_u L (p 25) 3 (L (p 27) 0)) b = L b from mu_o n0)
              · rw [if_neg h]
                exact (ih _ _ _ n0 n1).trans (x43_frL n1)
          · rw [if_neg h]
            exact (ih _ _ _ n0 n1).trans (x42_frL n1)
      · rw [if_neg h]
        exact (ih _ _ _ n0 n1).trans (x42_frL n1)
theorem x41_frL {p : Nat → Nat} {sp : Nat} {ln : Nat} {J : Nat → Nat → Int32} {L : Nat → Nat → Int64} {b : Nat} (n0 : b ≠ p 25) (n1 : b ≠ p 27) : (x41 p sp ln J L).2.2 b = L b := by
  unfold x41
  exact (x41_7_frL _ _ _ _ n0 n1).trans (rfl)
/-! $Calendar.tell -/
def x8 (p : Nat → Nat) (q : Nat → Nat) (v2 : Int32) (v3 : Int32) (J : Nat → Nat → Int32) (L : Nat → Nat → Int64) : (Nat → Nat → Int64) := if (J (q 14) v2.toNatClampNeg) = (Int32.ofInt (-1)) then if (J (q 5) v2.toNatClampNeg) = (J (q 6) v3.toNatClampNeg) then (nt_u (nt_u (nt_u (nt_u (nt_u (nt_u (nt_u (nt_u (nt_u (nt_u L (p 26) 0 v2.toInt64) (p 26) 1 ((J (q 3) v2.toNatClampNeg).toInt64)) (p 26) 2 ((J (q 13) v2.toNatClampNeg).toInt64)) (p 26) 3 ((J (q 5) v2.toNatClampNeg).toInt64)) (p 26) 4 ((J (q 6) v3.toNatClampNeg).toInt64)) (p 26) 5 99) (p 26) 6 (Int64.ofNat 1)) (p 26) 7 ((J (q 0) 2).toInt64)) (p 26) 8 ((J (q 0) 3).toInt64)) (p 26) 9 ((x89 q v3 J).toInt64))
    else (nt_u (nt_u (nt_u (nt_u (nt_u (nt_u (nt_u (nt_u (nt_u (nt_u L (p 26) 0 v2.toInt64) (p 26) 1 ((J (q 3) v2.toNatClampNeg).toInt64)) (p 26) 2 ((J (q 13) v2.toNatClampNeg).toInt64)) (p 26) 3 ((J (q 5) v2.toNatClampNeg).toInt64)) (p 26) 4 ((J (q 6) v3.toNatClampNeg).toInt64)) (p 26) 5 99) (p 26) 6 (Int64.ofNat 0)) (p 26) 7 ((J (q 0) 2).toInt64)) (p 26) 8 ((J (q 0) 3).toInt64)) (p 26) 9 ((x89 q v3 J).toInt64))
  else if (J (q 5) v2.toNatClampNeg) = (J (q 6) v3.toNatClampNeg) then (nt_u (nt_u (nt_u (nt_u (nt_u (nt_u (nt_u (nt_u (nt_u (nt_u L (p 26) 0 v2.toInt64) (p 26) 1 ((J (q 3) v2.toNatClampNeg).toInt64)) (p 26) 2 ((J (q 13) v2.toNatClampNeg).toInt64)) (p 26) 3 ((J (q 5) v2.toNatClampNeg).toInt64)) (p 26) 4 ((J (q 6) v3.toNatClampNeg).toInt64)) (p 26) 5 ((J (q 14) v2.toNatClampNeg).toInt64)) (p 26) 6 (Int64.ofNat 1)) (p 26) 7 ((J (q 0) 2).toInt64)) (p 26) 8 ((J (q 0) 3).toInt64)) (p 26) 9 ((x89 q v3 J).toInt64))
    else (nt_u (nt_u (nt_u (nt_u (nt_u (nt_u (nt_u (nt_u (nt_u (nt_u L (p 26) 0 v2.toInt64) (p 26) 1 ((J (q 3) v2.toNatClampNeg).toInt64)) (p 26) 2 ((J (q 13) v2.toNatClampNeg).toInt64)) (p 26) 3 ((J (q 5) v2.toNatClampNeg).toInt64)) (p 26) 4 ((J (q 6) v3.toNatClampNeg).toInt64)) (p 26) 5 ((J (q 14) v2.toNatClampNeg).toInt64)) (p 26) 6 (Int64.ofNat 0)) (p 26) 7 ((J (q 0) 2).toInt64)) (p 26) 8 ((J (q 0) 3).toInt64)) (p 26) 9 ((x89 q v3 J).toInt64))
theorem xt8 {X : nt_X} {d : Nat} {M : nt_M} {o : Option Value × nt_M} {p : Nat → Nat} {q : Nat → Nat} {v2 : Int32} {v3 : Int32} {J : Nat → Nat → Int32} {L : Nat → Nat → Int64} (hp : xs_P M p) (hq : xs_Q M q) (hx : xs_X p q) (k : nt_ev X d 8 [.ref (p 24), .ref (q 0), .int v2, .int v3] (me_w (lw M L) J) o) : o = (none, me_w (lw M (x8 p q v2 v3 J L)) J) := by
  have k : nt_rn X d 8 (0, [(0, .ref (p 24)), (1, .ref (q 0)), (2, .int v2), (3, .int v3)], [], me_w (lw M L) J) o := k
  have k := ly_revb 1 (c' := (1, [(0, .ref (p 24)), (1, .ref (q 0)), (2, .int v2), (3, .int v3)], [.ref (q 0)], me_w (lw M L) J)) rfl k
  have k := lz_get (a := (q 0)) (g := 611) (M := me_w (lw M L) J) (v := .ref (q 14)) rfl (nt_gfR rfl (hq.1 (0, 11, 14) (by decide))) k
  have k := ly_revb 1 (c' := (5, [(0, .ref (p 24)), (1, .ref (q 0)), (2, .int v2), (3, .int v3)], [.int v2, .ref (q 14)], me_w (lw M L) J)) rfl k
  have k := mx_iald (v := J (q 14) v2.toNatClampNeg) rfl (hq.2.2.1 14 (by omega)) (rfl) k
  have k := ly_revb 2 (c' := (9, [(4, .int (J (q 14) v2.toNatClampNeg)), (0, .ref (p 24)), (1, .ref (q 0)), (2, .int v2), (3, .int v3)], [.ref (q 0)], me_w (lw M L) J)) rfl k
  have k := lz_get (a := (q 0)) (g := 600) (M := me_w (lw M L) J) (v := .ref (q 1)) rfl (nt_gfR rfl (hq.1 (0, 0, 1) (by decide))) k
  have k := lz_get (a := (q 1)) (g := 809) (M := me_w (lw M L) J) (v := .ref (q 6)) rfl (nt_gfR rfl (hq.1 (1, 9, 6) (by decide))) k
  have k := ly_revb 1 (c' := (16, [(4, .int (J (q 14) v2.toNatClampNeg)), (0, .ref (p 24)), (1, .ref (q 0)), (2, .int v2), (3, .int v3)], [.int v3, .ref (q 6)], me_w (lw M L) J)) rfl k
  have k := mx_iald (v := J (q 6) v3.toNatClampNeg) rfl (hq.2.2.1 6 (by omega)) (rfl) k
  have k := ly_revb 2 (c' := (20, [(5, .int (J (q 6) v3.toNatClampNeg)), (4, .int (J (q 14) v2.toNatClampNeg)), (0, .ref (p 24)), (1, .ref (q 0)), (2, .int v2), (3, .int v3)], [.ref (p 24)], me_w (lw M L) J)) rfl k
  have k := lz_get (a := (p 24)) (g := 0) (M := me_w (lw M L) J) (v := .ref (p 25)) rfl (nt_gfR rfl (hp.1 (24, 0, 25) (by decide))) k
  have k := lz_get (a := (p 25)) (g := 300) (M := me_w (lw M L) J) (v := .ref (p 26)) rfl (nt_gfR rfl (hp.1 (25, 0, 26) (by decide))) k
  have k := ly_revb 5 (c' := (33, [(6, .ref (p 26)), (5, .int (J (q 6) v3.toNatClampNeg)), (4, .int (J (q 14) v2.toNatClampNeg)), (0, .ref (p 24)), (1, .ref (q 0)), (2, .int v2), (3, .int v3)], [.long v2.toInt64, .int (Int32.ofInt 0), .ref (p 26)], me_w (lw M L) J)) rfl k
  have k := mx_last (q := 0) rfl (show (Int32.ofInt 0).toNatClampNeg = 0 from rfl) k
  have k : nt_rn X _ 8 (34, [(6, .ref (p 26)), (5, .int (J (q 6) v3.toNatClampNeg)), (4, .int (J (q 14) v2.toNatClampNeg)), (0, .ref (p 24)), (1, .ref (q 0)), (2, .int v2), (3, .int v3)], [], me_w (lw M (nt_u L (p 26) 0 v2.toInt64)) J) _ := k
  have k := ly_revb 3 (c' := (38, [(6, .ref (p 26)), (5, .int (J (q 6) v3.toNatClampNeg)), (4, .int (J (q 14) v2.toNatClampNeg)), (0, .ref (p 24)), (1, .ref (q 0)), (2, .int v2), (3, .int v3)], [.ref (q 0), .int (Int32.ofInt 1), .ref (p 26)], me_w (lw M (nt_u L (p 26) 0 v2.toInt64)) J)) rfl k
  have k := lz_get (a := (q 0)) (g := 600) (M := me_w (lw M (nt_u L (p 26) 0 v2.toInt64)) J) (v := .ref (q 1)) rfl (nt_gfR rfl (hq.1 (0, 0, 1) (by decide))) k
  have k := lz_get (a := (q 1)) (g := 806) (M := me_w (lw M (nt_u L (p 26) 0 v2.toInt64)) J) (v := .ref (q 3)) rfl (nt_gfR rfl (hq.1 (1, 6, 3) (by decide))) k
  have k := ly_revb 1 (c' := (45, [(6, .ref (p 26)), (5, .int (J (q 6) v3.toNatClampNeg)), (4, .int (J (q 14) v2.toNatClampNeg)), (0, .ref (p 24)), (1, .ref (q 0)), (2, .int v2), (3, .int v3)], [.int v2, .ref (q 3), .int (Int32.ofInt 1), .ref (p 26)], me_w (lw M (nt_u L (p 26) 0 v2.toInt64)) J)) rfl k
  have k := mx_iald (v := J (q 3) v2.toNatClampNeg) rfl (hq.2.2.1 3 (by omega)) (rfl) k
  have k := ly_revb 1 (c' := (47, [(6, .ref (p 26)), (5, .int (J (q 6) v3.toNatClampNeg)), (4, .int (J (q 14) v2.toNatClampNeg)), (0, .ref (p 24)), (1, .ref (q 0)), (2, .int v2), (3, .int v3)], [.long ((J (q 3) v2.toNatClampNeg).toInt64), .int (Int32.ofInt 1), .ref (p 26)], me_w (lw M (nt_u L (p 26) 0 v2.toInt64)) J)) rfl k
  have k := mx_last (q := 1) rfl (show (Int32.ofInt 1).toNatClampNeg = 1 from rfl) k
  have k : nt_rn X _ 8 (48, [(6, .ref (p 26)), (5, .int (J (q 6) v3.toNatClampNeg)), (4, .int (J (q 14) v2.toNatClampNeg)), (0, .ref (p 24)), (1, .ref (q 0)), (2, .int v2), (3, .int v3)], [], me_w (lw M (nt_u (nt_u L (p 26) 0 v2.toInt64) (p 26) 1 ((J (q 3) v2.toNatClampNeg).toInt64))) J) _ := k
  have k := ly_revb 3 (c' := (52, [(6, .ref (p 26)), (5, .int (J (q 6) v3.toNatClampNeg)), (4, .int (J (q 14) v2.toNatClampNeg)), (0, .ref (p 24)), (1, .ref (q 0)), (2, .int v2), (3, .int v3)], [.ref (q 0), .int (Int32.ofInt 2), .ref (p 26)], me_w (lw M (nt_u (nt_u L (p 26) 0 v2.toInt64) (p 26) 1 ((J (q 3) v2.toNatClampNeg).toInt64))) J)) rfl k
  have k := lz_get (a := (q 0)) (g := 610) (M := me_w (lw M (nt_u (nt_u L (p 26) 0 v2.toInt64) (p 26) 1 ((J (q 3) v2.toNatClampNeg).toInt64))) J) (v := .ref (q 13)) rfl (nt_gfR rfl (hq.1 (0, 10, 13) (by decide))) k
  have k := ly_revb 1 (c' := (56, [(6, .ref (p 26)), (5, .int (J (q 6) v3.toNatClampNeg)), (4, .int (J (q 14) v2.toNatClampNeg)), (0, .ref (p 24)), (1, .ref (q 0)), (2, .int v2), (3, .int v3)], [.int v2, .ref (q 13), .int (Int32.ofInt 2), .ref (p 26)], me_w (lw M (nt_u (nt_u L (p 26) 0 v2.toInt64) (p 26) 1 ((J (q 3) v2.toNatClampNeg).toInt64))) J)) rfl k
  have k := mx_iald (v := J (q 13) v2.toNatClampNeg) rfl (hq.2.2.1 13 (by omega)) (rfl) k
  have k := ly_revb 1 (c' := (58, [(6, .ref (p 26)), (5, .int (J (q 6) v3.toNatClampNeg)), (4, .int (J (q 14) v2.toNatClampNeg)), (0, .ref (p 24)), (1, .ref (q 0)), (2, .int v2), (3, .int v3)], [.long ((J (q 13) v2.toNatClampNeg).toInt64), .int (Int32.ofInt 2), .ref (p 26)], me_w (lw M (nt_u (nt_u L (p 26) 0 v2.toInt64) (p 26) 1 ((J (q 3) v2.toNatClampNeg).toInt64))) J)) rfl k
  have k := mx_last (q := 2) rfl (show (Int32.ofInt 2).toNatClampNeg = 2 from rfl) k
  have k : nt_rn X _ 8 (59, [(6, .ref (p 26)), (5, .int (J (q 6) v3.toNatClampNeg)), (4, .int (J (q 14) v2.toNatClampNeg)), (0, .ref (p 24)), (1, .ref (q 0)), (2, .int v2), (3, .int v3)], [], me_w (lw M (nt_u (nt_u (nt_u L (p 26) 0 v2.toInt64) (p 26) 1 ((J (q 3) v2.toNatClampNeg).toInt64)) (p 26) 2 ((J (q 13) v2.toNatClampNeg).toInt64))) J) _ := k
  have k := ly_revb 3 (c' := (63, [(6, .ref (p 26)), (5, .int (J (q 6) v3.toNatClampNeg)), (4, .int (J (q 14) v2.toNatClampNeg)), (0, .ref (p 24)), (1, .ref (q 0)), (2, .int v2), (3, .int v3)], [.ref (q 0), .int (Int32.ofInt 3), .ref (p 26)], me_w (lw M (nt_u (nt_u (nt_u L (p 26) 0 v2.toInt64) (p 26) 1 ((J (q 3) v2.toNatClampNeg).toInt64)) (p 26) 2 ((J (q 13) v2.toNatClampNeg).toInt64))) J)) rfl k
  have k := lz_get (a := (q 0)) (g := 600) (M := me_w (lw M (nt_u (nt_u (nt_u L (p 26) 0 v2.toInt64) (p 26) 1 ((J (q 3) v2.toNatClampNeg).toInt64)) (p 26) 2 ((J (q 13) v2.toNatClampNeg).toInt64))) J) (v := .ref (q 1)) rfl (nt_gfR rfl (hq.1 (0, 0, 1) (by decide))) k
  have k := lz_get (a := (q 1)) (g := 808) (M := me_w (lw M (nt_u (nt_u (nt_u L (p 26) 0 v2.toInt64) (p 26) 1 ((J (q 3) v2.toNatClampNeg).toInt64)) (p 26) 2 ((J (q 13) v2.toNatClampNeg).toInt64))) J) (v := .ref (q 5)) rfl (nt_gfR rfl (hq.1 (1, 8, 5) (by decide))) k
  have k := ly_revb 1 (c' := (70, [(6, .ref (p 26)), (5, .int (J (q 6) v3.toNatClampNeg)), (4, .int (J (q 14) v2.toNatClampNeg)), (0, .ref (p 24)), (1, .ref (q 0)), (2, .int v2), (3, .int v3)], [.int v2, .ref (q 5), .int (Int32.ofInt 3), .ref (p 26)], me_w (lw M (nt_u (nt_u (nt_u L (p 26) 0 v2.toInt64) (p 26) 1 ((J (q 3) v2.toNatClampNeg).toInt64)) (p 26) 2 ((J (q 13) v2.toNatClampNeg).toInt64))) J)) rfl k
  have k := mx_iald (v := J (q 5) v2.toNatClampNeg) rfl (hq.2.2.1 5 (by omega)) (rfl) k
  have k := ly_revb 1 (c' := (72, [(6, .ref (p 26)), (5, .int (J (q 6) v3.toNatClampNeg)), (4, .int (J (q 14) v2.toNatClampNeg)), (0, .ref (p 24)), (1, .ref (q 0)), (2, .int v2), (3, .int v3)], [.long ((J (q 5) v2.toNatClampNeg).toInt64), .int (Int32.ofInt 3), .ref (p 26)], me_w (lw M (nt_u (nt_u (nt_u L (p 26) 0 v2.toInt64) (p 26) 1 ((J (q 3) v2.toNatClampNeg).toInt64)) (p 26) 2 ((J (q 13) v2.toNatClampNeg).toInt64))) J)) rfl k
  have k := mx_last (q := 3) rfl (show (Int32.ofInt 3).toNatClampNeg = 3 from rfl) k
  have k : nt_rn X _ 8 (73, [(6, .ref (p 26)), (5, .int (J (q 6) v3.toNatClampNeg)), (4, .int (J (q 14) v2.toNatClampNeg)), (0, .ref (p 24)), (1, .ref (q 0)), (2, .int v2), (3, .int v3)], [], me_w (lw M (nt_u (nt_u (nt_u (nt_u L (p 26) 0 v2.toInt64) (p 26) 1 ((J (q 3) v2.toNatClampNeg).toInt64)) (p 26) 2 ((J (q 13) v2.toNatClampNeg).toInt64)) (p 26) 3 ((J (q 5) v2.toNatClampNeg).toInt64))) J) _ := k
  have k := ly_revb 4 (c' := (79, [(6, .ref (p 26)), (5, .int (J (q 6) v3.toNatClampNeg)), (4, .int (J (q 14) v2.toNatClampNeg)), (0, .ref (p 24)), (1, .ref (q 0)), (2, .int v2), (3, .int v3)], [.long ((J (q 6) v3.toNatClampNeg).toInt64), .int (Int32.ofInt 4), .ref (p 26)], me_w (lw M (nt_u (nt_u (nt_u (nt_u L (p 26) 0 v2.toInt64) (p 26) 1 ((J (q 3) v2.toNatClampNeg).toInt64)) (p 26) 2 ((J (q 13) v2.toNatClampNeg).toInt64)) (p 26) 3 ((J (q 5) v2.toNatClampNeg).toInt64))) J)) rfl k
  have k := mx_last (q := 4) rfl (show (Int32.ofInt 4).toNatClampNeg = 4 from rfl) k
  have k : nt_rn X _ 8 (80, [(6, .ref (p 26)), (5, .int (J (q 6) v3.toNatClampNeg)), (4, .int (J (q 14) v2.toNatClampNeg)), (0, .ref (p 24)), (1, .ref (q 0)), (2, .int v2), (3, .int v3)], [], me_w (lw M (nt_u (nt_u (nt_u (nt_u (nt_u L (p 26) 0 v2.toInt64) (p 26) 1 ((J (q 3) v2.toNatClampNeg).toInt64)) (p 26) 2 ((J (q 13) v2.toNatClampNeg).toInt64)) (p 26) 3 ((J (q 5) v2.toNatClampNeg).toInt64)) (p 26) 4 ((J (q 6) v3.toNatClampNeg).toInt64))) J) _ := k
  have k := ly_revb 5 (c' := (if (J (q 14) v2.toNatClampNeg) = (Int32.ofInt (-1)) then 89 else 95, [(6, .ref (p 26)), (5, .int (J (q 6) v3.toNatClampNeg)), (4, .int (J (q 14) v2.toNatClampNeg)), (0, .ref (p 24)), (1, .ref (q 0)), (2, .int v2), (3, .int v3)], [.int (Int32.ofInt 5), .ref (p 26)], me_w (lw M (nt_u (nt_u (nt_u (nt_u (nt_u L (p 26) 0 v2.toInt64) (p 26) 1 ((J (q 3) v2.toNatClampNeg).toInt64)) (p 26) 2 ((J (q 13) v2.toNatClampNeg).toInt64)) (p 26) 3 ((J (q 5) v2.toNatClampNeg).toInt64)) (p 26) 4 ((J (q 6) v3.toNatClampNeg).toInt64))) J)) rfl k
  by_cases h86 : (J (q 14) v2.toNatClampNeg) = (Int32.ofInt (-1))
  · rw [if_pos h86] at k
    have k := ly_revb 2 (c' := (98, [(6, .ref (p 26)), (5, .int (J (q 6) v3.toNatClampNeg)), (4, .int (J (q 14) v2.toNatClampNeg)), (0, .ref (p 24)), (1, .ref (q 0)), (2, .int v2), (3, .int v3)], [.long 99, .int (Int32.ofInt 5), .ref (p 26)], me_w (lw M (nt_u (nt_u (nt_u (nt_u (nt_u L (p 26) 0 v2.toInt64) (p 26) 1 ((J (q 3) v2.toNatClampNeg).toInt64)) (p 26) 2 ((J (q 13) v2.toNatClampNeg).toInt64)) (p 26) 3 ((J (q 5) v2.toNatClampNeg).toInt64)) (p 26) 4 ((J (q 6) v3.toNatClampNeg).toInt64))) J)) rfl k
    have k := mx_last (q := 5) rfl (show (Int32.ofInt 5).toNatClampNeg = 5 from rfl) k
    have k : nt_rn X _ 8 (99, [(6, .ref (p 26)), (5, .int (J (q 6) v3.toNatClampNeg)), (4, .int (J (q 14) v2.toNatClampNeg)), (0, .ref (p 24)), (1, .ref (q 0)), (2, .int v2), (3, .int v3)], [], me_w (lw M (nt_u (nt_u (nt_u (nt_u (nt_u (nt_u L (p 26) 0 v2.toInt64) (p 26) 1 ((J (q 3) v2.toNatClampNeg).toInt64)) (p 26) 2 ((J (q 13) v2.toNatClampNeg).toInt64)) (p 26) 3 ((J (q 5) v2.toNatClampNeg).toInt64)) (p 26) 4 ((J (q 6) v3.toNatClampNeg).toInt64)) (p 26) 5 99)) J) _ := k
    have k := ly_revb 3 (c' := (104, [(6, .ref (p 26)), (5, .int (J (q 6) v3.toNatClampNeg)), (4, .int (J (q 14) v2.toNatClampNeg)), (0, .ref (p 24)), (1, .ref (q 0)), (2, .int v2), (3, .int v3)], [.ref (q 0), .int (Int32.ofInt 6), .ref (p 26)], me_w (lw M (nt_u (nt_u (nt_u (nt_u (nt_u (nt_u L (p 26) 0 v2.toInt64) (p 26) 1 ((J (q 3) v2.toNatClampNeg).toInt64)) (p 26) 2 ((J (q 13) v2.toNatClampNeg).toInt64)) (p 26) 3 ((J (q 5) v2.toNatClampNeg).toInt64)) (p 26) 4 ((J (q 6) v3.toNatClampNeg).toInt64)) (p 26) 5 99)) J)) rfl k
    have k := lz_get (a := (q 0)) (g := 600) (M := me_w (lw M (nt_u (nt_u (nt_u (nt_u (nt_u (nt_u L (p 26) 0 v2.toInt64) (p 26) 1 ((J (q 3) v2.toNatClampNeg).toInt64)) (p 26) 2 ((J (q 13) v2.toNatClampNeg).toInt64)) (p 26) 3 ((J (q 5) v2.toNatClampNeg).toInt64)) (p 26) 4 ((J (q 6) v3.toNatClampNeg).toInt64)) (p 26) 5 99)) J) (v := .ref (q 1)) rfl (nt_gfR rfl (hq.1 (0, 0, 1) (by decide))) k
    have k := lz_get (a := (q 1)) (g := 808) (M := me_w (lw M (nt_u (nt_u (nt_u (nt_u (nt_u (nt_u L (p 26) 0 v2.toInt64) (p 26) 1 ((J (q 3) v2.toNatClampNeg).toInt64)) (p 26) 2 ((J (q 13) v2.toNatClampNeg).toInt64)) (p 26) 3 ((J (q 5) v2.toNatClampNeg).toInt64)) (p 26) 4 ((J (q 6) v3.toNatClampNeg).toInt64)) (p 26) 5 99)) J) (v := .ref (q 5)) rfl (nt_gfR rfl (hq.1 (1, 8, 5) (by decide))) k
    have k := ly_revb 1 (c' := (111, [(6, .ref (p 26)), (5, .int (J (q 6) v3.toNatClampNeg)), (4, .int (J (q 14) v2.toNatClampNeg)), (0, .ref (p 24)), (1, .ref (q 0)), (2, .int v2), (3, .int v3)], [.int v2, .ref (q 5), .int (Int32.ofInt 6), .ref (p 26)], me_w (lw M (nt_u (nt_u (nt_u (nt_u (nt_u (nt_u L (p 26) 0 v2.toInt64) (p 26) 1 ((J (q 3) v2.toNatClampNeg).toInt64)) (p 26) 2 ((J (q 13) v2.toNatClampNeg).toInt64)) (p 26) 3 ((J (q 5) v2.toNatClampNeg).toInt64)) (p 26) 4 ((J (q 6) v3.toNatClampNeg).toInt64)) (p 26) 5 99)) J)) rfl k
    have k := mx_iald (v := J (q 5) v2.toNatClampNeg) rfl (hq.2.2.1 5 (by omega)) (rfl) k
    have k := ly_revb 2 (c' := (if (J (q 5) v2.toNatClampNeg) = (J (q 6) v3.toNatClampNeg) then 117 else 121, [(6, .ref (p 26)), (5, .int (J (q 6) v3.toNatClampNeg)), (4, .int (J (q 14) v2.toNatClampNeg)), (0, .ref (p 24)), (1, .ref (q 0)), (2, .int v2), (3, .int v3)], [.int (Int32.ofInt 6), .ref (p 26)], me_w (lw M (nt_u (nt_u (nt_u (nt_u (nt_u (nt_u L (p 26) 0 v2.toInt64) (p 26) 1 ((J (q 3) v2.toNatClampNeg).toInt64)) (p 26) 2 ((J (q 13) v2.toNatClampNeg).toInt64)) (p 26) 3 ((J (q 5) v2.toNatClampNeg).toInt64)) (p 26) 4 ((J (q 6) v3.toNatClampNeg).toInt64)) (p 26) 5 99)) J)) rfl k
    by_cases h114 : (J (q 5) v2.toNatClampNeg) = (J (q 6) v3.toNatClampNeg)
    · rw [if_pos h114] at k
      have k := ly_revb 2 (c' := (122, [(6, .ref (p 26)), (5, .int (J (q 6) v3.toNatClampNeg)), (4, .int (J (q 14) v2.toNatClampNeg)), (0, .ref (p 24)), (1, .ref (q 0)), (2, .int v2), (3, .int v3)], [.long (Int64.ofNat 1), .int (Int32.ofInt 6), .ref (p 26)], me_w (lw M (nt_u (nt_u (nt_u (nt_u (nt_u (nt_u L (p 26) 0 v2.toInt64) (p 26) 1 ((J (q 3) v2.toNatClampNeg).toInt64)) (p 26) 2 ((J (q 13) v2.toNatClampNeg).toInt64)) (p 26) 3 ((J (q 5) v2.toNatClampNeg).toInt64)) (p 26) 4 ((J (q 6) v3.toNatClampNeg).toInt64)) (p 26) 5 99)) J)) rfl k
      have k := mx_last (q := 6) rfl (show (Int32.ofInt 6).toNatClampNeg = 6 from rfl) k
      have k : nt_rn X _ 8 (123, [(6, .ref (p 26)), (5, .int (J (q 6) v3.toNatClampNeg)), (4, .int (J (q 14) v2.toNatClampNeg)), (0, .ref (p 24)), (1, .ref (q 0)), (2, .int v2), (3, .int v3)], [], me_w (lw M (nt_u (nt_u (nt_u (nt_u (nt_u (nt_u (nt_u L (p 26) 0 v2.toInt64) (p 26) 1 ((J (q 3) v2.toNatClampNeg).toInt64)) (p 26) 2 ((J (q 13) v2.toNatClampNeg).toInt64)) (p 26) 3 ((J (q 5) v2.toNatClampNeg).toInt64)) (p 26) 4 ((J (q 6) v3.toNatClampNeg).toInt64)) (p 26) 5 99) (p 26) 6 (Int64.ofNat 1))) J) _ := k
      have k := ly_revb 3 (c' := (128, [(6, .ref (p 26)), (5, .int (J (q 6) v3.toNatClampNeg)), (4, .int (J (q 14) v2.toNatClampNeg)), (0, .ref (p 24)), (1, .ref (q 0)), (2, .int v2), (3, .int v3)], [.ref (q 0), .int (Int32.ofInt 7), .ref (p 26)], me_w (lw M (nt_u (nt_u (nt_u (nt_u (nt_u (nt_u (nt_u L (p 26) 0 v2.toInt64) (p 26) 1 ((J (q 3) v2.toNatClampNeg).toInt64)) (p 26) 2 ((J (q 13) v2.toNatClampNeg).toInt64)) (p 26) 3 ((J (q 5) v2.toNatClampNeg).toInt64)) (p 26) 4 ((J (q 6) v3.toNatClampNeg).toInt64)) (p 26) 5 99) (p 26) 6 (Int64.ofNat 1))) J)) rfl k
      have k := lz_get (a := (q 0)) (g := 602) (M := me_w (lw M (nt_u (nt_u (nt_u (nt_u (nt_u (nt_u (nt_u L (p 26) 0 v2.toInt64) (p 26) 1 ((J (q 3) v2.toNatClampNeg).toInt64)) (p 26) 2 ((J (q 13) v2.toNatClampNeg).toInt64)) (p 26) 3 ((J (q 5) v2.toNatClampNeg).toInt64)) (p 26) 4 ((J (q 6) v3.toNatClampNeg).toInt64)) (p 26) 5 99) (p 26) 6 (Int64.ofNat 1))) J) (v := .int (J (q 0) 2)) rfl (congrArg Value.int (rfl)) k
      have k := ly_revb 1 (c' := (132, [(6, .ref (p 26)), (5, .int (J (q 6) v3.toNatClampNeg)), (4, .int (J (q 14) v2.toNatClampNeg)), (0, .ref (p 24)), (1, .ref (q 0)), (2, .int v2), (3, .int v3)], [.long ((J (q 0) 2).toInt64), .int (Int32.ofInt 7), .ref (p 26)], me_w (lw M (nt_u (nt_u (nt_u (nt_u (nt_u (nt_u (nt_u L (p 26) 0 v2.toInt64) (p 26) 1 ((J (q 3) v2.toNatClampNeg).toInt64)) (p 26) 2 ((J (q 13) v2.toNatClampNeg).toInt64)) (p 26) 3 ((J (q 5) v2.toNatClampNeg).toInt64)) (p 26) 4 ((J (q 6) v3.toNatClampNeg).toInt64)) (p 26) 5 99) (p 26) 6 (Int64.ofNat 1))) J)) rfl k
      have k := mx_last (q := 7) rfl (show (Int32.ofInt 7).toNatClampNeg = 7 from rfl) k
      have k : nt_rn X _ 8 (133, [(6, .ref (p 26)), (5, .int (J (q 6) v3.toNatClampNeg)), (4, .int (J (q 14) v2.toNatClampNeg)), (0, .ref (p 24)), (1, .ref (q 0)), (2, .int v2), (3, .int v3)], [], me_w (lw M (nt_u (nt_u (nt_u (nt_u (nt_u (nt_u (nt_u (nt_u L (p 26) 0 v2.toInt64) (p 26) 1 ((J (q 3) v2.toNatClampNeg).toInt64)) (p 26) 2 ((J (q 13) v2.toNatClampNeg).toInt64)) (p 26) 3 ((J (q 5) v2.toNatClampNeg).toInt64)) (p 26) 4 ((J (q 6) v3.toNatClampNeg).toInt64)) (p 26) 5 99) (p 26) 6 (Int64.ofNat 1)) (p 26) 7 ((J (q 0) 2).toInt64))) J) _ := k
      have k := ly_revb 3 (c' := (138, [(6, .ref (p 26)), (5, .int (J (q 6) v3.toNatClampNeg)), (4, .int (J (q 14) v2.toNatClampNeg)), (0, .ref (p 24)), (1, .ref (q 0)), (2, .int v2), (3, .int v3)], [.ref (q 0), .int (Int32.ofInt 8), .ref (p 26)], me_w (lw M (nt_u (nt_u (nt_u (nt_u (nt_u (nt_u (nt_u (nt_u L (p 26) 0 v2.toInt64) (p 26) 1 ((J (q 3) v2.toNatClampNeg).toInt64)) (p 26) 2 ((J (q 13) v2.toNatClampNeg).toInt64)) (p 26) 3 ((J (q 5) v2.toNatClampNeg).toInt64)) (p 26) 4 ((J (q 6) v3.toNatClampNeg).toInt64)) (p 26) 5 99) (p 26) 6 (Int64.ofNat 1)) (p 26) 7 ((J (q 0) 2).toInt64))) J)) rfl k
      have k := lz_get (a := (q 0)) (g := 603) (M := me_w (lw M (nt_u (nt_u (nt_u (nt_u (nt_u (nt_u (nt_u (nt_u L (p 26) 0 v2.toInt64) (p 26) 1 ((J (q 3) v2.toNatClampNeg).toInt64)) (p 26) 2 ((J (q 13) v2.toNatClampNeg).toInt64)) (p 26) 3 ((J (q 5) v2.toNatClampNeg).toInt64)) (p 26) 4 ((J (q 6) v3.toNatClampNeg).toInt64)) (p 26) 5 99) (p 26) 6 (Int64.ofNat 1)) (p 26) 7 ((J (q 0) 2).toInt64))) J) (v := .int (J (q 0) 3)) rfl (congrArg Value.int (rfl)) k
      have k := ly_revb 1 (c' := (142, [(6, .ref (p 26)), (5, .int (J (q 6) v3.toNatClampNeg)), (4, .int (J (q 14) v2.toNatClampNeg)), (0, .ref (p 24)), (1, .ref (q 0)), (2, .int v2), (3, .int v3)], [.long ((J (q 0) 3).toInt64), .int (Int32.ofInt 8), .ref (p 26)], me_w (lw M (nt_u (nt_u (nt_u (nt_u (nt_u (nt_u (nt_u (nt_u L (p 26) 0 v2.toInt64) (p 26) 1 ((J (q 3) v2.toNatClampNeg).toInt64)) (p 26) 2 ((J (q 13) v2.toNatClampNeg).toInt64)) (p 26) 3 ((J (q 5) v2.toNatClampNeg).toInt64)) (p 26) 4 ((J (q 6) v3.toNatClampNeg).toInt64)) (p 26) 5 99) (p 26) 6 (Int64.ofNat 1)) (p 26) 7 ((J (q 0) 2).toInt64))) J)) rfl k
      have k := mx_last (q := 8) rfl (show (Int32.ofInt 8).toNatClampNeg = 8 from rfl) k
      have k : nt_rn X _ 8 (143, [(6, .ref (p 26)), (5, .int (J (q 6) v3.toNatClampNeg)), (4, .int (J (q 14) v2.toNatClampNeg)), (0, .ref (p 24)), (1, .ref (q 0)), (2, .int v2), (3, .int v3)], [], me_w (lw M (nt_u (nt_u (nt_u (nt_u (nt_u (nt_u (nt_u (nt_u (nt_u L (p 26) 0 v2.toInt64) (p 26) 1 ((J (q 3) v2.toNatClampNeg).toInt64)) (p 26) 2 ((J (q 13) v2.toNatClampNeg).toInt64)) (p 26) 3 ((J (q 5) v2.toNatClampNeg).toInt64)) (p 26) 4 ((J (q 6) v3.toNatClampNeg).toInt64)) (p 26) 5 99) (p 26) 6 (Int64.ofNat 1)) (p 26) 7 ((J (q 0) 2).toInt64)) (p 26) 8 ((J (q 0) 3).toInt64))) J) _ := k
      have k := ly_revb 3 (c' := (148, [(6, .ref (p 26)), (5, .int (J (q 6) v3.toNatClampNeg)), (4, .int (J (q 14) v2.toNatClampNeg)), (0, .ref (p 24)), (1, .ref (q 0)), (2, .int v2), (3, .int v3)], [.ref (q 0), .int (Int32.ofInt 9), .ref (p 26)], me_w (lw M (nt_u (nt_u (nt_u (nt_u (nt_u (nt_u (nt_u (nt_u (nt_u L (p 26) 0 v2.toInt64) (p 26) 1 ((J (q 3) v2.toNatClampNeg).toInt64)) (p 26) 2 ((J (q 13) v2.toNatClampNeg).toInt64)) (p 26) 3 ((J (q 5) v2.toNatClampNeg).toInt64)) (p 26) 4 ((J (q 6) v3.toNatClampNeg).toInt64)) (p 26) 5 99) (p 26) 6 (Int64.ofNat 1)) (p 26) 7 ((J (q 0) 2).toInt64)) (p 26) 8 ((J (q 0) 3).toInt64))) J)) rfl k
      have k := lz_get (a := (q 0)) (g := 600) (M := me_w (lw M (nt_u (nt_u (nt_u (nt_u (nt_u (nt_u (nt_u (nt_u (nt_u L (p 26) 0 v2.toInt64) (p 26) 1 ((J (q 3) v2.toNatClampNeg).toInt64)) (p 26) 2 ((J (q 13) v2.toNatClampNeg).toInt64)) (p 26) 3 ((J (q 5) v2.toNatClampNeg).toInt64)) (p 26) 4 ((J (q 6) v3.toNatClampNeg).toInt64)) (p 26) 5 99) (p 26) 6 (Int64.ofNat 1)) (p 26) 7 ((J (q 0) 2).toInt64)) (p 26) 8 ((J (q 0) 3).toInt64))) J) (v := .ref (q 1)) rfl (nt_gfR rfl (hq.1 (0, 0, 1) (by decide))) k
      have k := ly_revb 1 (c' := (152, [(6, .ref (p 26)), (5, .int (J (q 6) v3.toNatClampNeg)), (4, .int (J (q 14) v2.toNatClampNeg)), (0, .ref (p 24)), (1, .ref (q 0)), (2, .int v2), (3, .int v3)], [.int v3, .ref (q 1), .int (Int32.ofInt 9), .ref (p 26)], me_w (lw M (nt_u (nt_u (nt_u (nt_u (nt_u (nt_u (nt_u (nt_u (nt_u L (p 26) 0 v2.toInt64) (p 26) 1 ((J (q 3) v2.toNatClampNeg).toInt64)) (p 26) 2 ((J (q 13) v2.toNatClampNeg).toInt64)) (p 26) 3 ((J (q 5) v2.toNatClampNeg).toInt64)) (p 26) 4 ((J (q 6) v3.toNatClampNeg).toInt64)) (p 26) 5 99) (p 26) 6 (Int64.ofNat 1)) (p 26) 7 ((J (q 0) 2).toInt64)) (p 26) 8 ((J (q 0) 3).toInt64))) J)) rfl k
      obtain ⟨d1, o1, ed, kc, k⟩ := lz_c (g := 89) (q := 1) (vs := [.ref (q 1), .int v3]) (rest := [.int (Int32.ofInt 9), .ref (p 26)]) rfl rfl (by decide) (Or.inr (Or.inl ⟨_, rfl, rfl⟩)) rfl k
      have e1 := xt89 (xs_lq hq) kc
      subst e1
      have k : nt_rn X _ 8 (155, [(6, .ref (p 26)), (5, .int (J (q 6) v3.toNatClampNeg)), (4, .int (J (q 14) v2.toNatClampNeg)), (0, .ref (p 24)), (1, .ref (q 0)), (2, .int v2), (3, .int v3)], [.int (x89 q v3 J), .int (Int32.ofInt 9), .ref (p 26)], me_w (lw M (nt_u (nt_u (nt_u (nt_u (nt_u (nt_u (nt_u (nt_u (nt_u L (p 26) 0 v2.toInt64) (p 26) 1 ((J (q 3) v2.toNatClampNeg).toInt64)) (p 26) 2 ((J (q 13) v2.toNatClampNeg).toInt64)) (p 26) 3 ((J (q 5) v2.toNatClampNeg).toInt64)) (p 26) 4 ((J (q 6) v3.toNatClampNeg).toInt64)) (p 26) 5 99) (p 26) 6 (Int64.ofNat 1)) (p 26) 7 ((J (q 0) 2).toInt64)) (p 26) 8 ((J (q 0) 3).toInt64))) J) _ := k
      have k := ly_revb 1 (c' := (156, [(6, .ref (p 26)), (5, .int (J (q 6) v3.toNatClampNeg)), (4, .int (J (q 14) v2.toNatClampNeg)), (0, .ref (p 24)), (1, .ref (q 0)), (2, .int v2), (3, .int v3)], [.long ((x89 q v3 J).toInt64), .int (Int32.ofInt 9), .ref (p 26)], me_w (lw M (nt_u (nt_u (nt_u (nt_u (nt_u (nt_u (nt_u (nt_u (nt_u L (p 26) 0 v2.toInt64) (p 26) 1 ((J (q 3) v2.toNatClampNeg).toInt64)) (p 26) 2 ((J (q 13) v2.toNatClampNeg).toInt64)) (p 26) 3 ((J (q 5) v2.toNatClampNeg).toInt64)) (p 26) 4 ((J (q 6) v3.toNatClampNeg).toInt64)) (p 26) 5 99) (p 26) 6 (Int64.ofNat 1)) (p 26) 7 ((J (q 0) 2).toInt64)) (p 26) 8 ((J (q 0) 3).toInt64))) J)) rfl k
      have k := mx_last (q := 9) rfl (show (Int32.ofInt 9).toNatClampNeg = 9 from rfl) k
      have k : nt_rn X _ 8 (157, [(6, .ref (p 26)), (5, .int (J (q 6) v3.toNatClampNeg)), (4, .int (J (q 14) v2.toNatClampNeg)), (0, .ref (p 24)), (1, .ref (q 0)), (2, .int v2), (3, .int v3)], [], me_w (lw M (nt_u (nt_u (nt_u (nt_u (nt_u (nt_u (nt_u (nt_u (nt_u (nt_u L (p 26) 0 v2.toInt64) (p 26) 1 ((J (q 3) v2.toNatClampNeg).toInt64)) (p 26) 2 ((J (q 13) v2.toNatClampNeg).toInt64)) (p 26) 3 ((J (q 5) v2.toNatClampNeg).toInt64)) (p 26) 4 ((J (q 6) v3.toNatClampNeg).toInt64)) (p 26) 5 99) (p 26) 6 (Int64.ofNat 1)) (p 26) 7 ((J (q 0) 2).toInt64)) (p 26) 8 ((J (q 0) 3).toInt64)) (p 26) 9 ((x89 q v3 J).toInt64))) J) _ := k
      have k := lz_rv rfl rfl k
      rw [k, x8, if_pos h86, if_pos h114]
    · rw [if_neg h114] at k
      have k := ly_revb 1 (c' := (122, [(6, .ref (p 26)), (5, .int (J (q 6) v3.toNatClampNeg)), (4, .int (J (q 14) v2.toNatClampNeg)), (0, .ref (p 24)), (1, .ref (q 0)), (2, .int v2), (3, .int v3)], [.long (Int64.ofNat 0), .int (Int32.ofInt 6), .ref (p 26)], me_w (lw M (nt_u (nt_u (nt_u (nt_u (nt_u (nt_u L (p 26) 0 v2.toInt64) (p 26) 1 ((J (q 3) v2.toNatClampNeg).toInt64)) (p 26) 2 ((J (q 13) v2.toNatClampNeg).toInt64)) (p 26) 3 ((J (q 5) v2.toNatClampNeg).toInt64)) (p 26) 4 ((J (q 6) v3.toNatClampNeg).toInt64)) (p 26) 5 99)) J)) rfl k
      have k := mx_last (q := 6) rfl (show (Int32.ofInt 6).toNatClampNeg = 6 from rfl) k
      have k : nt_rn X _ 8 (123, [(6, .ref (p 26)), (5, .int (J (q 6) v3.toNatClampNeg)), (4, .int (J (q 14) v2.toNatClampNeg)), (0, .ref (p 24)), (1, .ref (q 0)), (2, .int v2), (3, .int v3)], [], me_w (lw M (nt_u (nt_u (nt_u (nt_u (nt_u (nt_u (nt_u L (p 26) 0 v2.toInt64) (p 26) 1 ((J (q 3) v2.toNatClampNeg).toInt64)) (p 26) 2 ((J (q 13) v2.toNatClampNeg).toInt64)) (p 26) 3 ((J (q 5) v2.toNatClampNeg).toInt64)) (p 26) 4 ((J (q 6) v3.toNatClampNeg).toInt64)) (p 26) 5 99) (p 26) 6 (Int64.ofNat 0))) J) _ := k
      have k := ly_revb 3 (c' := (128, [(6, .ref (p 26)), (5, .int (J (q 6) v3.toNatClampNeg)), (4, .int (J (q 14) v2.toNatClampNeg)), (0, .ref (p 24)), (1, .ref (q 0)), (2, .int v2), (3, .int v3)], [.ref (q 0), .int (Int32.ofInt 7), .ref (p 26)], me_w (lw M (nt_u (nt_u (nt_u (nt_u (nt_u (nt_u (nt_u L (p 26) 0 v2.toInt64) (p 26) 1 ((J (q 3) v2.toNatClampNeg).toInt64)) (p 26) 2 ((J (q 13) v2.toNatClampNeg).toInt64)) (p 26) 3 ((J (q 5) v2.toNatClampNeg).toInt64)) (p 26) 4 ((J (q 6) v3.toNatClampNeg).toInt64)) (p 26) 5 99) (p 26) 6 (Int64.ofNat 0))) J)) rfl k
      have k := lz_get (a := (q 0)) (g := 602) (M := me_w (lw M (nt_u (nt_u (nt_u (nt_u (nt_u (nt_u (nt_u L (p 26) 0 v2.toInt64) (p 26) 1 ((J (q 3) v2.toNatClampNeg).toInt64)) (p 26) 2 ((J (q 13) v2.toNatClampNeg).toInt64)) (p 26) 3 ((J (q 5) v2.toNatClampNeg).toInt64)) (p 26) 4 ((J (q 6) v3.toNatClampNeg).toInt64)) (p 26) 5 99) (p 26) 6 (Int64.ofNat 0))) J) (v := .int (J (q 0) 2)) rfl (congrArg Value.int (rfl)) k
      have k := ly_revb 1 (c' := (132, [(6, .ref (p 26)), (5, .int (J (q 6) v3.toNatClampNeg)), (4, .int (J (q 14) v2.toNatClampNeg)), (0, .ref (p 24)), (1, .ref (q 0)), (2, .int v2), (3, .int v3)], [.long ((J (q 0) 2).toInt64), .int (Int32.ofInt 7), .ref (p 26)], me_w (lw M (nt_u (nt_u (nt_u (nt_u (nt_u (nt_u (nt_u L (p 26) 0 v2.toInt64) (p 26) 1 ((J (q 3) v2.toNatClampNeg).toInt64)) (p 26) 2 ((J (q 13) v2.toNatClampNeg).toInt64)) (p 26) 3 ((J (q 5) v2.toNatClampNeg).toInt64)) (p 26) 4 ((J (q 6) v3.toNatClampNeg).toInt64)) (p 26) 5 99) (p 26) 6 (Int64.ofNat 0))) J)) rfl k
      have k := mx_last (q := 7) rfl (show (Int32.ofInt 7).toNatClampNeg = 7 from rfl) k
      have k : nt_rn X _ 8 (133, [(6, .ref (p 26)), (5, .int (J (q 6) v3.toNatClampNeg)), (4, .int (J (q 14) v2.toNatClampNeg)), (0, .ref (p 24)), (1, .ref (q 0)), (2, .int v2), (3, .int v3)], [], me_w (lw M (nt_u (nt_u (nt_u (nt_u (nt_u (nt_u (nt_u (nt_u L (p 26) 0 v2.toInt64) (p 26) 1 ((J (q 3) v2.toNatClampNeg).toInt64)) (p 26) 2 ((J (q 13) v2.toNatClampNeg).toInt64)) (p 26) 3 ((J (q 5) v2.toNatClampNeg).toInt64)) (p 26) 4 ((J (q 6) v3.toNatClampNeg).toInt64)) (p 26) 5 99) (p 26) 6 (Int64.ofNat 0)) (p 26) 7 ((J (q 0) 2).toInt64))) J) _ := k
      have k := ly_revb 3 (c' := (138, [(6, .ref (p 26)), (5, .int (J (q 6) v3.toNatClampNeg)), (4, .int (J (q 14) v2.toNatClampNeg)), (0, .ref (p 24)), (1, .ref (q 0)), (2, .int v2), (3, .int v3)], [.ref (q 0), .int (Int32.ofInt 8), .ref (p 26)], me_w (lw M (nt_u (nt_u (nt_u (nt_u (nt_u (nt_u (nt_u (nt_u L (p 26) 0 v2.toInt64) (p 26) 1 ((J (q 3) v2.toNatClampNeg).toInt64)) (p 26) 2 ((J (q 13) v2.toNatClampNeg).toInt64)) (p 26) 3 ((J (q 5) v2.toNatClampNeg).toInt64)) (p 26) 4 ((J (q 6) v3.toNatClampNeg).toInt64)) (p 26) 5 99) (p 26) 6 (Int64.ofNat 0)) (p 26) 7 ((J (q 0) 2).toInt64))) J)) rfl k
      have k := lz_get (a := (q 0)) (g := 603) (M := me_w (lw M (nt_u (nt_u (nt_u (nt_u (nt_u (nt_u (nt_u (nt_u L (p 26) 0 v2.toInt64) (p 26) 1 ((J (q 3) v2.toNatClampNeg).toInt64)) (p 26) 2 ((J (q 13) v2.toNatClampNeg).toInt64)) (p 26) 3 ((J (q 5) v2.toNatClampNeg).toInt64)) (p 26) 4 ((J (q 6) v3.toNatClampNeg).toInt64)) (p 26) 5 99) (p 26) 6 (Int64.ofNat 0)) (p 26) 7 ((J (q 0) 2).toInt64))) J) (v := .int (J (q 0) 3)) rfl (congrArg Value.int (rfl)) k
      have k := ly_revb 1 (c' := (142, [(6, .ref (p 26)), (5, .int (J (q 6) v3.toNatClampNeg)), (4, .int (J (q 14) v2.toNatClampNeg)), (0, .ref (p 24)), (1, .ref (q 0)), (2, .int v2), (3, .int v3)], [.long ((J (q 0) 3).toInt64), .int (Int32.ofInt 8), .ref (p 26)], me_w (lw M (nt_u (nt_u (nt_u (nt_u (nt_u (nt_u (nt_u (nt_u L (p 26) 0 v2.toInt64) (p 26) 1 ((J (q 3) v2.toNatClampNeg).toInt64)) (p 26) 2 ((J (q 13) v2.toNatClampNeg).toInt64)) (p 26) 3 ((J (q 5) v2.toNatClampNeg).toInt64)) (p 26) 4 ((J (q 6) v3.toNatClampNeg).toInt64)) (p 26) 5 99) (p 26) 6 (Int64.ofNat 0)) (p 26) 7 ((J (q 0) 2).toInt64))) J)) rfl k
      have k := mx_last (q := 8) rfl (show (Int32.ofInt 8).toNatClampNeg = 8 from rfl) k
      have k : nt_rn X _ 8 (143, [(6, .ref (p 26)), (5, .int (J (q 6) v3.toNatClampNeg)), (4, .int (J (q 14) v2.toNatClampNeg)), (0, .ref (p 24)), (1, .ref (q 0)), (2, .int v2), (3, .int v3)], [], me_w (lw M (nt_u (nt_u (nt_u (nt_u (nt_u (nt_u (nt_u (nt_u (nt_u L (p 26) 0 v2.toInt64) (p 26) 1 ((J (q 3) v2.toNatClampNeg).toInt64)) (p 26) 2 ((J (q 13) v2.toNatClampNeg).toInt64)) (p 26) 3 ((J (q 5) v2.toNatClampNeg).toInt64)) (p 26) 4 ((J (q 6) v3.toNatClampNeg).toInt64)) (p 26) 5 99) (p 26) 6 (Int64.ofNat 0)) (p 26) 7 ((J (q 0) 2).toInt64)) (p 26) 8 ((J (q 0) 3).toInt64))) J) _ := k
      have k := ly_revb 3 (c' := (148, [(6, .ref (p 26)), (5, .int (J (q 6) v3.toNatClampNeg)), (4, .int (J (q 14) v2.toNatClampNeg)), (0, .ref (p 24)), (1, .ref (q 0)), (2, .int v2), (3, .int v3)], [.ref (q 0), .int (Int32.ofInt 9), .ref (p 26)], me_w (lw M (nt_u (nt_u (nt_u (nt_u (nt_u (nt_u (nt_u (nt_u (nt_u L (p 26) 0 v2.toInt64) (p 26) 1 ((J (q 3) v2.toNatClampNeg).toInt64)) (p 26) 2 ((J (q 13) v2.toNatClampNeg).toInt64)) (p 26) 3 ((J (q 5) v2.toNatClampNeg).toInt64)) (p 26) 4 ((J (q 6) v3.toNatClampNeg).toInt64)) (p 26) 5 99) (p 26) 6 (Int64.ofNat 0)) (p 26) 7 ((J (q 0) 2).toInt64)) (p 26) 8 ((J (q 0) 3).toInt64))) J)) rfl k
      have k := lz_get (a := (q 0)) (g := 600) (M := me_w (lw M (nt_u (nt_u (nt_u (nt_u (nt_u (nt_u (nt_u (nt_u (nt_u L (p 26) 0 v2.toInt64) (p 26) 1 ((J (q 3) v2.toNatClampNeg).toInt64)) (p 26) 2 ((J (q 13) v2.toNatClampNeg).toInt64)) (p 26) 3 ((J (q 5) v2.toNatClampNeg).toInt64)) (p 26) 4 ((J (q 6) v3.toNatClampNeg).toInt64)) (p 26) 5 99) (p 26) 6 (Int64.ofNat 0)) (p 26) 7 ((J (q 0) 2).toInt64)) (p 26) 8 ((J (q 0) 3).toInt64))) J) (v := .ref (q 1)) rfl (nt_gfR rfl (hq.1 (0, 0, 1) (by decide))) k
      have k := ly_revb 1 (c' := (152, [(6, .ref (p 26)), (5, .int (J (q 6) v3.toNatClampNeg)), (4, .int (J (q 14) v2.toNatClampNeg)), (0, .ref (p 24)), (1, .ref (q 0)), (2, .int v2), (3, .int v3)], [.int v3, .ref (q 1), .int (Int32.ofInt 9), .ref (p 26)], me_w (lw M (nt_u (nt_u (nt_u (nt_u (nt_u (nt_u (nt_u (nt_u (nt_u L (p 26) 0 v2.toInt64) (p 26) 1 ((J (q 3) v2.toNatClampNeg).toInt64)) (p 26) 2 ((J (q 13) v2.toNatClampNeg).toInt64)) (p 26) 3 ((J (q 5) v2.toNatClampNeg).toInt64)) (p 26) 4 ((J (q 6) v3.toNatClampNeg).toInt64)) (p 26) 5 99) (p 26) 6 (Int64.ofNat 0)) (p 26) 7 ((J (q 0) 2).toInt64)) (p 26) 8 ((J (q 0) 3).toInt64))) J)) rfl k
      obtain ⟨d1, o1, ed, kc, k⟩ := lz_c (g := 89) (q := 1) (vs := [.ref (q 1), .int v3]) (rest := [.int (Int32.ofInt 9), .ref (p 26)]) rfl rfl (by decide) (Or.inr (Or.inl ⟨_, rfl, rfl⟩)) rfl k
      have e1 := xt89 (xs_lq hq) kc
      subst e1
      have k : nt_rn X _ 8 (155, [(6, .ref (p 26)), (5, .int (J (q 6) v3.toNatClampNeg)), (4, .int (J (q 14) v2.toNatClampNeg)), (0, .ref (p 24)), (1, .ref (q 0)), (2, .int v2), (3, .int v3)], [.int (x89 q v3 J), .int (Int32.ofInt 9), .ref (p 26)], me_w (lw M (nt_u (nt_u (nt_u (nt_u (nt_u (nt_u (nt_u (nt_u (nt_u L (p 26) 0 v2.toInt64) (p 26) 1 ((J (q 3) v2.toNatClampNeg).toInt64)) (p 26) 2 ((J (q 13) v2.toNatClampNeg).toInt64)) (p 26) 3 ((J (q 5) v2.toNatClampNeg).toInt64)) (p 26) 4 ((J (q 6) v3.toNatClampNeg).toInt64)) (p 26) 5 99) (p 26) 6 (Int64.ofNat 0)) (p 26) 7 ((J (q 0) 2).toInt64)) (p 26) 8 ((J (q 0) 3).toInt64))) J) _ := k
      have k := ly_revb 1 (c' := (156, [(6, .ref (p 26)), (5, .int (J (q 6) v3.toNatClampNeg)), (4, .int (J (q 14) v2.toNatClampNeg)), (0, .ref (p 24)), (1, .ref (q 0)), (2, .int v2), (3, .int v3)], [.long ((x89 q v3 J).toInt64), .int (Int32.ofInt 9), .ref (p 26)], me_w (lw M (nt_u (nt_u (nt_u (nt_u (nt_u (nt_u (nt_u (nt_u (nt_u L (p 26) 0 v2.toInt64) (p 26) 1 ((J (q 3) v2.toNatClampNeg).toInt64)) (p 26) 2 ((J (q 13) v2.toNatClampNeg).toInt64)) (p 26) 3 ((J (q 5) v2.toNatClampNeg).toInt64)) (p 26) 4 ((J (q 6) v3.toNatClampNeg).toInt64)) (p 26) 5 99) (p 26) 6 (Int64.ofNat 0)) (p 26) 7 ((J (q 0) 2).toInt64)) (p 26) 8 ((J (q 0) 3).toInt64))) J)) rfl k
      have k := mx_last (q := 9) rfl (show (Int32.ofInt 9).toNatClampNeg = 9 from rfl) k
      have k : nt_rn X _ 8 (157, [(6, .ref (p 26)), (5, .int (J (q 6) v3.toNatClampNeg)), (4, .int (J (q 14) v2.toNatClampNeg)), (0, .ref (p 24)), (1, .ref (q 0)), (2, .int v2), (3, .int v3)], [], me_w (lw M (nt_u (nt_u (nt_u (nt_u (nt_u (nt_u (nt_u (nt_u (nt_u (nt_u L (p 26) 0 v2.toInt64) (p 26) 1 ((J (q 3) v2.toNatClampNeg).toInt64)) (p 26) 2 ((J (q 13) v2.toNatClampNeg).toInt64)) (p 26) 3 ((J (q 5) v2.toNatClampNeg).toInt64)) (p 26) 4 ((J (q 6) v3.toNatClampNeg).toInt64)) (p 26) 5 99) (p 26) 6 (Int64.ofNat 0)) (p 26) 7 ((J (q 0) 2).toInt64)) (p 26) 8 ((J (q 0) 3).toInt64)) (p 26) 9 ((x89 q v3 J).toInt64))) J) _ := k
      have k := lz_rv rfl rfl k
      rw [k, x8, if_pos h86, if_neg h114]
  · rw [if_neg h86] at k
    have k := ly_revb 2 (c' := (98, [(6, .ref (p 26)), (5, .int (J (q 6) v3.toNatClampNeg)), (4, .int (J (q 14) v2.toNatClampNeg)), (0, .ref (p 24)), (1, .ref (q 0)), (2, .int v2), (3, .int v3)], [.long ((J (q 14) v2.toNatClampNeg).toInt64), .int (Int32.ofInt 5), .ref (p 26)], me_w (lw M (nt_u (nt_u (nt_u (nt_u (nt_u L (p 26) 0 v2.toInt64) (p 26) 1 ((J (q 3) v2.toNatClampNeg).toInt64)) (p 26) 2 ((J (q 13) v2.toNatClampNeg).toInt64)) (p 26) 3 ((J (q 5) v2.toNatClampNeg).toInt64)) (p 26) 4 ((J (q 6) v3.toNatClampNeg).toInt64))) J)) rfl k
    have k := mx_last (q := 5) rfl (show (Int32.ofInt 5).toNatClampNeg = 5 from rfl) k
    have k : nt_rn X _ 8 (99, [(6, .ref (p 26)), (5, .int (J (q 6) v3.toNatClampNeg)), (4, .int (J (q 14) v2.toNatClampNeg)), (0, .ref (p 24)), (1, .ref (q 0)), (2, .int v2), (3, .int v3)], [], me_w (lw M (nt_u (nt_u (nt_u (nt_u (nt_u (nt_u L (p 26) 0 v2.toInt64) (p 26) 1 ((J (q 3) v2.toNatClampNeg).toInt64)) (p 26) 2 ((J (q 13) v2.toNatClampNeg).toInt64)) (p 26) 3 ((J (q 5) v2.toNatClampNeg).toInt64)) (p 26) 4 ((J (q 6) v3.toNatClampNeg).toInt64)) (p 26) 5 ((J (q 14) v2.toNatClampNeg).toInt64))) J) _ := k
    have k := ly_revb 3 (c' := (104, [(6, .ref (p 26)), (5, .int (J (q 6) v3.toNatClampNeg)), (4, .int (J (q 14) v2.toNatClampNeg)), (0, .ref (p 24)), (1, .ref (q 0)), (2, .int v2), (3, .int v3)], [.ref (q 0), .int (Int32.ofInt 6), .ref (p 26)], me_w (lw M (nt_u (nt_u (nt_u (nt_u (nt_u (nt_u L (p 26) 0 v2.toInt64) (p 26) 1 ((J (q 3) v2.toNatClampNeg).toInt64)) (p 26) 2 ((J (q 13) v2.toNatClampNeg).toInt64)) (p 26) 3 ((J (q 5) v2.toNatClampNeg).toInt64)) (p 26) 4 ((J (q 6) v3.toNatClampNeg).toInt64)) (p 26) 5 ((J (q 14) v2.toNatClampNeg).toInt64))) J)) rfl k
    have k := lz_get (a := (q 0)) (g := 600) (M := me_w (lw M (nt_u (nt_u (nt_u (nt_u (nt_u (nt_u L (p 26) 0 v2.toInt64) (p 26) 1 ((J (q 3) v2.toNatClampNeg).toInt64)) (p 26) 2 ((J (q 13) v2.toNatClampNeg).toInt64)) (p 26) 3 ((J (q 5) v2.toNatClampNeg).toInt64)) (p 26) 4 ((J (q 6) v3.toNatClampNeg).toInt64)) (p 26) 5 ((J (q 14) v2.toNatClampNeg).toInt64))) J) (v := .ref (q 1)) rfl (nt_gfR rfl (hq.1 (0, 0, 1) (by decide))) k
    have k := lz_get (a := (q 1)) (g := 808) (M := me_w (lw M (nt_u (nt_u (nt_u (nt_u (nt_u (nt_u L (p 26) 0 v2.toInt64) (p 26) 1 ((J (q 3) v2.toNatClampNeg).toInt64)) (p 26) 2 ((J (q 13) v2.toNatClampNeg).toInt64)) (p 26) 3 ((J (q 5) v2.toNatClampNeg).toInt64)) (p 26) 4 ((J (q 6) v3.toNatClampNeg).toInt64)) (p 26) 5 ((J (q 14) v2.toNatClampNeg).toInt64))) J) (v := .ref (q 5)) rfl (nt_gfR rfl (hq.1 (1, 8, 5) (by decide))) k
    have k := ly_revb 1 (c' := (111, [(6, .ref (p 26)), (5, .int (J (q 6) v3.toNatClampNeg)), (4, .int (J (q 14) v2.toNatClampNeg)), (0, .ref (p 24)), (1, .ref (q 0)), (2, .int v2), (3, .int v3)], [.int v2, .ref (q 5), .int (Int32.ofInt 6), .ref (p 26)], me_w (lw M (nt_u (nt_u (nt_u (nt_u (nt_u (nt_u L (p 26) 0 v2.toInt64) (p 26) 1 ((J (q 3) v2.toNatClampNeg).toInt64)) (p 26) 2 ((J (q 13) v2.toNatClampNeg).toInt64)) (p 26) 3 ((J (q 5) v2.toNatClampNeg).toInt64)) (p 26) 4 ((J (q 6) v3.toNatClampNeg).toInt64)) (p 26) 5 ((J (q 14) v2.toNatClampNeg).toInt64))) J)) rfl k
    have k := mx_iald (v := J (q 5) v2.toNatClampNeg) rfl (hq.2.2.1 5 (by omega)) (rfl) k
    have k := ly_revb 2 (c' := (if (J (q 5) v2.toNatClampNeg) = (J (q 6) v3.toNatClampNeg) then 117 else 121, [(6, .ref (p 26)), (5, .int (J (q 6) v3.toNatClampNeg)), (4, .int (J (q 14) v2.toNatClampNeg)), (0, .ref (p 24)), (1, .ref (q 0)), (2, .int v2), (3, .int v3)], [.int (Int32.ofInt 6), .ref (p 26)], me_w (lw M (nt_u (nt_u (nt_u (nt_u (nt_u (nt_u L (p 26) 0 v2.toInt64) (p 26) 1 ((J (q 3) v2.toNatClampNeg).toInt64)) (p 26) 2 ((J (q 13) v2.toNatClampNeg).toInt64)) (p 26) 3 ((J (q 5) v2.toNatClampNeg).toInt64)) (p 26) 4 ((J (q 6) v3.toNatClampNeg).toInt64)) (p 26) 5 ((J (q 14) v2.toNatClampNeg).toInt64))) J)) rfl k
    by_cases h114 : (J (q 5) v2.toNatClampNeg) = (J (q 6) v3.toNatClampNeg)
    · rw [if_pos h114] at k
      have k := ly_revb 2 (c' := (122, [(6, .ref (p 26)), (5, .int (J (q 6) v3.toNatClampNeg)), (4, .int (J (q 14) v2.toNatClampNeg)), (0, .ref (p 24)), (1, .ref (q 0)), (2, .int v2), (3, .int v3)], [.long (Int64.ofNat 1), .int (Int32.ofInt 6), .ref (p 26)], me_w (lw M (nt_u (nt_u (nt_u (nt_u (nt_u (nt_u L (p 26) 0 v2.toInt64) (p 26) 1 ((J (q 3) v2.toNatClampNeg).toInt64)) (p 26) 2 ((J (q 13) v2.toNatClampNeg).toInt64)) (p 26) 3 ((J (q 5) v2.toNatClampNeg).toInt64)) (p 26) 4 ((J (q 6) v3.toNatClampNeg).toInt64)) (p 26) 5 ((J (q 14) v2.toNatClampNeg).toInt64))) J)) rfl k
      have k := mx_last (q := 6) rfl (show (Int32.ofInt 6).toNatClampNeg = 6 from rfl) k
      have k : nt_rn X _ 8 (123, [(6, .ref (p 26)), (5, .int (J (q 6) v3.toNatClampNeg)), (4, .int (J (q 14) v2.toNatClampNeg)), (0, .ref (p 24)), (1, .ref (q 0)), (2, .int v2), (3, .int v3)], [], me_w (lw M (nt_u (nt_u (nt_u (nt_u (nt_u (nt_u (nt_u L (p 26) 0 v2.toInt64) (p 26) 1 ((J (q 3) v2.toNatClampNeg).toInt64)) (p 26) 2 ((J (q 13) v2.toNatClampNeg).toInt64)) (p 26) 3 ((J (q 5) v2.toNatClampNeg).toInt64)) (p 26) 4 ((J (q 6) v3.toNatClampNeg).toInt64)) (p 26) 5 ((J (q 14) v2.toNatClampNeg).toInt64)) (p 26) 6 (Int64.ofNat 1))) J) _ := k
      have k := ly_revb 3 (c' := (128, [(6, .ref (p 26)), (5, .int (J (q 6) v3.toNatClampNeg)), (4, .int (J (q 14) v2.toNatClampNeg)), (0, .ref (p 24)), (1, .ref (q 0)), (2, .int v2), (3, .int v3)], [.ref (q 0), .int (Int32.ofInt 7), .ref (p 26)], me_w (lw M (nt_u (nt_u (nt_u (nt_u (nt_u (nt_u (nt_u L (p 26) 0 v2.toInt64) (p 26) 1 ((J (q 3) v2.toNatClampNeg).toInt64)) (p 26) 2 ((J (q 13) v2.toNatClampNeg).toInt64)) (p 26) 3 ((J (q 5) v2.toNatClampNeg).toInt64)) (p 26) 4 ((J (q 6) v3.toNatClampNeg).toInt64)) (p 26) 5 ((J (q 14) v2.toNatClampNeg).toInt64)) (p 26) 6 (Int64.ofNat 1))) J)) rfl k
      have k := lz_get (a := (q 0)) (g := 602) (M := me_w (lw M (nt_u (nt_u (nt_u (nt_u (nt_u (nt_u (nt_u L (p 26) 0 v2.toInt64) (p 26) 1 ((J (q 3) v2.toNatClampNeg).toInt64)) (p 26) 2 ((J (q 13) v2.toNatClampNeg).toInt64)) (p 26) 3 ((J (q 5) v2.toNatClampNeg).toInt64)) (p 26) 4 ((J (q 6) v3.toNatClampNeg).toInt64)) (p 26) 5 ((J (q 14) v2.toNatClampNeg).toInt64)) (p 26) 6 (Int64.ofNat 1))) J) (v := .int (J (q 0) 2)) rfl (congrArg Value.int (rfl)) k
      have k := ly_revb 1 (c' := (132, [(6, .ref (p 26)), (5, .int (J (q 6) v3.toNatClampNeg)), (4, .int (J (q 14) v2.toNatClampNeg)), (0, .ref (p 24)), (1, .ref (q 0)), (2, .int v2), (3, .int v3)], [.long ((J (q 0) 2).toInt64), .int (Int32.ofInt 7), .ref (p 26)], me_w (lw M (nt_u (nt_u (nt_u (nt_u (nt_u (nt_u (nt_u L (p 26) 0 v2.toInt64) (p 26) 1 ((J (q 3) v2.toNatClampNeg).toInt64)) (p 26) 2 ((J (q 13) v2.toNatClampNeg).toInt64)) (p 26) 3 ((J (q 5) v2.toNatClampNeg).toInt64)) (p 26) 4 ((J (q 6) v3.toNatClampNeg).toInt64)) (p 26) 5 ((J (q 14) v2.toNatClampNeg).toInt64)) (p 26) 6 (Int64.ofNat 1))) J)) rfl k
      have k := mx_last (q := 7) rfl (show (Int32.ofInt 7).toNatClampNeg = 7 from rfl) k
      have k : nt_rn X _ 8 (133, [(6, .ref (p 26)), (5, .int (J (q 6) v3.toNatClampNeg)), (4, .int (J (q 14) v2.toNatClampNeg)), (0, .ref (p 24)), (1, .ref (q 0)), (2, .int v2), (3, .int v3)], [], me_w (lw M (nt_u (nt_u (nt_u (nt_u (nt_u (nt_u (nt_u (nt_u L (p 26) 0 v2.toInt64) (p 26) 1 ((J (q 3) v2.toNatClampNeg).toInt64)) (p 26) 2 ((J (q 13) v2.toNatClampNeg).toInt64)) (p 26) 3 ((J (q 5) v2.toNatClampNeg).toInt64)) (p 26) 4 ((J (q 6) v3.toNatClampNeg).toInt64)) (p 26) 5 ((J (q 14) v2.toNatClampNeg).toInt64)) (p 26) 6 (Int64.ofNat 1)) (p 26) 7 ((J (q 0) 2).toInt64))) J) _ := k
      have k := ly_revb 3 (c' := (138, [(6, .ref (p 26)), (5, .int (J (q 6) v3.toNatClampNeg)), (4, .int (J (q 14) v2.toNatClampNeg)), (0, .ref (p 24)), (1, .ref (q 0)), (2, .int v2), (3, .int v3)], [.ref (q 0), .int (Int32.ofInt 8), .ref (p 26)], me_w (lw M (nt_u (nt_u (nt_u (nt_u (nt_u (nt_u (nt_u (nt_u L (p 26) 0 v2.toInt64) (p 26) 1 ((J (q 3) v2.toNatClampNeg).toInt64)) (p 26) 2 ((J (q 13) v2.toNatClampNeg).toInt64)) (p 26) 3 ((J (q 5) v2.toNatClampNeg).toInt64)) (p 26) 4 ((J (q 6) v3.toNatClampNeg).toInt64)) (p 26) 5 ((J (q 14) v2.toNatClampNeg).toInt64)) (p 26) 6 (Int64.ofNat 1)) (p 26) 7 ((J (q 0) 2).toInt64))) J)) rfl k
      have k := lz_get (a := (q 0)) (g := 603) (M := me_w (lw M (nt_u (nt_u (nt_u (nt_u (nt_u (nt_u (nt_u (nt_u L (p 26) 0 v2.toInt64) (p 26) 1 ((J (q 3) v2.toNatClampNeg).toInt64)) (p 26) 2 ((J (q 13) v2.toNatClampNeg).toInt64)) (p 26) 3 ((J (q 5) v2.toNatClampNeg).toInt64)) (p 26) 4 ((J (q 6) v3.toNatClampNeg).toInt64)) (p 26) 5 ((J (q 14) v2.toNatClampNeg).toInt64)) (p 26) 6 (Int64.ofNat 1)) (p 26) 7 ((J (q 0) 2).toInt64))) J) (v := .int (J (q 0) 3)) rfl (congrArg Value.int (rfl)) k
      have k := ly_revb 1 (c' := (142, [(6, .ref (p 26)), (5, .int (J (q 6) v3.toNatClampNeg)), (4, .int (J (q 14) v2.toNatClampNeg)), (0, .ref (p 24)), (1, .ref (q 0)), (2, .int v2), (3, .int v3)], [.long ((J (q 0) 3).toInt64), .int (Int32.ofInt 8), .ref (p 26)], me_w (lw M (nt_u (nt_u (nt_u (nt_u (nt_u (nt_u (nt_u (nt_u L (p 26) 0 v2.toInt64) (p 26) 1 ((J (q 3) v2.toNatClampNeg).toInt64)) (p 26) 2 ((J (q 13) v2.toNatClampNeg).toInt64)) (p 26) 3 ((J (q 5) v2.toNatClampNeg).toInt64)) (p 26) 4 ((J (q 6) v3.toNatClampNeg).toInt64)) (p 26) 5 ((J (q 14) v2.toNatClampNeg).toInt64)) (p 26) 6 (Int64.ofNat 1)) (p 26) 7 ((J (q 0) 2).toInt64))) J)) rfl k
      have k := mx_last (q := 8) rfl (show (Int32.ofInt 8).toNatClampNeg = 8 from rfl) k
      have k : nt_rn X _ 8 (143, [(6, .ref (p 26)), (5, .int (J (q 6) v3.toNatClampNeg)), (4, .int (J (q 14) v2.toNatClampNeg)), (0, .ref (p 24)), (1, .ref (q 0)), (2, .int v2), (3, .int v3)], [], me_w (lw M (nt_u (nt_u (nt_u (nt_u (nt_u (nt_u (nt_u (nt_u (nt_u L (p 26) 0 v2.toInt64) (p 26) 1 ((J (q 3) v2.toNatClampNeg).toInt64)) (p 26) 2 ((J (q 13) v2.toNatClampNeg).toInt64)) (p 26) 3 ((J (q 5) v2.toNatClampNeg).toInt64)) (p 26) 4 ((J (q 6) v3.toNatClampNeg).toInt64)) (p 26) 5 ((J (q 14) v2.toNatClampNeg).toInt64)) (p 26) 6 (Int64.ofNat 1)) (p 26) 7 ((J (q 0) 2).toInt64)) (p 26) 8 ((J (q 0) 3).toInt64))) J) _ := k
      have k := ly_revb 3 (c' := (148, [(6, .ref (p 26)), (5, .int (J (q 6) v3.toNatClampNeg)), (4, .int (J (q 14) v2.toNatClampNeg)), (0, .ref (p 24)), (1, .ref (q 0)), (2, .int v2), (3, .int v3)], [.ref (q 0), .int (Int32.ofInt 9), .ref (p 26)], me_w (lw M (nt_u (nt_u (nt_u (nt_u (nt_u (nt_u (nt_u (nt_u (nt_u L (p 26) 0 v2.toInt64) (p 26) 1 ((J (q 3) v2.toNatClampNeg).toInt64)) (p 26) 2 ((J (q 13) v2.toNatClampNeg).toInt64)) (p 26) 3 ((J (q 5) v2.toNatClampNeg).toInt64)) (p 26) 4 ((J (q 6) v3.toNatClampNeg).toInt64)) (p 26) 5 ((J (q 14) v2.toNatClampNeg).toInt64)) (p 26) 6 (Int64.ofNat 1)) (p 26) 7 ((J (q 0) 2).toInt64)) (p 26) 8 ((J (q 0) 3).toInt64))) J)) rfl k
      have k := lz_get (a := (q 0)) (g := 600) (M := me_w (lw M (nt_u (nt_u (nt_u (nt_u (nt_u (nt_u (nt_u (nt_u (nt_u L (p 26) 0 v2.toInt64) (p 26) 1 ((J (q 3) v2.toNatClampNeg).toInt64)) (p 26) 2 ((J (q 13) v2.toNatClampNeg).toInt64)) (p 26) 3 ((J (q 5) v2.toNatClampNeg).toInt64)) (p 26) 4 ((J (q 6) v3.toNatClampNeg).toInt64)) (p 26) 5 ((J (q 14) v2.toNatClampNeg).toInt64)) (p 26) 6 (Int64.ofNat 1)) (p 26) 7 ((J (q 0) 2).toInt64)) (p 26) 8 ((J (q 0) 3).toInt64))) J) (v := .ref (q 1)) rfl (nt_gfR rfl (hq.1 (0, 0, 1) (by decide))) k
      have k := ly_revb 1 (c' := (152, [(6, .ref (p 26)), (5, .int (J (q 6) v3.toNatClampNeg)), (4, .int (J (q 14) v2.toNatClampNeg)), (0, .ref (p 24)), (1, .ref (q 0)), (2, .int v2), (3, .int v3)], [.int v3, .ref (q 1), .int (Int32.ofInt 9), .ref (p 26)], me_w (lw M (nt_u (nt_u (nt_u (nt_u (nt_u (nt_u (nt_u (nt_u (nt_u L (p 26) 0 v2.toInt64) (p 26) 1 ((J (q 3) v2.toNatClampNeg).toInt64)) (p 26) 2 ((J (q 13) v2.toNatClampNeg).toInt64)) (p 26) 3 ((J (q 5) v2.toNatClampNeg).toInt64)) (p 26) 4 ((J (q 6) v3.toNatClampNeg).toInt64)) (p 26) 5 ((J (q 14) v2.toNatClampNeg).toInt64)) (p 26) 6 (Int64.ofNat 1)) (p 26) 7 ((J (q 0) 2).toInt64)) (p 26) 8 ((J (q 0) 3).toInt64))) J)) rfl k
      obtain ⟨d1, o1, ed, kc, k⟩ := lz_c (g := 89) (q := 1) (vs := [.ref (q 1), .int v3]) (rest := [.int (Int32.ofInt 9), .ref (p 26)]) rfl rfl (by decide) (Or.inr (Or.inl ⟨_, rfl, rfl⟩)) rfl k
      have e1 := xt89 (xs_lq hq) kc
      subst e1
      have k : nt_rn X _ 8 (155, [(6, .ref (p 26)), (5, .int (J (q 6) v3.toNatClampNeg)), (4, .int (J (q 14) v2.toNatClampNeg)), (0, .ref (p 24)), (1, .ref (q 0)), (2, .int v2), (3, .int v3)], [.int (x89 q v3 J), .int (Int32.ofInt 9), .ref (p 26)], me_w (lw M (nt_u (nt_u (nt_u (nt_u (nt_u (nt_u (nt_u (nt_u (nt_u L (p 26) 0 v2.toInt64) (p 26) 1 ((J (q 3) v2.toNatClampNeg).toInt64)) (p 26) 2 ((J (q 13) v2.toNatClampNeg).toInt64)) (p 26) 3 ((J (q 5) v2.toNatClampNeg).toInt64)) (p 26) 4 ((J (q 6) v3.toNatClampNeg).toInt64)) (p 26) 5 ((J (q 14) v2.toNatClampNeg).toInt64)) (p 26) 6 (Int64.ofNat 1)) (p 26) 7 ((J (q 0) 2).toInt64)) (p 26) 8 ((J (q 0) 3).toInt64))) J) _ := k
      have k := ly_revb 1 (c' := (156, [(6, .ref (p 26)), (5, .int (J (q 6) v3.toNatClampNeg)), (4, .int (J (q 14) v2.toNatClampNeg)), (0, .ref (p 24)), (1, .ref (q 0)), (2, .int v2), (3, .int v3)], [.long ((x89 q v3 J).toInt64), .int (Int32.ofInt 9), .ref (p 26)], me_w (lw M (nt_u (nt_u (nt_u (nt_u (nt_u (nt_u (nt_u (nt_u (nt_u L (p 26) 0 v2.toInt64) (p 26) 1 ((J (q 3) v2.toNatClampNeg).toInt64)) (p 26) 2 ((J (q 13) v2.toNatClampNeg).toInt64)) (p 26) 3 ((J (q 5) v2.toNatClampNeg).toInt64)) (p 26) 4 ((J (q 6) v3.toNatClampNeg).toInt64)) (p 26) 5 ((J (q 14) v2.toNatClampNeg).toInt64)) (p 26) 6 (Int64.ofNat 1)) (p 26) 7 ((J (q 0) 2).toInt64)) (p 26) 8 ((J (q 0) 3).toInt64))) J)) rfl k
      have k := mx_last (q := 9) rfl (show (Int32.ofInt 9).toNatClampNeg = 9 from rfl) k
      have k : nt_rn X _ 8 (157, [(6, .ref (p 26)), (5, .int (J (q 6) v3.toNatClampNeg)), (4, .int (J (q 14) v2.toNatClampNeg)), (0, .ref (p 24)), (1, .ref (q 0)), (2, .int v2), (3, .int v3)], [], me_w (lw M (nt_u (nt_u (nt_u (nt_u (nt_u (nt_u (nt_u (nt_u (nt_u (nt_u L (p 26) 0 v2.toInt64) (p 26) 1 ((J (q 3) v2.toNatClampNeg).toInt64)) (p 26) 2 ((J (q 13) v2.toNatClampNeg).toInt64)) (p 26) 3 ((J (q 5) v2.toNatClampNeg).toInt64)) (p 26) 4 ((J (q 6) v3.toNatClampNeg).toInt64)) (p 26) 5 ((J (q 14) v2.toNatClampNeg).toInt64)) (p 26) 6 (Int64.ofNat 1)) (p 26) 7 ((J (q 0) 2).toInt64)) (p 26) 8 ((J (q 0) 3).toInt64)) (p 26) 9 ((x89 q v3 J).toInt64))) J) _ := k
      have k := lz_rv rfl rfl k
      rw [k, x8, if_neg h86, if_pos h114]
    · rw [if_neg h114] at k
      have k := ly_revb 1 (c' := (122, [(6, .ref (p 26)), (5, .int (J (q 6) v3.toNatClampNeg)), (4, .int (J (q 14) v2.toNatClampNeg)), (0, .ref (p 24)), (1, .ref (q 0)), (2, .int v2), (3, .int v3)], [.long (Int64.ofNat 0), .int (Int32.ofInt 6), .ref (p 26)], me_w (lw M (nt_u (nt_u (nt_u (nt_u (nt_u (nt_u L (p 26) 0 v2.toInt64) (p 26) 1 ((J (q 3) v2.toNatClampNeg).toInt64)) (p 26) 2 ((J (q 13) v2.toNatClampNeg).toInt64)) (p 26) 3 ((J (q 5) v2.toNatClampNeg).toInt64)) (p 26) 4 ((J (q 6) v3.toNatClampNeg).toInt64)) (p 26) 5 ((J (q 14) v2.toNatClampNeg).toInt64))) J)) rfl k
      have k := mx_last (q := 6) rfl (show (Int32.ofInt 6).toNatClampNeg = 6 from rfl) k
      have k : nt_rn X _ 8 (123, [(6, .ref (p 26)), (5, .int (J (q 6) v3.toNatClampNeg)), (4, .int (J (q 14) v2.toNatClampNeg)), (0, .ref (p 24)), (1, .ref (q 0)), (2, .int v2), (3, .int v3)], [], me_w (lw M (nt_u (nt_u (nt_u (nt_u (nt_u (nt_u (nt_u L (p 26) 0 v2.toInt64) (p 26) 1 ((J (q 3) v2.toNatClampNeg).toInt64)) (p 26) 2 ((J (q 13) v2.toNatClampNeg).toInt64)) (p 26) 3 ((J (q 5) v2.toNatClampNeg).toInt64)) (p 26) 4 ((J (q 6) v3.toNatClampNeg).toInt64)) (p 26) 5 ((J (q 14) v2.toNatClampNeg).toInt64)) (p 26) 6 (Int64.ofNat 0))) J) _ := k
      have k := ly_revb 3 (c' := (128, [(6, .ref (p 26)), (5, .int (J (q 6) v3.toNatClampNeg)), (4, .int (J (q 14) v2.toNatClampNeg)), (0, .ref (p 24)), (1, .ref (q 0)), (2, .int v2), (3, .int v3)], [.ref (q 0), .int (Int32.ofInt 7), .ref (p 26)], me_w (lw M (nt_u (nt_u (nt_u (nt_u (nt_u (nt_u (nt_u L (p 26) 0 v2.toInt64) (p 26) 1 ((J (q 3) v2.toNatClampNeg).toInt64)) (p 26) 2 ((J (q 13) v2.toNatClampNeg).toInt64)) (p 26) 3 ((J (q 5) v2.toNatClampNeg).toInt64)) (p 26) 4 ((J (q 6) v3.toNatClampNeg).toInt64)) (p 26) 5 ((J (q 14) v2.toNatClampNeg).toInt64)) (p 26) 6 (Int64.ofNat 0))) J)) rfl k
      have k := lz_get (a := (q 0)) (g := 602) (M := me_w (lw M (nt_u (nt_u (nt_u (nt_u (nt_u (nt_u (nt_u L (p 26) 0 v2.toInt64) (p 26) 1 ((J (q 3) v2.toNatClampNeg).toInt64)) (p 26) 2 ((J (q 13) v2.toNatClampNeg).toInt64)) (p 26) 3 ((J (q 5) v2.toNatClampNeg).toInt64)) (p 26) 4 ((J (q 6) v3.toNatClampNeg).toInt64)) (p 26) 5 ((J (q 14) v2.toNatClampNeg).toInt64)) (p 26) 6 (Int64.ofNat 0))) J) (v := .int (J (q 0) 2)) rfl (congrArg Value.int (rfl)) k
      have k := ly_revb 1 (c' := (132, [(6, .ref (p 26)), (5, .int (J (q 6) v3.toNatClampNeg)), (4, .int (J (q 14) v2.toNatClampNeg)), (0, .ref (p 24)), (1, .ref (q 0)), (2, .int v2), (3, .int v3)], [.long ((J (q 0) 2).toInt64), .int (Int32.ofInt 7), .ref (p 26)], me_w (lw M (nt_u (nt_u (nt_u (nt_u (nt_u (nt_u (nt_u L (p 26) 0 v2.toInt64) (p 26) 1 ((J (q 3) v2.toNatClampNeg).toInt64)) (p 26) 2 ((J (q 13) v2.toNatClampNeg).toInt64)) (p 26) 3 ((J (q 5) v2.toNatClampNeg).toInt64)) (p 26) 4 ((J (q 6) v3.toNatClampNeg).toInt64)) (p 26) 5 ((J (q 14) v2.toNatClampNeg).toInt64)) (p 26) 6 (Int64.ofNat 0))) J)) rfl k
      have k := mx_last (q := 7) rfl (show (Int32.ofInt 7).toNatClampNeg = 7 from rfl) k
      have k : nt_rn X _ 8 (133, [(6, .ref (p 26)), (5, .int (J (q 6) v3.toNatClampNeg)), (4, .int (J (q 14) v2.toNatClampNeg)), (0, .ref (p 24)), (1, .ref (q 0)), (2, .int v2), (3, .int v3)], [], me_w (lw M (nt_u (nt_u (nt_u (nt_u (nt_u (nt_u (nt_u (nt_u L (p 26) 0 v2.toInt64) (p 26) 1 ((J (q 3) v2.toNatClampNeg).toInt64)) (p 26) 2 ((J (q 13) v2.toNatClampNeg).toInt64)) (p 26) 3 ((J (q 5) v2.toNatClampNeg).toInt64)) (p 26) 4 ((J (q 6) v3.toNatClampNeg).toInt64)) (p 26) 5 ((J (q 14) v2.toNatClampNeg).toInt64)) (p 26) 6 (Int64.ofNat 0)) (p 26) 7 ((J (q 0) 2).toInt64))) J) _ := k
      have k := ly_revb 3 (c' := (138, [(6, .ref (p 26)), (5, .int (J (q 6) v3.toNatClampNeg)), (4, .int (J (q 14) v2.toNatClampNeg)), (0, .ref (p 24)), (1, .ref (q 0)), (2, .int v2), (3, .int v3)], [.ref (q 0), .int (Int32.ofInt 8), .ref (p 26)], me_w (lw M (nt_u (nt_u (nt_u (nt_u (nt_u (nt_u (nt_u (nt_u L (p 26) 0 v2.toInt64) (p 26) 1 ((J (q 3) v2.toNatClampNeg).toInt64)) (p 26) 2 ((J (q 13) v2.toNatClampNeg).toInt64)) (p 26) 3 ((J (q 5) v2.toNatClampNeg).toInt64)) (p 26) 4 ((J (q 6) v3.toNatClampNeg).toInt64)) (p 26) 5 ((J (q 14) v2.toNatClampNeg).toInt64)) (p 26) 6 (Int64.ofNat 0)) (p 26) 7 ((J (q 0) 2).toInt64))) J)) rfl k
      have k := lz_get (a := (q 0)) (g := 603) (M := me_w (lw M (nt_u (nt_u (nt_u (nt_u (nt_u (nt_u (nt_u (nt_u L (p 26) 0 v2.toInt64) (p 26) 1 ((J (q 3) v2.toNatClampNeg).toInt64)) (p 26) 2 ((J (q 13) v2.toNatClampNeg).toInt64)) (p 26) 3 ((J (q 5) v2.toNatClampNeg).toInt64)) (p 26) 4 ((J (q 6) v3.toNatClampNeg).toInt64)) (p 26) 5 ((J (q 14) v2.toNatClampNeg).toInt64)) (p 26) 6 (Int64.ofNat 0)) (p 26) 7 ((J (q 0) 2).toInt64))) J) (v := .int (J (q 0) 3)) rfl (congrArg Value.int (rfl)) k
      have k := ly_revb 1 (c' := (142, [(6, .ref (p 26)), (5, .int (J (q 6) v3.toNatClampNeg)), (4, .int (J (q 14) v2.toNatClampNeg)), (0, .ref (p 24)), (1, .ref (q 0)), (2, .int v2), (3, .int v3)], [.long ((J (q 0) 3).toInt64), .int (Int32.ofInt 8), .ref (p 26)], me_w (lw M (nt_u (nt_u (nt_u (nt_u (nt_u (nt_u (nt_u (nt_u L (p 26) 0 v2.toInt64) (p 26) 1 ((J (q 3) v2.toNatClampNeg).toInt64)) (p 26) 2 ((J (q 13) v2.toNatClampNeg).toInt64)) (p 26) 3 ((J (q 5) v2.toNatClampNeg).toInt64)) (p 26) 4 ((J (q 6) v3.toNatClampNeg).toInt64)) (p 26) 5 ((J (q 14) v2.toNatClampNeg).toInt64)) (p 26) 6 (Int64.ofNat 0)) (p 26) 7 ((J (q 0) 2).toInt64))) J)) rfl k
      have k := mx_last (q := 8) rfl (show (Int32.ofInt 8).toNatClampNeg = 8 from rfl) k
      have k : nt_rn X _ 8 (143, [(6, .ref (p 26)), (5, .int (J (q 6) v3.toNatClampNeg)), (4, .int (J (q 14) v2.toNatClampNeg)), (0, .ref (p 24)), (1, .ref (q 0)), (2, .int v2), (3, .int v3)], [], me_w (lw M (nt_u (nt_u (nt_u (nt_u (nt_u (nt_u (nt_u (nt_u (nt_u L (p 26) 0 v2.toInt64) (p 26) 1 ((J (q 3) v2.toNatClampNeg).toInt64)) (p 26) 2 ((J (q 13) v2.toNatClampNeg).toInt64)) (p 26) 3 ((J (q 5) v2.toNatClampNeg).toInt64)) (p 26) 4 ((J (q 6) v3.toNatClampNeg).toInt64)) (p 26) 5 ((J (q 14) v2.toNatClampNeg).toInt64)) (p 26) 6 (Int64.ofNat 0)) (p 26) 7 ((J (q 0) 2).toInt64)) (p 26) 8 ((J (q 0) 3).toInt64))) J) _ := k
      have k := ly_revb 3 (c' := (148, [(6, .ref (p 26)), (5, .int (J (q 6) v3.toNatClampNeg)), (4, .int (J (q 14) v2.toNatClampNeg)), (0, .ref (p 24)), (1, .ref (q 0)), (2, .int v2), (3, .int v3)], [.ref (q 0), .int (Int32.ofInt 9), .ref (p 26)], me_w (lw M (nt_u (nt_u (nt_u (nt_u (nt_u (nt_u (nt_u (nt_u (nt_u L (p 26) 0 v2.toInt64) (p 26) 1 ((J (q 3) v2.toNatClampNeg).toInt64)) (p 26) 2 ((J (q 13) v2.toNatClampNeg).toInt64)) (p 26) 3 ((J (q 5) v2.toNatClampNeg).toInt64)) (p 26) 4 ((J (q 6) v3.toNatClampNeg).toInt64)) (p 26) 5 ((J (q 14) v2.toNatClampNeg).toInt64)) (p 26) 6 (Int64.ofNat 0)) (p 26) 7 ((J (q 0) 2).toInt64)) (p 26) 8 ((J (q 0) 3).toInt64))) J)) rfl k
      have k := lz_get (a := (q 0)) (g := 600) (M := me_w (lw M (nt_u (nt_u (nt_u (nt_u (nt_u (nt_u (nt_u (nt_u (nt_u L (p 26) 0 v2.toInt64) (p 26) 1 ((J (q 3) v2.toNatClampNeg).toInt64)) (p 26) 2 ((J (q 13) v2.toNatClampNeg).toInt64)) (p 26) 3 ((J (q 5) v2.toNatClampNeg).toInt64)) (p 26) 4 ((J (q 6) v3.toNatClampNeg).toInt64)) (p 26) 5 ((J (q 14) v2.toNatClampNeg).toInt64)) (p 26) 6 (Int64.ofNat 0)) (p 26) 7 ((J (q 0) 2).toInt64)) (p 26) 8 ((J (q 0) 3).toInt64))) J) (v := .ref (q 1)) rfl (nt_gfR rfl (hq.1 (0, 0, 1) (by decide))) k
      have k := ly_revb 1 (c' := (152, [(6, .ref (p 26)), (5, .int (J (q 6) v3.toNatClampNeg)), (4, .int (J (q 14) v2.toNatClampNeg)), (0, .ref (p 24)), (1, .ref (q 0)), (2, .int v2), (3, .int v3)], [.int v3, .ref (q 1), .int (Int32.ofInt 9), .ref (p 26)], me_w (lw M (nt_u (nt_u (nt_u (nt_u (nt_u (nt_u (nt_u (nt_u (nt_u L (p 26) 0 v2.toInt64) (p 26) 1 ((J (q 3) v2.toNatClampNeg).toInt64)) (p 26) 2 ((J (q 13) v2.toNatClampNeg).toInt64)) (p 26) 3 ((J (q 5) v2.toNatClampNeg).toInt64)) (p 26) 4 ((J (q 6) v3.toNatClampNeg).toInt64)) (p 26) 5 ((J (q 14) v2.toNatClampNeg).toInt64)) (p 26) 6 (Int64.ofNat 0)) (p 26) 7 ((J (q 0) 2).toInt64)) (p 26) 8 ((J (q 0) 3).toInt64))) J)) rfl k
      obtain ⟨d1, o1, ed, kc, k⟩ := lz_c (g := 89) (q := 1) (vs := [.ref (q 1), .int v3]) (rest := [.int (Int32.ofInt 9), .ref (p 26)]) rfl rfl (by decide) (Or.inr (Or.inl ⟨_, rfl, rfl⟩)) rfl k
      have e1 := xt89 (xs_lq hq) kc
      subst e1
      have k : nt_rn X _ 8 (155, [(6, .ref (p 26)), (5, .int (J (q 6) v3.toNatClampNeg)), (4, .int (J (q 14) v2.toNatClampNeg)), (0, .ref (p 24)), (1, .ref (q 0)), (2, .int v2), (3, .int v3)], [.int (x89 q v3 J), .int (Int32.ofInt 9), .ref (p 26)], me_w (lw M (nt_u (nt_u (nt_u (nt_u (nt_u (nt_u (nt_u (nt_u (nt_u L (p 26) 0 v2.toInt64) (p 26) 1 ((J (q 3) v2.toNatClampNeg).toInt64)) (p 26) 2 ((J (q 13) v2.toNatClampNeg).toInt64)) (p 26) 3 ((J (q 5) v2.toNatClampNeg).toInt64)) (p 26) 4 ((J (q 6) v3.toNatClampNeg).toInt64)) (p 26) 5 ((J (q 14) v2.toNatClampNeg).toInt64)) (p 26) 6 (Int64.ofNat 0)) (p 26) 7 ((J (q 0) 2).toInt64)) (p 26) 8 ((J (q 0) 3).toInt64))) J) _ := k
      have k := ly_revb 1 (c' := (156, [(6, .ref (p 26)), (5, .int (J (q 6) v3.toNatClampNeg)), (4, .int (J (q 14) v2.toNatClampNeg)), (0, .ref (p 24)), (1, .ref (q 0)), (2, .int v2), (3, .int v3)], [.long ((x89 q v3 J).toInt64), .int (Int32.ofInt 9), .ref (p 26)], me_w (lw M (nt_u (nt_u (nt_u (nt_u (nt_u (nt_u (nt_u (nt_u (nt_u L (p 26) 0 v2.toInt64) (p 26) 1 ((J (q 3) v2.toNatClampNeg).toInt64)) (p 26) 2 ((J (q 13) v2.toNatClampNeg).toInt64)) (p 26) 3 ((J (q 5) v2.toNatClampNeg).toInt64)) (p 26) 4 ((J (q 6) v3.toNatClampNeg).toInt64)) (p 26) 5 ((J (q 14) v2.toNatClampNeg).toInt64)) (p 26) 6 (Int64.ofNat 0)) (p 26) 7 ((J (q 0) 2).toInt64)) (p 26) 8 ((J (q 0) 3).toInt64))) J)) rfl k
      have k := mx_last (q := 9) rfl (show (Int32.ofInt 9).toNatClampNeg = 9 from rfl) k
      have k : nt_rn X _ 8 (157, [(6, .ref (p 26)), (5, .int (J (q 6) v3.toNatClampNeg)), (4, .int (J (q 14) v2.toNatClampNeg)), (0, .ref (p 24)), (1, .ref (q 0)), (2, .int v2), (3, .int v3)], [], me_w (lw M (nt_u (nt_u (nt_u (nt_u (nt_u (nt_u (nt_u (nt_u (nt_u (nt_u L (p 26) 0 v2.toInt64) (p 26) 1 ((J (q 3) v2.toNatClampNeg).toInt64)) (p 26) 2 ((J (q 13) v2.toNatClampNeg).toInt64)) (p 26) 3 ((J (q 5) v2.toNatClampNeg).toInt64)) (p 26) 4 ((J (q 6) v3.toNatClampNeg).toInt64)) (p 26) 5 ((J (q 14) v2.toNatClampNeg).toInt64)) (p 26) 6 (Int64.ofNat 0)) (p 26) 7 ((J (q 0) 2).toInt64)) (p 26) 8 ((J (q 0) 3).toInt64)) (p 26) 9 ((x89 q v3 J).toInt64))) J) _ := k
      have k := lz_rv rfl rfl k
      rw [k, x8, if_neg h86, if_neg h114]
theorem x8_frL {p : Nat → Nat} {q : Nat → Nat} {v2 : Int32} {v3 : Int32} {J : Nat → Nat → Int32} {L : Nat → Nat → Int64} {b : Nat} (n0 : b ≠ p 26) : x8 p q v2 v3 J L b = L b := by
  unfold x8
  by_cases h : (J (q 14) v2.toNatClampNeg) = (Int32.ofInt (-1))
  · rw [if_pos h]
    by_cases h : (J (q 5) v2.toNatClampNeg) = (J (q 6) v3.toNatClampNeg)
    · rw [if_pos h]
      all_goals first | (dsimp only; exact (show (nt_u (nt_u (nt_u (nt_u (nt_u (nt_u (nt_u (nt_u (nt_u (nt_u L (p 26) 0 v2.toInt64) (p 26) 1 ((J (q 3) v2.toNatClampNeg).toInt64)) (p 26) 2 ((J (q 13) v2.toNatClampNeg).toInt64)) (p 26) 3 ((J (q 5) v2.toNatClampNeg).toInt64)) (p 26) 4 ((J (q 6) v3.toNatClampNeg).toInt64)) (p 26) 5 99) (p 26) 6 (Int64.ofNat 1)) (p 26) 7 ((J (q 0) 2).toInt64)) (p 26) 8 ((J (q 0) 3).toInt64)) (p 26) 9 ((x89 q v3 J).toInt64)) b = L b from (mu_o n0).trans ((mu_o n0).trans ((mu_o n0).trans ((mu_o n0).trans ((mu_o n0).trans ((mu_o n0).trans ((mu_o n0).trans ((mu_o n0).trans ((mu_o n0).trans (mu_o n0))))))))))) | exact (show (nt_u (nt_u (nt_u (nt_u (nt_u (nt_u (nt_u (nt_u (nt_u (nt_u L (p 26) 0 v2.toInt64) (p 26) 1 ((J (q 3) v2.toNatClampNeg).toInt64)) (p 26) 2 ((J (q 13) v2.toNatClampNeg).toInt64)) (p 26) 3 ((J (q 5) v2.toNatClampNeg).toInt64)) (p 26) 4 ((J (q 6) v3.toNatClampNeg).toInt64)) (p 26) 5 99) (p 26) 6 (Int64.ofNat 1)) (p 26) 7 ((J (q 0) 2).toInt64)) (p 26) 8 ((J (q 0) 3).toInt64)) (p 26) 9 ((x89 q v3 J).toInt64)) b = L b from (mu_o n0).trans ((mu_o n0).trans ((mu_o n0).trans ((mu_o n0).trans ((mu_o n0).trans ((mu_o n0).trans ((mu_o n0).trans ((mu_o n0).trans ((mu_o n0).trans (mu_o n0))))))))))
    · rw [if_neg h]
      all_goals first | (dsimp only; exact (show (nt_u (nt_u (nt_u (nt_u (nt_u (nt_u (nt_u (nt_u (nt_u (nt_u L (p 26) 0 v2.toInt64) (p 26) 1 ((J (q 3) v2.toNatClampNeg).toInt64)) (p 26) 2 ((J (q 13) v2.toNatClampNeg).toInt64)) (p 26) 3 ((J (q 5) v2.toNatClampNeg).toInt64)) (p 26) 4 ((J (q 6) v3.toNatClampNeg).toInt64)) (p 26) 5 99) (p 26) 6 (Int64.ofNat 0)) (p 26) 7 ((J (q 0) 2).toInt64)) (p 26) 8 ((J (q 0) 3).toInt64)) (p 26) 9 ((x89 q v3 J).toInt64)) b = L b from (mu_o n0).trans ((mu_o n0).trans ((mu_o n0).trans ((mu_o n0).trans ((mu_o n0).trans ((mu_o n0).trans ((mu_o n0).trans ((mu_o n0).trans ((mu_o n0).trans (mu_o n0))))))))))) | exact (show (nt_u (nt_u (nt_u (nt_u (nt_u (nt_u (nt_u (nt_u (nt_u (nt_u L (p 26) 0 v2.toInt64) (p 26) 1 ((J (q 3) v2.toNatClampNeg).toInt64)) (p 26) 2 ((J (q 13) v2.toNatClampNeg).toInt64)) (p 26) 3 ((J (q 5) v2.toNatClampNeg).toInt64)) (p 26) 4 ((J (q 6) v3.toNatClampNeg).toInt64)) (p 26) 5 99) (p 26) 6 (Int64.ofNat 0)) (p 26) 7 ((J (q 0) 2).toInt64)) (p 26) 8 ((J (q 0) 3).toInt64)) (p 26) 9 ((x89 q v3 J).toInt64)) b = L b from (mu_o n0).trans ((mu_o n0).trans ((mu_o n0).trans ((mu_o n0).trans ((mu_o n0).trans ((mu_o n0).trans ((mu_o n0).trans ((mu_o n0).trans ((mu_o n0).trans (mu_o n0))))))))))
  · rw [if_neg h]
    by_cases h : (J (q 5) v2.toNatClampNeg) = (J (q 6) v3.toNatClampNeg)
    · rw [if_pos h]
      all_goals first | (dsimp only; exact (show (nt_u (nt_u (nt_u (nt_u (nt_u (nt_u (nt_u (nt_u (nt_u (nt_u L (p 26) 0 v2.toInt64) (p 26) 1 ((J (q 3) v2.toNatClampNeg).toInt64)) (p 26) 2 ((J (q 13) v2.toNatClampNeg).toInt64)) (p 26) 3 ((J (q 5) v2.toNatClampNeg).toInt64)) (p 26) 4 ((J (q 6) v3.toNatClampNeg).toInt64)) (p 26) 5 ((J (q 14) v2.toNatClampNeg).toInt64)) (p 26) 6 (Int64.ofNat 1)) (p 26) 7 ((J (q 0) 2).toInt64)) (p 26) 8 ((J (q 0) 3).toInt64)) (p 26) 9 ((x89 q v3 J).toInt64)) b = L b from (mu_o n0).trans ((mu_o n0).trans ((mu_o n0).trans ((mu_o n0).trans ((mu_o n0).trans ((mu_o n0).trans ((mu_o n0).trans ((mu_o n0).trans ((mu_o n0).trans (mu_o n0))))))))))) | exact (show (nt_u (nt_u (nt_u (nt_u (nt_u (nt_u (nt_u (nt_u (nt_u (nt_u L (p 26) 0 v2.toInt64) (p 26) 1 ((J (q 3) v2.toNatClampNeg).toInt64)) (p 26) 2 ((J (q 13) v2.toNatClampNeg).toInt64)) (p 26) 3 ((J (q 5) v2.toNatClampNeg).toInt64)) (p 26) 4 ((J (q 6) v3.toNatClampNeg).toInt64)) (p 26) 5 ((J (q 14) v2.toNatClampNeg).toInt64)) (p 26) 6 (Int64.ofNat 1)) (p 26) 7 ((J (q 0) 2).toInt64)) (p 26) 8 ((J (q 0) 3).toInt64)) (p 26) 9 ((x89 q v3 J).toInt64)) b = L b from (mu_o n0).trans ((mu_o n0).trans ((mu_o n0).trans ((mu_o n0).trans ((mu_o n0).trans ((mu_o n0).trans ((mu_o n0).trans ((mu_o n0).trans ((mu_o n0).trans (mu_o n0))))))))))
    · rw [if_neg h]
      all_goals first | (dsimp only; exact (show (nt_u (nt_u (nt_u (nt_u (nt_u (nt_u (nt_u (nt_u (nt_u (nt_u L (p 26) 0 v2.toInt64) (p 26) 1 ((J (q 3) v2.toNatClampNeg).toInt64)) (p 26) 2 ((J (q 13) v2.toNatClampNeg).toInt64)) (p 26) 3 ((J (q 5) v2.toNatClampNeg).toInt64)) (p 26) 4 ((J (q 6) v3.toNatClampNeg).toInt64)) (p 26) 5 ((J (q 14) v2.toNatClampNeg).toInt64)) (p 26) 6 (Int64.ofNat 0)) (p 26) 7 ((J (q 0) 2).toInt64)) (p 26) 8 ((J (q 0) 3).toInt64)) (p 26) 9 ((x89 q v3 J).toInt64)) b = L b from (mu_o n0).trans ((mu_o n0).trans ((mu_o n0).trans ((mu_o n0).trans ((mu_o n0).trans ((mu_o n0).trans ((mu_o n0).trans ((mu_o n0).trans ((mu_o n0).trans (mu_o n0))))))))))) | exact (show (nt_u (nt_u (nt_u (nt_u (nt_u (nt_u (nt_u (nt_u (nt_u (nt_u L (p 26) 0 v2.toInt64) (p 26) 1 ((J (q 3) v2.toNatClampNeg).toInt64)) (p 26) 2 ((J (q 13) v2.toNatClampNeg).toInt64)) (p 26) 3 ((J (q 5) v2.toNatClampNeg).toInt64)) (p 26) 4 ((J (q 6) v3.toNatClampNeg).toInt64)) (p 26) 5 ((J (q 14) v2.toNatClampNeg).toInt64)) (p 26) 6 (Int64.ofNat 0)) (p 26) 7 ((J (q 0) 2).toInt64)) (p 26) 8 ((J (q 0) 3).toInt64)) (p 26) 9 ((x89 q v3 J).toInt64)) b = L b from (mu_o n0).trans ((mu_o n0).trans ((mu_o n0).trans ((mu_o n0).trans ((mu_o n0).trans ((mu_o n0).trans ((mu_o n0).trans ((mu_o n0).trans ((mu_o n0).trans (mu_o n0))))))))))
/-! $Calendar.chosen -/
def x6_9 (p : Nat → Nat) (q : Nat → Nat) (sp : Nat) (ln : Nat) (v3 : Int32) (v4 : Int32) : Nat → Int32 → Int64 → Int32 → (Nat → Nat → Int32) → (Nat → Nat → Int64) → Int32 × (Nat → Nat → Int32) × (Nat → Nat → Int64)
  | 0, v5, v6, v8, J, L => (v5, J, L)
  | c + 1, v5, v6, v8, J, L => if (J (q 1) 2) ≤ v8 then (v5, J, L)
    else if (J (q 3) v8.toNatClampNeg) = v4 then if (x7 q v8 (J (q 6) v3.toNatClampNeg) J) = 0 then (x6_9 p q sp ln v3 v4 c v5 v6 (v8 + (Int32.ofInt 1)) J L)
        else if ((x41 p sp ln J (x8 p q v8 v3 J L)).1) = 0 then (x6_9 p q sp ln v3 v4 c v5 v6 (v8 + (Int32.ofInt 1)) ((x41 p sp ln J (x8 p q v8 v3 J L)).2.1) ((x41 p sp ln J (x8 p q v8 v3 J L)).2.2))
          else if v5 = (Int32.ofInt (-1)) then (x6_9 p q sp ln v3 v4 c v8 (x45 p ((x41 p sp ln J (x8 p q v8 v3 J L)).2.1) ((x41 p sp ln J (x8 p q v8 v3 J L)).2.2)) (v8 + (Int32.ofInt 1)) ((x41 p sp ln J (x8 p q v8 v3 J L)).2.1) ((x41 p sp ln J (x8 p q v8 v3 J L)).2.2))
            else if 0 ≤ (lg_cmp (x45 p ((x41 p sp ln J (x8 p q v8 v3 J L)).2.1) ((x41 p sp ln J (x8 p q v8 v3 J L)).2.2)) v6) then (x6_9 p q sp ln v3 v4 c v5 v6 (v8 + (Int32.ofInt 1)) ((x41 p sp ln J (x8 p q v8 v3 J L)).2.1) ((x41 p sp ln J (x8 p q v8 v3 J L)).2.2))
              else (x6_9 p q sp ln v3 v4 c v8 (x45 p ((x41 p sp ln J (x8 p q v8 v3 J L)).2.1) ((x41 p sp ln J (x8 p q v8 v3 J L)).2.2)) (v8 + (Int32.ofInt 1)) ((x41 p sp ln J (x8 p q v8 v3 J L)).2.1) ((x41 p sp ln J (x8 p q v8 v3 J L)).2.2))
      else (x6_9 p q sp ln v3 v4 c v5 v6 (v8 + (Int32.ofInt 1)) J L)
theorem xt6_9 {X : nt_X} {d : Nat} {M : nt_M} {o : Option Value × nt_M} {p : Nat → Nat} {q : Nat → Nat} {sp : Nat} {ln : Nat} {ru : Nat} {v3 : Int32} {v4 : Int32} (hp : xs_P M p) (hq : xs_Q M q) (hx : xs_X p q) (hs : xs_S M p ru sp ln) : ∀ (c : Nat) (v5 : Int32) (v6 : Int64) (v8 : Int32) (J : Nat → Nat → Int32) (L : Nat → Nat → Int64), (J (q 1) 2).toInt - v8.toInt ≤ c → nt_rn X d 6 (9, [(0, .ref (p 24)), (1, .ref (q 0)), (2, .ref ru), (3, .int v3), (4, .int v4), (5, .int v5), (6, .long v6), (8, .int v8)], [], me_w (lw M L) J) o → o = (some (.int ((x6_9 p q sp ln v3 v4 c v5 v6 v8 J L).1)), me_w (lw M ((x6_9 p q sp ln v3 v4 c v5 v6 v8 J L).2.2)) ((x6_9 p q sp ln v3 v4 c v5 v6 v8 J L).2.1)) := by
  intro c
  induction c with
  | zero =>
    intro v5 v6 v8 J L hc k
    have k := ly_revb 2 (c' := (12, [(0, .ref (p 24)), (1, .ref (q 0)), (2, .ref ru), (3, .int v3), (4, .int v4), (5, .int v5), (6, .long v6), (8, .int v8)], [.ref (q 0), .int v8], me_w (lw M L) J)) rfl k
    have k := lz_get (a := (q 0)) (g := 600) (M := me_w (lw M L) J) (v := .ref (q 1)) rfl (nt_gfR rfl (hq.1 (0, 0, 1) (by decide))) k
    have k := lz_get (a := (q 1)) (g := 802) (M := me_w (lw M L) J) (v := .int (J (q 1) 2)) rfl (congrArg Value.int (rfl)) k
    have k := ly_revb 1 (c' := (if (J (q 1) 2) ≤ v8 then 114 else 21, [(0, .ref (p 24)), (1, .ref (q 0)), (2, .ref ru), (3, .int v3), (4, .int v4), (5, .int v5), (6, .long v6), (8, .int v8)], [], me_w (lw M L) J)) rfl k
    have h18 : (J (q 1) 2) ≤ v8 := lx_end hc
    rw [if_pos h18] at k
    have k := ly_revb 1 (c' := (116, [(0, .ref (p 24)), (1, .ref (q 0)), (2, .ref ru), (3, .int v3), (4, .int v4), (5, .int v5), (6, .long v6), (8, .int v8)], [.int v5], me_w (lw M L) J)) rfl k
    have k := lz_ri rfl (by decide) k
    rw [k, x6_9]
  | succ c ih =>
    intro v5 v6 v8 J L hc k
    have k := ly_revb 2 (c' := (12, [(0, .ref (p 24)), (1, .ref (q 0)), (2, .ref ru), (3, .int v3), (4, .int v4), (5, .int v5), (6, .long v6), (8, .int v8)], [.ref (q 0), .int v8], me_w (lw M L) J)) rfl k
    have k := lz_get (a := (q 0)) (g := 600) (M := me_w (lw M L) J) (v := .ref (q 1)) rfl (nt_gfR rfl (hq.1 (0, 0, 1) (by decide))) k
    have k := lz_get (a := (q 1)) (g := 802) (M := me_w (lw M L) J) (v := .int (J (q 1) 2)) rfl (congrArg Value.int (rfl)) k
    have k := ly_revb 1 (c' := (if (J (q 1) 2) ≤ v8 then 114 else 21, [(0, .ref (p 24)), (1, .ref (q 0)), (2, .ref ru), (3, .int v3), (4, .int v4), (5, .int v5), (6, .long v6), (8, .int v8)], [], me_w (lw M L) J)) rfl k
    by_cases h18 : (J (q 1) 2) ≤ v8
    · rw [if_pos h18] at k
      have k := ly_revb 1 (c' := (116, [(0, .ref (p 24)), (1, .ref (q 0)), (2, .ref ru), (3, .int v3), (4, .int v4), (5, .int v5), (6, .long v6), (8, .int v8)], [.int v5], me_w (lw M L) J)) rfl k
      have k := lz_ri rfl (by decide) k
      rw [k, x6_9, if_pos h18]
    · rw [if_neg h18] at k
      have k := ly_revb 1 (c' := (22, [(0, .ref (p 24)), (1, .ref (q 0)), (2, .ref ru), (3, .int v3), (4, .int v4), (5, .int v5), (6, .long v6), (8, .int v8)], [.ref (q 0)], me_w (lw M L) J)) rfl k
      have k := lz_get (a := (q 0)) (g := 600) (M := me_w (lw M L) J) (v := .ref (q 1)) rfl (nt_gfR rfl (hq.1 (0, 0, 1) (by decide))) k
      have k := lz_get (a := (q 1)) (g := 806) (M := me_w (lw M L) J) (v := .ref (q 3)) rfl (nt_gfR rfl (hq.1 (1, 6, 3) (by decide))) k
      have k := ly_revb 1 (c' := (30, [(0, .ref (p 24)), (1, .ref (q 0)), (2, .ref ru), (3, .int v3), (4, .int v4), (5, .int v5), (6, .long v6), (8, .int v8)], [.int v8, .ref (q 3)], me_w (lw M L) J)) rfl k
      have k := mx_iald (v := J (q 3) v8.toNatClampNeg) rfl (hq.2.2.1 3 (by omega)) (rfl) k
      have k := ly_revb 2 (c' := (if (J (q 3) v8.toNatClampNeg) = v4 then 36 else 108, [(0, .ref (p 24)), (1, .ref (q 0)), (2, .ref ru), (3, .int v3), (4, .int v4), (5, .int v5), (6, .long v6), (8, .int v8)], [], me_w (lw M L) J)) rfl k
      by_cases h33 : (J (q 3) v8.toNatClampNeg) = v4
      · rw [if_pos h33] at k
        have k := ly_revb 3 (c' := (40, [(0, .ref (p 24)), (1, .ref (q 0)), (2, .ref ru), (3, .int v3), (4, .int v4), (5, .int v5), (6, .long v6), (8, .int v8)], [.ref (q 0), .int v8, .ref (q 0)], me_w (lw M L) J)) rfl k
        have k := lz_get (a := (q 0)) (g := 600) (M := me_w (lw M L) J) (v := .ref (q 1)) rfl (nt_gfR rfl (hq.1 (0, 0, 1) (by decide))) k
        have k := lz_get (a := (q 1)) (g := 809) (M := me_w (lw M L) J) (v := .ref (q 6)) rfl (nt_gfR rfl (hq.1 (1, 9, 6) (by decide))) k
        have k := ly_revb 1 (c' := (47, [(0, .ref (p 24)), (1, .ref (q 0)), (2, .ref ru), (3, .int v3), (4, .int v4), (5, .int v5), (6, .long v6), (8, .int v8)], [.int v3, .ref (q 6), .int v8, .ref (q 0)], me_w (lw M L) J)) rfl k
        have k := mx_iald (v := J (q 6) v3.toNatClampNeg) rfl (hq.2.2.1 6 (by omega)) (rfl) k
        obtain ⟨d1, o1, ed, kc, k⟩ := lz_c (g := 7) (q := 0) (vs := [.ref (q 0), .int v8, .int (J (q 6) v3.toNatClampNeg)]) (rest := []) rfl rfl (by decide) (Or.inl ⟨_, rfl, rfl⟩) rfl k
        have e1 := xt7 (xs_lq hq) kc
        subst e1
        have k : nt_rn X _ 6 (51, [(0, .ref (p 24)), (1, .ref (q 0)), (2, .ref ru), (3, .int v3), (4, .int v4), (5, .int v5), (6, .long v6), (8, .int v8)], [.int (x7 q v8 (J (q 6) v3.toNatClampNeg) J)], me_w (lw M L) J) _ := k
        have k := ly_revb 1 (c' := (if (x7 q v8 (J (q 6) v3.toNatClampNeg) J) = 0 then 108 else 54, [(0, .ref (p 24)), (1, .ref (q 0)), (2, .ref ru), (3, .int v3), (4, .int v4), (5, .int v5), (6, .long v6), (8, .int v8)], [], me_w (lw M L) J)) rfl k
        by_cases h51 : (x7 q v8 (J (q 6) v3.toNatClampNeg) J) = 0
        · rw [if_pos h51] at k
          have k := ly_revb 2 (c' := (9, [(8, .int (v8 + (Int32.ofInt 1))), (0, .ref (p 24)), (1, .ref (q 0)), (2, .ref ru), (3, .int v3), (4, .int v4), (5, .int v5), (6, .long v6)], [], me_w (lw M L) J)) rfl k
          have k := nt_rn_w (a := [(8, .int (v8 + (Int32.ofInt 1))), (0, .ref (p 24)), (1, .ref (q 0)), (2, .ref ru), (3, .int v3), (4, .int v4), (5, .int v5), (6, .long v6)]) (b := [(0, .ref (p 24)), (1, .ref (q 0)), (2, .ref ru), (3, .int v3), (4, .int v4), (5, .int v5), (6, .long v6), (8, .int (v8 + (Int32.ofInt 1)))]) ⟨rfl, rfl, rfl, rfl, rfl, rfl, rfl, rfl, trivial⟩ rfl k
          have k := ih v5 v6 (v8 + (Int32.ofInt 1)) J L (lx_dec h18 hc) k
          rw [k, x6_9, if_neg h18, if_pos h33, if_pos h51]
        · rw [if_neg h51] at k
          have k := ly_revb 4 (c' := (59, [(0, .ref (p 24)), (1, .ref (q 0)), (2, .ref ru), (3, .int v3), (4, .int v4), (5, .int v5), (6, .long v6), (8, .int v8)], [.int v3, .int v8, .ref (q 0), .ref (p 24)], me_w (lw M L) J)) rfl k
          obtain ⟨d1, o1, ed, kc, k⟩ := lz_c (g := 8) (q := 1) (vs := [.ref (p 24), .ref (q 0), .int v8, .int v3]) (rest := []) rfl rfl (by decide) (Or.inr (Or.inl ⟨_, rfl, rfl⟩)) rfl k
          have e1 := xt8 hp hq hx kc
          subst e1
          have k : nt_rn X _ 6 (62, [(0, .ref (p 24)), (1, .ref (q 0)), (2, .ref ru), (3, .int v3), (4, .int v4), (5, .int v5), (6, .long v6), (8, .int v8)], [], me_w (lw M (x8 p q v8 v3 J L)) J) _ := k
          have k := ly_revb 1 (c' := (63, [(0, .ref (p 24)), (1, .ref (q 0)), (2, .ref ru), (3, .int v3), (4, .int v4), (5, .int v5), (6, .long v6), (8, .int v8)], [.ref (p 24)], me_w (lw M (x8 p q v8 v3 J L)) J)) rfl k
          have k := lz_get (a := (p 24)) (g := 0) (M := me_w (lw M (x8 p q v8 v3 J L)) J) (v := .ref (p 25)) rfl (nt_gfR rfl (hp.1 (24, 0, 25) (by decide))) k
          have k := ly_revb 1 (c' := (67, [(0, .ref (p 24)), (1, .ref (q 0)), (2, .ref ru), (3, .int v3), (4, .int v4), (5, .int v5), (6, .long v6), (8, .int v8)], [.ref ru, .ref (p 25)], me_w (lw M (x8 p q v8 v3 J L)) J)) rfl k
          have k := lz_get (a := ru) (g := 400) (M := me_w (lw M (x8 p q v8 v3 J L)) J) (v := .ref sp) rfl (nt_gfR rfl hs.1) k
          obtain ⟨d1, o1, ed, kc, k⟩ := lz_c (g := 41) (q := 1) (vs := [.ref (p 25), .ref sp]) (rest := []) rfl rfl (by decide) (Or.inr (Or.inl ⟨_, rfl, rfl⟩)) rfl k
          have e1 := xt41 hp hs kc
          subst e1
          have k : nt_rn X _ 6 (73, [(0, .ref (p 24)), (1, .ref (q 0)), (2, .ref ru), (3, .int v3), (4, .int v4), (5, .int v5), (6, .long v6), (8, .int v8)], [.int ((x41 p sp ln J (x8 p q v8 v3 J L)).1)], me_w (lw M ((x41 p sp ln J (x8 p q v8 v3 J L)).2.2)) ((x41 p sp ln J (x8 p q v8 v3 J L)).2.1)) _ := k
          have k := ly_revb 1 (c' := (if ((x41 p sp ln J (x8 p q v8 v3 J L)).1) = 0 then 108 else 76, [(0, .ref (p 24)), (1, .ref (q 0)), (2, .ref ru), (3, .int v3), (4, .int v4), (5, .int v5), (6, .long v6), (8, .int v8)], [], me_w (lw M ((x41 p sp ln J (x8 p q v8 v3 J L)).2.2)) ((x41 p sp ln J (x8 p q v8 v3 J L)).2.1))) rfl k
          by_cases h73 : ((x41 p sp ln J (x8 p q v8 v3 J L)).1) = 0
          · rw [if_pos h73] at k
            have k := ly_revb 2 (c' := (9, [(8, .int (v8 + (Int32.ofInt 1))), (0, .ref (p 24)), (1, .ref (q 0)), (2, .ref ru), (3, .int v3), (4, .int v4), (5, .int v5), (6, .long v6)], [], me_w (lw M ((x41 p sp ln J (x8 p q v8 v3 J L)).2.2)) ((x41 p sp ln J (x8 p q v8 v3 J L)).2.1))) rfl k
            have k := nt_rn_w (a := [(8, .int (v8 + (Int32.ofInt 1))), (0, .ref (p 24)), (1, .ref (q 0)), (2, .ref ru), (3, .int v3), (4, .int v4), (5, .int v5), (6, .long v6)]) (b := [(0, .ref (p 24)), (1, .ref (q 0)), (2, .ref ru), (3, .int v3), (4, .int v4), (5, .int v5), (6, .long v6), (8, .int (v8 + (Int32.ofInt 1)))]) ⟨rfl, rfl, rfl, rfl, rfl, rfl, rfl, rfl, trivial⟩ rfl k
            have k := ih v5 v6 (v8 + (Int32.ofInt 1)) ((x41 p sp ln J (x8 p q v8 v3 J L)).2.1) ((x41 p sp ln J (x8 p q v8 v3 J L)).2.2) (by rw [show ((x41 p sp ln J (x8 p q v8 v3 J L)).2.1) (q 1) 2 = J (q 1) 2 from congrFun (x41_frJ  (hx 1 25 (by omega) (by omega))) 2]; exact lx_dec h18 hc) k
            rw [k, x6_9, if_neg h18, if_pos h33, if_neg h51, if_pos h73]
          · rw [if_neg h73] at k
            have k := ly_revb 3 (c' := (if v5 = (Int32.ofInt (-1)) then 95 else 82, [(0, .ref (p 24)), (1, .ref (q 0)), (2, .ref ru), (3, .int v3), (4, .int v4), (5, .int v5), (6, .long v6), (8, .int v8)], [], me_w (lw M ((x41 p sp ln J (x8 p q v8 v3 J L)).2.2)) ((x41 p sp ln J (x8 p q v8 v3 J L)).2.1))) rfl k
            by_cases h79 : v5 = (Int32.ofInt (-1))
            · rw [if_pos h79] at k
              have k := ly_revb 3 (c' := (100, [(5, .int v8), (0, .ref (p 24)), (1, .ref (q 0)), (2, .ref ru), (3, .int v3), (4, .int v4), (6, .long v6), (8, .int v8)], [.ref (p 24)], me_w (lw M ((x41 p sp ln J (x8 p q v8 v3 J L)).2.2)) ((x41 p sp ln J (x8 p q v8 v3 J L)).2.1))) rfl k
              have k := lz_get (a := (p 24)) (g := 0) (M := me_w (lw M ((x41 p sp ln J (x8 p q v8 v3 J L)).2.2)) ((x41 p sp ln J (x8 p q v8 v3 J L)).2.1)) (v := .ref (p 25)) rfl (nt_gfR rfl (hp.1 (24, 0, 25) (by decide))) k
              obtain ⟨d1, o1, ed, kc, k⟩ := lz_c (g := 45) (q := 1) (vs := [.ref (p 25)]) (rest := []) rfl rfl (by decide) (Or.inr (Or.inl ⟨_, rfl, rfl⟩)) rfl k
              have e1 := xt45 hp kc
              subst e1
              have k : nt_rn X _ 6 (106, [(5, .int v8), (0, .ref (p 24)), (1, .ref (q 0)), (2, .ref ru), (3, .int v3), (4, .int v4), (6, .long v6), (8, .int v8)], [.long (x45 p ((x41 p sp ln J (x8 p q v8 v3 J L)).2.1) ((x41 p sp ln J (x8 p q v8 v3 J L)).2.2))], me_w (lw M ((x41 p sp ln J (x8 p q v8 v3 J L)).2.2)) ((x41 p sp ln J (x8 p q v8 v3 J L)).2.1)) _ := k
              have k := ly_revb 3 (c' := (9, [(8, .int (v8 + (Int32.ofInt 1))), (6, .long (x45 p ((x41 p sp ln J (x8 p q v8 v3 J L)).2.1) ((x41 p sp ln J (x8 p q v8 v3 J L)).2.2))), (5, .int v8), (0, .ref (p 24)), (1, .ref (q 0)), (2, .ref ru), (3, .int v3), (4, .int v4)], [], me_w (lw M ((x41 p sp ln J (x8 p q v8 v3 J L)).2.2)) ((x41 p sp ln J (x8 p q v8 v3 J L)).2.1))) rfl k
              have k := nt_rn_w (a := [(8, .int (v8 + (Int32.ofInt 1))), (6, .long (x45 p ((x41 p sp ln J (x8 p q v8 v3 J L)).2.1) ((x41 p sp ln J (x8 p q v8 v3 J L)).2.2))), (5, .int v8), (0, .ref (p 24)), (1, .ref (q 0)), (2, .ref ru), (3, .int v3), (4, .int v4)]) (b := [(0, .ref (p 24)), (1, .ref (q 0)), (2, .ref ru), (3, .int v3), (4, .int v4), (5, .int v8), (6, .long (x45 p ((x41 p sp ln J (x8 p q v8 v3 J L)).2.1) ((x41 p sp ln J (x8 p q v8 v3 J L)).2.2))), (8, .int (v8 + (Int32.ofInt 1)))]) ⟨rfl, rfl, rfl, rfl, rfl, rfl, rfl, rfl, trivial⟩ rfl k
              have k := ih v8 (x45 p ((x41 p sp ln J (x8 p q v8 v3 J L)).2.1) ((x41 p sp ln J (x8 p q v8 v3 J L)).2.2)) (v8 + (Int32.ofInt 1)) ((x41 p sp ln J (x8 p q v8 v3 J L)).2.1) ((x41 p sp ln J (x8 p q v8 v3 J L)).2.2) (by rw [show ((x41 p sp ln J (x8 p q v8 v3 J L)).2.1) (q 1) 2 = J (q 1) 2 from congrFun (x41_frJ  (hx 1 25 (by omega) (by omega))) 2]; exact lx_dec h18 hc) k
              rw [k, x6_9, if_neg h18, if_pos h33, if_neg h51, if_neg h73, if_pos h79]
            · rw [if_neg h79] at k
              have k := ly_revb 1 (c' := (83, [(0, .ref (p 24)), (1, .ref (q 0)), (2, .ref ru), (3, .int v3), (4, .int v4), (5, .int v5), (6, .long v6), (8, .int v8)], [.ref (p 24)], me_w (lw M ((x41 p sp ln J (x8 p q v8 v3 J L)).2.2)) ((x41 p sp ln J (x8 p q v8 v3 J L)).2.1))) rfl k
              have k := lz_get (a := (p 24)) (g := 0) (M := me_w (lw M ((x41 p sp ln J (x8 p q v8 v3 J L)).2.2)) ((x41 p sp ln J (x8 p q v8 v3 J L)).2.1)) (v := .ref (p 25)) rfl (nt_gfR rfl (hp.1 (24, 0, 25) (by decide))) k
              obtain ⟨d1, o1, ed, kc, k⟩ := lz_c (g := 45) (q := 1) (vs := [.ref (p 25)]) (rest := []) rfl rfl (by decide) (Or.inr (Or.inl ⟨_, rfl, rfl⟩)) rfl k
              have e1 := xt45 hp kc
              subst e1
              have k : nt_rn X _ 6 (89, [(0, .ref (p 24)), (1, .ref (q 0)), (2, .ref ru), (3, .int v3), (4, .int v4), (5, .int v5), (6, .long v6), (8, .int v8)], [.long (x45 p ((x41 p sp ln J (x8 p q v8 v3 J L)).2.1) ((x41 p sp ln J (x8 p q v8 v3 J L)).2.2))], me_w (lw M ((x41 p sp ln J (x8 p q v8 v3 J L)).2.2)) ((x41 p sp ln J (x8 p q v8 v3 J L)).2.1)) _ := k
              have k := ly_revb 3 (c' := (if 0 ≤ (lg_cmp (x45 p ((x41 p sp ln J (x8 p q v8 v3 J L)).2.1) ((x41 p sp ln J (x8 p q v8 v3 J L)).2.2)) v6) then 108 else 95, [(0, .ref (p 24)), (1, .ref (q 0)), (2, .ref ru), (3, .int v3), (4, .int v4), (5, .int v5), (6, .long v6), (8, .int v8)], [], me_w (lw M ((x41 p sp ln J (x8 p q v8 v3 J L)).2.2)) ((x41 p sp ln J (x8 p q v8 v3 J L)).2.1))) rfl k
              by_cases h92 : 0 ≤ (lg_cmp (x45 p ((x41 p sp ln J (x8 p q v8 v3 J L)).2.1) ((x41 p sp ln J (x8 p q v8 v3 J L)).2.2)) v6)
              · rw [if_pos h92] at k
                have k := ly_revb 2 (c' := (9, [(8, .int (v8 + (Int32.ofInt 1))), (0, .ref (p 24)), (1, .ref (q 0)), (2, .ref ru), (3, .int v3), (4, .int v4), (5, .int v5), (6, .long v6)], [], me_w (lw M ((x41 p sp ln J (x8 p q v8 v3 J L)).2.2)) ((x41 p sp ln J (x8 p q v8 v3 J L)).2.1))) rfl k
                have k := nt_rn_w (a := [(8, .int (v8 + (Int32.ofInt 1))), (0, .ref (p 24)), (1, .ref (q 0)), (2, .ref ru), (3, .int v3), (4, .int v4), (5, .int v5), (6, .long v6)]) (b := [(0, .ref (p 24)), (1, .ref (q 0)), (2, .ref ru), (3, .int v3), (4, .int v4), (5, .int v5), (6, .long v6), (8, .int (v8 + (Int32.ofInt 1)))]) ⟨rfl, rfl, rfl, rfl, rfl, rfl, rfl, rfl, trivial⟩ rfl k
                have k := ih v5 v6 (v8 + (Int32.ofInt 1)) ((x41 p sp ln J (x8 p q v8 v3 J L)).2.1) ((x41 p sp ln J (x8 p q v8 v3 J L)).2.2) (by rw [show ((x41 p sp ln J (x8 p q v8 v3 J L)).2.1) (q 1) 2 = J (q 1) 2 from congrFun (x41_frJ  (hx 1 25 (by omega) (by omega))) 2]; exact lx_dec h18 hc) k
                rw [k, x6_9, if_neg h18, if_pos h33, if_neg h51, if_neg h73, if_neg h79, if_pos h92]
              · rw [if_neg h92] at k
                have k := ly_revb 3 (c' := (100, [(5, .int v8), (0, .ref (p 24)), (1, .ref (q 0)), (2, .ref ru), (3, .int v3), (4, .int v4), (6, .long v6), (8, .int v8)], [.ref (p 24)], me_w (lw M ((x41 p sp ln J (x8 p q v8 v3 J L)).2.2)) ((x41 p sp ln J (x8 p q v8 v3 J L)).2.1))) rfl k
                have k := lz_get (a := (p 24)) (g := 0) (M := me_w (lw M ((x41 p sp ln J (x8 p q v8 v3 J L)).2.2)) ((x41 p sp ln J (x8 p q v8 v3 J L)).2.1)) (v := .ref (p 25)) rfl (nt_gfR rfl (hp.1 (24, 0, 25) (by decide))) k
                obtain ⟨d1, o1, ed, kc, k⟩ := lz_c (g := 45) (q := 1) (vs := [.ref (p 25)]) (rest := []) rfl rfl (by decide) (Or.inr (Or.inl ⟨_, rfl, rfl⟩)) rfl k
                have e1 := xt45 hp kc
                subst e1
                have k : nt_rn X _ 6 (106, [(5, .int v8), (0, .ref (p 24)), (1, .ref (q 0)), (2, .ref ru), (3, .int v3), (4, .int v4), (6, .long v6), (8, .int v8)], [.long (x45 p ((x41 p sp ln J (x8 p q v8 v3 J L)).2.1) ((x41 p sp ln J (x8 p q v8 v3 J L)).2.2))], me_w (lw M ((x41 p sp ln J (x8 p q v8 v3 J L)).2.2)) ((x41 p sp ln J (x8 p q v8 v3 J L)).2.1)) _ := k
                have k := ly_revb 3 (c' := (9, [(8, .int (v8 + (Int32.ofInt 1))), (6, .long (x45 p ((x41 p sp ln J (x8 p q v8 v3 J L)).2.1) ((x41 p sp ln J (x8 p q v8 v3 J L)).2.2))), (5, .int v8), (0, .ref (p 24)), (1, .ref (q 0)), (2, .ref ru), (3, .int v3), (4, .int v4)], [], me_w (lw M ((x41 p sp ln J (x8 p q v8 v3 J L)).2.2)) ((x41 p sp ln J (x8 p q v8 v3 J L)).2.1))) rfl k
                have k := nt_rn_w (a := [(8, .int (v8 + (Int32.ofInt 1))), (6, .long (x45 p ((x41 p sp ln J (x8 p q v8 v3 J L)).2.1) ((x41 p sp ln J (x8 p q v8 v3 J L)).2.2))), (5, .int v8), (0, .ref (p 24)), (1, .ref (q 0)), (2, .ref ru), (3, .int v3), (4, .int v4)]) (b := [(0, .ref (p 24)), (1, .ref (q 0)), (2, .ref ru), (3, .int v3), (4, .int v4), (5, .int v8), (6, .long (x45 p ((x41 p sp ln J (x8 p q v8 v3 J L)).2.1) ((x41 p sp ln J (x8 p q v8 v3 J L)).2.2))), (8, .int (v8 + (Int32.ofInt 1)))]) ⟨rfl, rfl, rfl, rfl, rfl, rfl, rfl, rfl, trivial⟩ rfl k
                have k := ih v8 (x45 p ((x41 p sp ln J (x8 p q v8 v3 J L)).2.1) ((x41 p sp ln J (x8 p q v8 v3 J L)).2.2)) (v8 + (Int32.ofInt 1)) ((x41 p sp ln J (x8 p q v8 v3 J L)).2.1) ((x41 p sp ln J (x8 p q v8 v3 J L)).2.2) (by rw [show ((x41 p sp ln J (x8 p q v8 v3 J L)).2.1) (q 1) 2 = J (q 1) 2 from congrFun (x41_frJ  (hx 1 25 (by omega) (by omega))) 2]; exact lx_dec h18 hc) k
                rw [k, x6_9, if_neg h18, if_pos h33, if_neg h51, if_neg h73, if_neg h79, if_neg h92]
      · rw [if_neg h33] at k
        have k := ly_revb 2 (c' := (9, [(8, .int (v8 + (Int32.ofInt 1))), (0, .ref (p 24)), (1, .ref (q 0)), (2, .ref ru), (3, .int v3), (4, .int v4), (5, .int v5), (6, .long v6)], [], me_w (lw M L) J)) rfl k
        have k := nt_rn_w (a := [(8, .int (v8 + (Int32.ofInt 1))), (0, .ref (p 24)), (1, .ref (q 0)), (2, .ref ru), (3, .int v3), (4, .int v4), (5, .int v5), (6, .long v6)]) (b := [(0, .ref (p 24)), (1, .ref (q 0)), (2, .ref ru), (3, .int v3), (4, .int v4), (5, .int v5), (6, .long v6), (8, .int (v8 + (Int32.ofInt 1)))]) ⟨rfl, rfl, rfl, rfl, rfl, rfl, rfl, rfl, trivial⟩ rfl k
        have k := ih v5 v6 (v8 + (Int32.ofInt 1)) J L (lx_dec h18 hc) k
        rw [k, x6_9, if_neg h18, if_neg h33]
theorem x6_9_rule {p : Nat → Nat} {q : Nat → Nat} {sp : Nat} {ln : Nat} {v3 : Int32} {v4 : Int32} {I : Nat → Int32 → Int64 → Int32 → (Nat → Nat → Int32) → (Nat → Nat → Int64) → Prop} {Q : Int32 × (Nat → Nat → Int32) × (Nat → Nat → Int64) → Prop} (h0 : ∀ (v5 : Int32) (v6 : Int64) (v8 : Int32) (J : Nat → Nat → Int32) (L : Nat → Nat → Int64), I 0 v5 v6 v8 J L → Q (v5, J, L)) (h1 : ∀ (c : Nat) (v5 : Int32) (v6 : Int64) (v8 : Int32) (J : Nat → Nat → Int32) (L : Nat → Nat → Int64), I (c + 1) v5 v6 v8 J L →
    if (J (q 1) 2) ≤ v8 then (Q (v5, J, L))
    else if (J (q 3) v8.toNatClampNeg) = v4 then if (x7 q v8 (J (q 6) v3.toNatClampNeg) J) = 0 then (I c v5 v6 (v8 + (Int32.ofInt 1)) J L)
        else if ((x41 p sp ln J (x8 p q v8 v3 J L)).1) = 0 then (I c v5 v6 (v8 + (Int32.ofInt 1)) ((x41 p sp ln J (x8 p q v8 v3 J L)).2.1) ((x41 p sp ln J (x8 p q v8 v3 J L)).2.2))
          else if v5 = (Int32.ofInt (-1)) then (I c v8 (x45 p ((x41 p sp ln J (x8 p q v8 v3 J L)).2.1) ((x41 p sp ln J (x8 p q v8 v3 J L)).2.2)) (v8 + (Int32.ofInt 1)) ((x41 p sp ln J (x8 p q v8 v3 J L)).2.1) ((x41 p sp ln J (x8 p q v8 v3 J L)).2.2))
            else if 0 ≤ (lg_cmp (x45 p ((x41 p sp ln J (x8 p q v8 v3 J L)).2.1) ((x41 p sp ln J (x8 p q v8 v3 J L)).2.2)) v6) then (I c v5 v6 (v8 + (Int32.ofInt 1)) ((x41 p sp ln J (x8 p q v8 v3 J L)).2.1) ((x41 p sp ln J (x8 p q v8 v3 J L)).2.2))
              else (I c v8 (x45 p ((x41 p sp ln J (x8 p q v8 v3 J L)).2.1) ((x41 p sp ln J (x8 p q v8 v3 J L)).2.2)) (v8 + (Int32.ofInt 1)) ((x41 p sp ln J (x8 p q v8 v3 J L)).2.1) ((x41 p sp ln J (x8 p q v8 v3 J L)).2.2))
      else (I c v5 v6 (v8 + (Int32.ofInt 1)) J L)) : ∀ (c : Nat) (v5 : Int32) (v6 : Int64) (v8 : Int32) (J : Nat → Nat → Int32) (L : Nat → Nat → Int64), I c v5 v6 v8 J L → Q (x6_9 p q sp ln v3 v4 c v5 v6 v8 J L) := by
  intro c
  induction c with
  | zero =>
    intro v5 v6 v8 J L hi
    rw [x6_9]
    exact h0 v5 v6 v8 J L hi
  | succ c ih =>
    intro v5 v6 v8 J L hi
    have hi := h1 c v5 v6 v8 J L hi
    rw [x6_9]
    by_cases h : (J (q 1) 2) ≤ v8
    · rw [if_pos h] at hi ⊢
      exact hi
    · rw [if_neg h] at hi ⊢
      by_cases h : (J (q 3) v8.toNatClampNeg) = v4
      · rw [if_pos h] at hi ⊢
        by_cases h : (x7 q v8 (J (q 6) v3.toNatClampNeg) J) = 0
        · rw [if_pos h] at hi ⊢
          exact ih _ _ _ _ _ hi
        · rw [if_neg h] at hi ⊢
          by_cases h : ((x41 p sp ln J (x8 p q v8 v3 J L)).1) = 0
          · rw [if_pos h] at hi ⊢
            exact ih _ _ _ _ _ hi
          · rw [if_neg h] at hi ⊢
            by_cases h : v5 = (Int32.ofInt (-1))
            · rw [if_pos h] at hi ⊢
              exact ih _ _ _ _ _ hi
            · rw [if_neg h] at hi ⊢
              by_cases h : 0 ≤ (lg_cmp (x45 p ((x41 p sp ln J (x8 p q v8 v3 J L)).2.1) ((x41 p sp ln J (x8 p q v8 v3 J L)).2.2)) v6)
              · rw [if_pos h] at hi ⊢
                exact ih _ _ _ _ _ hi
              · rw [if_neg h] at hi ⊢
                exact ih _ _ _ _ _ hi
      · rw [if_neg h] at hi ⊢
        exact ih _ _ _ _ _ hi
def x6 (p : Nat → Nat) (q : Nat → Nat) (sp : Nat) (ln : Nat) (v3 : Int32) (v4 : Int32) (J : Nat → Nat → Int32) (L : Nat → Nat → Int64) : Int32 × (Nat → Nat → Int32) × (Nat → Nat → Int64) := (x6_9 p q sp ln v3 v4 ((J (q 1) 2).toNatClampNeg) (Int32.ofInt (-1)) (Int64.ofNat 0) (Int32.ofInt 0) J L)
theorem xt6 {X : nt_X} {d : Nat} {M : nt_M} {o : Option Value × nt_M} {p : Nat → Nat} {q : Nat → Nat} {sp : Nat} {ln : Nat} {ru : Nat} {v3 : Int32} {v4 : Int32} {J : Nat → Nat → Int32} {L : Nat → Nat → Int64} (hp : xs_P M p) (hq : xs_Q M q) (hx : xs_X p q) (hs : xs_S M p ru sp ln) (k : nt_ev X d 6 [.ref (p 24), .ref (q 0), .ref ru, .int v3, .int v4] (me_w (lw M L) J) o) : o = (some (.int ((x6 p q sp ln v3 v4 J L).1)), me_w (lw M ((x6 p q sp ln v3 v4 J L).2.2)) ((x6 p q sp ln v3 v4 J L).2.1)) := by
  have k : nt_rn X d 6 (0, [(0, .ref (p 24)), (1, .ref (q 0)), (2, .ref ru), (3, .int v3), (4, .int v4)], [], me_w (lw M L) J) o := k
  have k := ly_revb 6 (c' := (9, [(8, .int (Int32.ofInt 0)), (6, .long (Int64.ofNat 0)), (5, .int (Int32.ofInt (-1))), (0, .ref (p 24)), (1, .ref (q 0)), (2, .ref ru), (3, .int v3), (4, .int v4)], [], me_w (lw M L) J)) rfl k
  have k := nt_rn_w (a := [(8, .int (Int32.ofInt 0)), (6, .long (Int64.ofNat 0)), (5, .int (Int32.ofInt (-1))), (0, .ref (p 24)), (1, .ref (q 0)), (2, .ref ru), (3, .int v3), (4, .int v4)]) (b := [(0, .ref (p 24)), (1, .ref (q 0)), (2, .ref ru), (3, .int v3), (4, .int v4), (5, .int (Int32.ofInt (-1))), (6, .long (Int64.ofNat 0)), (8, .int (Int32.ofInt 0))]) ⟨rfl, rfl, rfl, rfl, rfl, rfl, rfl, rfl, trivial⟩ rfl k
  have k := xt6_9 hp hq hx hs  ((J (q 1) 2).toNatClampNeg) (Int32.ofInt (-1)) (Int64.ofNat 0) (Int32.ofInt 0) J L (lx_beg (by decide)) k
  rw [k, x6]
theorem x6_9_frJ {p : Nat → Nat} {q : Nat → Nat} {sp : Nat} {ln : Nat} {v3 : Int32} {v4 : Int32} {b : Nat} : ∀ (c : Nat) (v5 : Int32) (v6 : Int64) (v8 : Int32) (J : Nat → Nat → Int32) (L : Nat → Nat → Int64), b ≠ p 25 → (x6_9 p q sp ln v3 v4 c v5 v6 v8 J L).2.1 b = J b := by
  intro c
  induction c with
  | zero =>
    intro v5 v6 v8 J L n0
    rw [x6_9]
    all_goals first | (dsimp only; exact (show J b = J b from rfl)) | exact (show J b = J b from rfl)
  | succ c ih =>
    intro v5 v6 v8 J L n0
    rw [x6_9]
    by_cases h : (J (q 1) 2) ≤ v8
    · rw [if_pos h]
      all_goals first | (dsimp only; exact (show J b = J b from rfl)) | exact (show J b = J b from rfl)
    · rw [if_neg h]
      by_cases h : (J (q 3) v8.toNatClampNeg) = v4
      · rw [if_pos h]
        by_cases h : (x7 q v8 (J (q 6) v3.toNatClampNeg) J) = 0
        · rw [if_pos h]
          exact (ih _ _ _ _ _ n0).trans (rfl)
        · rw [if_neg h]
          by_cases h : ((x41 p sp ln J (x8 p q v8 v3 J L)).1) = 0
          · rw [if_pos h]
            exact (ih _ _ _ _ _ n0).trans (x41_frJ  n0)
          · rw [if_neg h]
            by_cases h : v5 = (Int32.ofInt (-1))
            · rw [if_pos h]
              exact (ih _ _ _ _ _ n0).trans (x41_frJ  n0)
            · rw [if_neg h]
              by_cases h : 0 ≤ (lg_cmp (x45 p ((x41 p sp ln J (x8 p q v8 v3 J L)).2.1) ((x41 p sp ln J (x8 p q v8 v3 J L)).2.2)) v6)
              · rw [if_pos h]
                exact (ih _ _ _ _ _ n0).trans (x41_frJ  n0)
              · rw [if_neg h]
                exact (ih _ _ _ _ _ n0).trans (x41_frJ  n0)
      · rw [if_neg h]
        exact (ih _ _ _ _ _ n0).trans (rfl)
theorem x6_frJ {p : Nat → Nat} {q : Nat → Nat} {sp : Nat} {ln : Nat} {v3 : Int32} {v4 : Int32} {J : Nat → Nat → Int32} {L : Nat → Nat → Int64} {b : Nat} (n0 : b ≠ p 25) : (x6 p q sp ln v3 v4 J L).2.1 b = J b := by
  unfold x6
  exact (x6_9_frJ _ _ _ _ _ _ n0).trans (rfl)
theorem x6_9_frL {p : Nat → Nat} {q : Nat → Nat} {sp : Nat} {ln : Nat} {v3 : Int32} {v4 : Int32} {b : Nat} : ∀ (c : Nat) (v5 : Int32) (v6 : Int64) (v8 : Int32) (J : Nat → Nat → Int32) (L : Nat → Nat → Int64), b ≠ p 25 → b ≠ p 26 → b ≠ p 27 → (x6_9 p q sp ln v3 v4 c v5 v6 v8 J L).2.2 b = L b := by
  intro c
  induction c with
  | zero =>
    intro v5 v6 v8 J L n0 n1 n2
    rw [x6_9]
    all_goals first | (dsimp only; exact (show L b = L b from rfl)) | exact (show L b = L b from rfl)
  | succ c ih =>
    intro v5 v6 v8 J L n0 n1 n2
    rw [x6_9]
    by_cases h : (J (q 1) 2) ≤ v8
    · rw [if_pos h]
      all_goals first | (dsimp only; exact (show L b = L b from rfl)) | exact (show L b = L b from rfl)
    · rw [if_neg h]
      by_cases h : (J (q 3) v8.toNatClampNeg) = v4
      · rw [if_pos h]
        by_cases h : (x7 q v8 (J (q 6) v3.toNatClampNeg) J) = 0
        · rw [if_pos h]
          exact (ih _ _ _ _ _ n0 n1 n2).trans (rfl)
        · rw [if_neg h]
          by_cases h : ((x41 p sp ln J (x8 p q v8 v3 J L)).1) = 0
          · rw [if_pos h]
            exact (ih _ _ _ _ _ n0 n1 n2).trans ((x41_frL n0 n2).trans (x8_frL n1))
          · rw [if_neg h]
            by_cases h : v5 = (Int32.ofInt (-1))
            · rw [if_pos h]
              exact (ih _ _ _ _ _ n0 n1 n2).trans ((x41_frL n0 n2).trans (x8_frL n1))
            · rw [if_neg h]
              by_cases h : 0 ≤ (lg_cmp (x45 p ((x41 p sp ln J (x8 p q v8 v3 J L)).2.1) ((x41 p sp ln J (x8 p q v8 v3 J L)).2.2)) v6)
              · rw [if_pos h]
                exact (ih _ _ _ _ _ n0 n1 n2).trans ((x41_frL n0 n2).trans (x8_frL n1))
              · rw [if_neg h]
                exact (ih _ _ _ _ _ n0 n1 n2).trans ((x41_frL n0 n2).trans (x8_frL n1))
      · rw [if_neg h]
        exact (ih _ _ _ _ _ n0 n1 n2).trans (rfl)
theorem x6_frL {p : Nat → Nat} {q : Nat → Nat} {sp : Nat} {ln : Nat} {v3 : Int32} {v4 : Int32} {J : Nat → Nat → Int32} {L : Nat → Nat → Int64} {b : Nat} (n0 : b ≠ p 25) (n1 : b ≠ p 26) (n2 : b ≠ p 27) : (x6 p q sp ln v3 v4 J L).2.2 b = L b := by
  unfold x6
  exact (x6_9_frL _ _ _ _ _ _ n0 n1 n2).trans (rfl)
/-! $Calendar.fill -/
def x5_31 (p : Nat → Nat) (q : Nat → Nat) (sp : Nat) (ln : Nat) (v3 : Int32) (v4 : Int32) (v5 : Int32) (v6 : Int32) : Nat → Int32 → (Nat → Nat → Int32) → (Nat → Nat → Int64) → (Nat → Nat → Int32) × (Nat → Nat → Int64)
  | 0, v7, J, L => (J, L)
  | c + 1, v7, J, L => if v6 ≤ v7 then (J, L)
    else if ((x6 p q sp ln v3 v4 J L).1) = (Int32.ofInt (-1)) then ((x6 p q sp ln v3 v4 J L).2.1, (x6 p q sp ln v3 v4 J L).2.2)
      else (x5_31 p q sp ln v3 v4 v5 v6 c (v7 + (Int32.ofInt 1)) (x74 q ((x6 p q sp ln v3 v4 J L).1) v5 ((x6 p q sp ln v3 v4 J L).2.1)) ((x6 p q sp ln v3 v4 J L).2.2))
theorem xt5_31 {X : nt_X} {d : Nat} {M : nt_M} {o : Option Value × nt_M} {p : Nat → Nat} {q : Nat → Nat} {sp : Nat} {ln : Nat} {ru : Nat} {v3 : Int32} {v4 : Int32} {v5 : Int32} {v6 : Int32} (hp : xs_P M p) (hq : xs_Q M q) (hx : xs_X p q) (hs : xs_S M p ru sp ln) : ∀ (c : Nat) (v7 : Int32) (v8 : Int32) (J : Nat → Nat → Int32) (L : Nat → Nat → Int64), v6.toInt - v7.toInt ≤ c → nt_rn X d 5 (31, [(0, .ref (p 24)), (1, .ref (q 0)), (2, .ref ru), (3, .int v3), (4, .int v4), (5, .int v5), (6, .int v6), (7, .int v7), (8, .int v8)], [], me_w (lw M L) J) o → o = (none, me_w (lw M ((x5_31 p q sp ln v3 v4 v5 v6 c v7 J L).2)) ((x5_31 p q sp ln v3 v4 v5 v6 c v7 J L).1)) := by
  intro c
  induction c with
  | zero =>
    intro v7 v8 J L hc k
    have k := ly_revb 3 (c' := (if v6 ≤ v7 then 70 else 38, [(0, .ref (p 24)), (1, .ref (q 0)), (2, .ref ru), (3, .int v3), (4, .int v4), (5, .int v5), (6, .int v6), (7, .int v7), (8, .int v8)], [], me_w (lw M L) J)) rfl k
    have h35 : v6 ≤ v7 := lx_end hc
    rw [if_pos h35] at k
    have k := lz_rv rfl rfl k
    rw [k, x5_31]
  | succ c ih =>
    intro v7 v8 J L hc k
    have k := ly_revb 3 (c' := (if v6 ≤ v7 then 70 else 38, [(0, .ref (p 24)), (1, .ref (q 0)), (2, .ref ru), (3, .int v3), (4, .int v4), (5, .int v5), (6, .int v6), (7, .int v7), (8, .int v8)], [], me_w (lw M L) J)) rfl k
    by_cases h35 : v6 ≤ v7
    · rw [if_pos h35] at k
      have k := lz_rv rfl rfl k
      rw [k, x5_31, if_pos h35]
    · rw [if_neg h35] at k
      have k := ly_revb 5 (c' := (44, [(0, .ref (p 24)), (1, .ref (q 0)), (2, .ref ru), (3, .int v3), (4, .int v4), (5, .int v5), (6, .int v6), (7, .int v7), (8, .int v8)], [.int v4, .int v3, .ref ru, .ref (q 0), .ref (p 24)], me_w (lw M L) J)) rfl k
      obtain ⟨d1, o1, ed, kc, k⟩ := lz_c (g := 6) (q := 1) (vs := [.ref (p 24), .ref (q 0), .ref ru, .int v3, .int v4]) (rest := []) rfl rfl (by decide) (Or.inr (Or.inl ⟨_, rfl, rfl⟩)) rfl k
      have e1 := xt6 hp hq hx hs kc
      subst e1
      have k : nt_rn X _ 5 (47, [(0, .ref (p 24)), (1, .ref (q 0)), (2, .ref ru), (3, .int v3), (4, .int v4), (5, .int v5), (6, .int v6), (7, .int v7), (8, .int v8)], [.int ((x6 p q sp ln v3 v4 J L).1)], me_w (lw M ((x6 p q sp ln v3 v4 J L).2.2)) ((x6 p q sp ln v3 v4 J L).2.1)) _ := k
      have k := ly_revb 4 (c' := (if ((x6 p q sp ln v3 v4 J L).1) = (Int32.ofInt (-1)) then 55 else 56, [(8, .int ((x6 p q sp ln v3 v4 J L).1)), (0, .ref (p 24)), (1, .ref (q 0)), (2, .ref ru), (3, .int v3), (4, .int v4), (5, .int v5), (6, .int v6), (7, .int v7)], [], me_w (lw M ((x6 p q sp ln v3 v4 J L).2.2)) ((x6 p q sp ln v3 v4 J L).2.1))) rfl k
      by_cases h52 : ((x6 p q sp ln v3 v4 J L).1) = (Int32.ofInt (-1))
      · rw [if_pos h52] at k
        have k := lz_rv rfl rfl k
        rw [k, x5_31, if_neg h35, if_pos h52]
      · rw [if_neg h52] at k
        have k := ly_revb 3 (c' := (61, [(8, .int ((x6 p q sp ln v3 v4 J L).1)), (0, .ref (p 24)), (1, .ref (q 0)), (2, .ref ru), (3, .int v3), (4, .int v4), (5, .int v5), (6, .int v6), (7, .int v7)], [.int v5, .int ((x6 p q sp ln v3 v4 J L).1), .ref (q 0)], me_w (lw M ((x6 p q sp ln v3 v4 J L).2.2)) ((x6 p q sp ln v3 v4 J L).2.1))) rfl k
        obtain ⟨d1, o1, ed, kc, k⟩ := lz_c (g := 74) (q := 1) (vs := [.ref (q 0), .int ((x6 p q sp ln v3 v4 J L).1), .int v5]) (rest := []) rfl rfl (by decide) (Or.inr (Or.inl ⟨_, rfl, rfl⟩)) rfl k
        have e1 := xt74 (xs_lq hq) kc
        subst e1
        have k : nt_rn X _ 5 (64, [(8, .int ((x6 p q sp ln v3 v4 J L).1)), (0, .ref (p 24)), (1, .ref (q 0)), (2, .ref ru), (3, .int v3), (4, .int v4), (5, .int v5), (6, .int v6), (7, .int v7)], [], me_w (lw M ((x6 p q sp ln v3 v4 J L).2.2)) (x74 q ((x6 p q sp ln v3 v4 J L).1) v5 ((x6 p q sp ln v3 v4 J L).2.1))) _ := k
        have k := ly_revb 2 (c' := (31, [(7, .int (v7 + (Int32.ofInt 1))), (8, .int ((x6 p q sp ln v3 v4 J L).1)), (0, .ref (p 24)), (1, .ref (q 0)), (2, .ref ru), (3, .int v3), (4, .int v4), (5, .int v5), (6, .int v6)], [], me_w (lw M ((x6 p q sp ln v3 v4 J L).2.2)) (x74 q ((x6 p q sp ln v3 v4 J L).1) v5 ((x6 p q sp ln v3 v4 J L).2.1)))) rfl k
        have k := nt_rn_w (a := [(7, .int (v7 + (Int32.ofInt 1))), (8, .int ((x6 p q sp ln v3 v4 J L).1)), (0, .ref (p 24)), (1, .ref (q 0)), (2, .ref ru), (3, .int v3), (4, .int v4), (5, .int v5), (6, .int v6)]) (b := [(0, .ref (p 24)), (1, .ref (q 0)), (2, .ref ru), (3, .int v3), (4, .int v4), (5, .int v5), (6, .int v6), (7, .int (v7 + (Int32.ofInt 1))), (8, .int ((x6 p q sp ln v3 v4 J L).1))]) ⟨rfl, rfl, rfl, rfl, rfl, rfl, rfl, rfl, rfl, trivial⟩ rfl k
        have k := ih (v7 + (Int32.ofInt 1)) ((x6 p q sp ln v3 v4 J L).1) (x74 q ((x6 p q sp ln v3 v4 J L).1) v5 ((x6 p q sp ln v3 v4 J L).2.1)) ((x6 p q sp ln v3 v4 J L).2.2) (lx_dec h35 hc) k
        rw [k, x5_31, if_neg h35, if_neg h52]
theorem x5_31_rule {p : Nat → Nat} {q : Nat → Nat} {sp : Nat} {ln : Nat} {v3 : Int32} {v4 : Int32} {v5 : Int32} {v6 : Int32} {I : Nat → Int32 → (Nat → Nat → Int32) → (Nat → Nat → Int64) → Prop} {Q : (Nat → Nat → Int32) × (Nat → Nat → Int64) → Prop} (h0 : ∀ (v7 : Int32) (J : Nat → Nat → Int32) (L : Nat → Nat → Int64), I 0 v7 J L → Q (J, L)) (h1 : ∀ (c : Nat) (v7 : Int32) (J : Nat → Nat → Int32) (L : Nat → Nat → Int64), I (c + 1) v7 J L →
    if v6 ≤ v7 then (Q (J, L))
    else if ((x6 p q sp ln v3 v4 J L).1) = (Int32.ofInt (-1)) then (Q ((x6 p q sp ln v3 v4 J L).2.1, (x6 p q sp ln v3 v4 J L).2.2))
      else (I c (v7 + (Int32.ofInt 1)) (x74 q ((x6 p q sp ln v3 v4 J L).1) v5 ((x6 p q sp ln v3 v4 J L).2.1)) ((x6 p q sp ln v3 v4 J L).2.2))) : ∀ (c : Nat) (v7 : Int32) (J : Nat → Nat → Int32) (L : Nat → Nat → Int64), I c v7 J L → Q (x5_31 p q sp ln v3 v4 v5 v6 c v7 J L) := by
  intro c
  induction c with
  | zero =>
    intro v7 J L hi
    rw [x5_31]
    exact h0 v7 J L hi
  | succ c ih =>
    intro v7 J L hi
    have hi := h1 c v7 J L hi
    rw [x5_31]
    by_cases h : v6 ≤ v7
    · rw [if_pos h] at hi ⊢
      exact hi
    · rw [if_neg h] at hi ⊢
      by_cases h : ((x6 p q sp ln v3 v4 J L).1) = (Int32.ofInt (-1))
      · rw [if_pos h] at hi ⊢
        exact hi
      · rw [if_neg h] at hi ⊢
        exact ih _ _ _ hi
def x5 (p : Nat → Nat) (q : Nat → Nat) (sp : Nat) (ln : Nat) (v3 : Int32) (v4 : Int32) (J : Nat → Nat → Int32) (L : Nat → Nat → Int64) : (Nat → Nat → Int32) × (Nat → Nat → Int64) := (x5_31 p q sp ln v3 v4 (J (q 6) v3.toNatClampNeg) (if (x72 q J) < (x68 q (J (q 6) v3.toNatClampNeg) v4 J) then (x72 q J) else (x68 q (J (q 6) v3.toNatClampNeg) v4 J)) ((if (x72 q J) < (x68 q (J (q 6) v3.toNatClampNeg) v4 J) then (x72 q J) else (x68 q (J (q 6) v3.toNatClampNeg) v4 J)).toNatClampNeg) (Int32.ofInt 0) J L)
theorem xt5 {X : nt_X} {d : Nat} {M : nt_M} {o : Option Value × nt_M} {p : Nat → Nat} {q : Nat → Nat} {sp : Nat} {ln : Nat} {ru : Nat} {v3 : Int32} {v4 : Int32} {J : Nat → Nat → Int32} {L : Nat → Nat → Int64} (hp : xs_P M p) (hq : xs_Q M q) (hx : xs_X p q) (hs : xs_S M p ru sp ln) (k : nt_ev X d 5 [.ref (p 24), .ref (q 0), .ref ru, .int v3, .int v4] (me_w (lw M L) J) o) : o = (none, me_w (lw M ((x5 p q sp ln v3 v4 J L).2)) ((x5 p q sp ln v3 v4 J L).1)) := by
  have k : nt_rn X d 5 (0, [(0, .ref (p 24)), (1, .ref (q 0)), (2, .ref ru), (3, .int v3), (4, .int v4)], [], me_w (lw M L) J) o := k
  have k := ly_revb 1 (c' := (1, [(0, .ref (p 24)), (1, .ref (q 0)), (2, .ref ru), (3, .int v3), (4, .int v4)], [.ref (q 0)], me_w (lw M L) J)) rfl k
  have k := lz_get (a := (q 0)) (g := 600) (M := me_w (lw M L) J) (v := .ref (q 1)) rfl (nt_gfR rfl (hq.1 (0, 0, 1) (by decide))) k
  have k := lz_get (a := (q 1)) (g := 809) (M := me_w (lw M L) J) (v := .ref (q 6)) rfl (nt_gfR rfl (hq.1 (1, 9, 6) (by decide))) k
  have k := ly_revb 1 (c' := (8, [(0, .ref (p 24)), (1, .ref (q 0)), (2, .ref ru), (3, .int v3), (4, .int v4)], [.int v3, .ref (q 6)], me_w (lw M L) J)) rfl k
  have k := mx_iald (v := J (q 6) v3.toNatClampNeg) rfl (hq.2.2.1 6 (by omega)) (rfl) k
  have k := ly_revb 4 (c' := (16, [(5, .int (J (q 6) v3.toNatClampNeg)), (0, .ref (p 24)), (1, .ref (q 0)), (2, .ref ru), (3, .int v3), (4, .int v4)], [.int v4, .int (J (q 6) v3.toNatClampNeg), .ref (q 0)], me_w (lw M L) J)) rfl k
  obtain ⟨d1, o1, ed, kc, k⟩ := lz_c (g := 68) (q := 1) (vs := [.ref (q 0), .int (J (q 6) v3.toNatClampNeg), .int v4]) (rest := []) rfl rfl (by decide) (Or.inr (Or.inl ⟨_, rfl, rfl⟩)) rfl k
  have e1 := xt68 (xs_lq hq) kc
  subst e1
  have k : nt_rn X _ 5 (19, [(5, .int (J (q 6) v3.toNatClampNeg)), (0, .ref (p 24)), (1, .ref (q 0)), (2, .ref ru), (3, .int v3), (4, .int v4)], [.int (x68 q (J (q 6) v3.toNatClampNeg) v4 J)], me_w (lw M L) J) _ := k
  have k := ly_revb 1 (c' := (20, [(5, .int (J (q 6) v3.toNatClampNeg)), (0, .ref (p 24)), (1, .ref (q 0)), (2, .ref ru), (3, .int v3), (4, .int v4)], [.ref (q 0), .int (x68 q (J (q 6) v3.toNatClampNeg) v4 J)], me_w (lw M L) J)) rfl k
  obtain ⟨d1, o1, ed, kc, k⟩ := lz_c (g := 72) (q := 1) (vs := [.ref (q 0)]) (rest := [.int (x68 q (J (q 6) v3.toNatClampNeg) v4 J)]) rfl rfl (by decide) (Or.inr (Or.inl ⟨_, rfl, rfl⟩)) rfl k
  have e1 := xt72 (xs_lq hq) kc
  subst e1
  have k : nt_rn X _ 5 (23, [(5, .int (J (q 6) v3.toNatClampNeg)), (0, .ref (p 24)), (1, .ref (q 0)), (2, .ref ru), (3, .int v3), (4, .int v4)], [.int (x72 q J), .int (x68 q (J (q 6) v3.toNatClampNeg) v4 J)], me_w (lw M L) J) _ := k
  have k := mx_min rfl k
  have k := ly_revb 3 (c' := (31, [(7, .int (Int32.ofInt 0)), (6, .int (if (x72 q J) < (x68 q (J (q 6) v3.toNatClampNeg) v4 J) then (x72 q J) else (x68 q (J (q 6) v3.toNatClampNeg) v4 J))), (5, .int (J (q 6) v3.toNatClampNeg)), (0, .ref (p 24)), (1, .ref (q 0)), (2, .ref ru), (3, .int v3), (4, .int v4)], [], me_w (lw M L) J)) rfl k
  have k := nt_rn_w (a := [(7, .int (Int32.ofInt 0)), (6, .int (if (x72 q J) < (x68 q (J (q 6) v3.toNatClampNeg) v4 J) then (x72 q J) else (x68 q (J (q 6) v3.toNatClampNeg) v4 J))), (5, .int (J (q 6) v3.toNatClampNeg)), (0, .ref (p 24)), (1, .ref (q 0)), (2, .ref ru), (3, .int v3), (4, .int v4)]) (b := [(0, .ref (p 24)), (1, .ref (q 0)), (2, .ref ru), (3, .int v3), (4, .int v4), (5, .int (J (q 6) v3.toNatClampNeg)), (6, .int (if (x72 q J) < (x68 q (J (q 6) v3.toNatClampNeg) v4 J) then (x72 q J) else (x68 q (J (q 6) v3.toNatClampNeg) v4 J))), (7, .int (Int32.ofInt 0)), (8, .int (Int32.ofInt 0))]) ⟨rfl, rfl, rfl, rfl, rfl, rfl, rfl, rfl, trivial⟩ rfl k
  have k := xt5_31 hp hq hx hs  ((if (x72 q J) < (x68 q (J (q 6) v3.toNatClampNeg) v4 J) then (x72 q J) else (x68 q (J (q 6) v3.toNatClampNeg) v4 J)).toNatClampNeg) (Int32.ofInt 0) (Int32.ofInt 0) J L (lx_beg (by decide)) k
  rw [k, x5]
theorem x5_31_frJ {p : Nat → Nat} {q : Nat → Nat} {sp : Nat} {ln : Nat} {v3 : Int32} {v4 : Int32} {v5 : Int32} {v6 : Int32} {b : Nat} : ∀ (c : Nat) (v7 : Int32) (J : Nat → Nat → Int32) (L : Nat → Nat → Int64), b ≠ p 25 → b ≠ q 0 → b ≠ q 14 → (x5_31 p q sp ln v3 v4 v5 v6 c v7 J L).1 b = J b := by
  intro c
  induction c with
  | zero =>
    intro v7 J L n0 n1 n2
    rw [x5_31]
    all_goals first | (dsimp only; exact (show J b = J b from rfl)) | exact (show J b = J b from rfl)
  | succ c ih =>
    intro v7 J L n0 n1 n2
    rw [x5_31]
    by_cases h : v6 ≤ v7
    · rw [if_pos h]
      all_goals first | (dsimp only; exact (show J b = J b from rfl)) | exact (show J b = J b from rfl)
    · rw [if_neg h]
      by_cases h : ((x6 p q sp ln v3 v4 J L).1) = (Int32.ofInt (-1))
      · rw [if_pos h]
        all_goals first | (dsimp only; exact (show ((x6 p q sp ln v3 v4 J L).2.1) b = J b from x6_frJ  n0)) | exact (show ((x6 p q sp ln v3 v4 J L).2.1) b = J b from x6_frJ  n0)
      · rw [if_neg h]
        exact (ih _ _ _ n0 n1 n2).trans ((x74_frJ  n1 n2).trans (x6_frJ  n0))
theorem x5_frJ {p : Nat → Nat} {q : Nat → Nat} {sp : Nat} {ln : Nat} {v3 : Int32} {v4 : Int32} {J : Nat → Nat → Int32} {L : Nat → Nat → Int64} {b : Nat} (n0 : b ≠ p 25) (n1 : b ≠ q 0) (n2 : b ≠ q 14) : (x5 p q sp ln v3 v4 J L).1 b = J b := by
  unfold x5
  exact (x5_31_frJ _ _ _ _ n0 n1 n2).trans (rfl)
theorem x5_31_frL {p : Nat → Nat} {q : Nat → Nat} {sp : Nat} {ln : Nat} {v3 : Int32} {v4 : Int32} {v5 : Int32} {v6 : Int32} {b : Nat} : ∀ (c : Nat) (v7 : Int32) (J : Nat → Nat → Int32) (L : Nat → Nat → Int64), b ≠ p 25 → b ≠ p 26 → b ≠ p 27 → (x5_31 p q sp ln v3 v4 v5 v6 c v7 J L).2 b = L b := by
  intro c
  induction c with
  | zero =>
    intro v7 J L n0 n1 n2
    rw [x5_31]
    all_goals first | (dsimp only; exact (show L b = L b from rfl)) | exact (show L b = L b from rfl)
  | succ c ih =>
    intro v7 J L n0 n1 n2
    rw [x5_31]
    by_cases h : v6 ≤ v7
    · rw [if_pos h]
      all_goals first | (dsimp only; exact (show L b = L b from rfl)) | exact (show L b = L b from rfl)
    · rw [if_neg h]
      by_cases h : ((x6 p q sp ln v3 v4 J L).1) = (Int32.ofInt (-1))
      · rw [if_pos h]
        all_goals first | (dsimp only; exact (show ((x6 p q sp ln v3 v4 J L).2.2) b = L b from x6_frL n0 n1 n2)) | exact (show ((x6 p q sp ln v3 v4 J L).2.2) b = L b from x6_frL n0 n1 n2)
      · rw [if_neg h]
        exact (ih _ _ _ n0 n1 n2).trans (x6_frL n0 n1 n2)
theorem x5_frL {p : Nat → Nat} {q : Nat → Nat} {sp : Nat} {ln : Nat} {v3 : Int32} {v4 : Int32} {J : Nat → Nat → Int32} {L : Nat → Nat → Int64} {b : Nat} (n0 : b ≠ p 25) (n1 : b ≠ p 26) (n2 : b ≠ p 27) : (x5 p q sp ln v3 v4 J L).2 b = L b := by
  unfold x5
  exact (x5_31_frL _ _ _ _ n0 n1 n2).trans (rfl)
/-! $Calendar.setOut -/
def x4_18 (p : Nat → Nat) (q : Nat → Nat) (sp : Nat) (ln : Nat) (v3 : Int32) (v4 : Int32) : Nat → Int32 → (Nat → Nat → Int32) → (Nat → Nat → Int64) → (Nat → Nat → Int32) × (Nat → Nat → Int64)
  | 0, v5, J, L => if (x67 q v4 J) = 0 then (J, L)
    else (nt_u (nt_u (nt_u J (q 10) v4.toNatClampNeg (Int32.ofInt 1)) (q 12) v4.toNatClampNeg v3) (q 16) v3.toNatClampNeg (Int32.ofInt 1), L)
  | c + 1, v5, J, L => if (J (q 1) 0) ≤ v5 then if (x67 q v4 J) = 0 then (J, L)
      else (nt_u (nt_u (nt_u J (q 10) v4.toNatClampNeg (Int32.ofInt 1)) (q 12) v4.toNatClampNeg v3) (q 16) v3.toNatClampNeg (Int32.ofInt 1), L)
    else (x4_18 p q sp ln v3 v4 c (v5 + (Int32.ofInt 1)) ((x5 p q sp ln v3 v5 J L).1) ((x5 p q sp ln v3 v5 J L).2))
theorem xt4_18 {X : nt_X} {d : Nat} {M : nt_M} {o : Option Value × nt_M} {p : Nat → Nat} {q : Nat → Nat} {sp : Nat} {ln : Nat} {ru : Nat} {v3 : Int32} {v4 : Int32} (hp : xs_P M p) (hq : xs_Q M q) (hx : xs_X p q) (hs : xs_S M p ru sp ln) : ∀ (c : Nat) (v5 : Int32) (J : Nat → Nat → Int32) (L : Nat → Nat → Int64), (J (q 1) 0).toInt - v5.toInt ≤ c → nt_rn X d 4 (18, [(0, .ref (p 24)), (1, .ref (q 0)), (2, .ref ru), (3, .int v3), (4, .int v4), (5, .int v5)], [], me_w (lw M L) J) o → o = (none, me_w (lw M ((x4_18 p q sp ln v3 v4 c v5 J L).2)) ((x4_18 p q sp ln v3 v4 c v5 J L).1)) := by
  intro c
  induction c with
  | zero =>
    intro v5 J L hc k
    have k := ly_revb 2 (c' := (21, [(0, .ref (p 24)), (1, .ref (q 0)), (2, .ref ru), (3, .int v3), (4, .int v4), (5, .int v5)], [.ref (q 0), .int v5], me_w (lw M L) J)) rfl k
    have k := lz_get (a := (q 0)) (g := 600) (M := me_w (lw M L) J) (v := .ref (q 1)) rfl (nt_gfR rfl (hq.1 (0, 0, 1) (by decide))) k
    have k := lz_get (a := (q 1)) (g := 800) (M := me_w (lw M L) J) (v := .int (J (q 1) 0)) rfl (congrArg Value.int (rfl)) k
    have k := ly_revb 1 (c' := (if (J (q 1) 0) ≤ v5 then 45 else 30, [(0, .ref (p 24)), (1, .ref (q 0)), (2, .ref ru), (3, .int v3), (4, .int v4), (5, .int v5)], [], me_w (lw M L) J)) rfl k
    have h27 : (J (q 1) 0) ≤ v5 := lx_end hc
    rw [if_pos h27] at k
    have k := ly_revb 2 (c' := (48, [(0, .ref (p 24)), (1, .ref (q 0)), (2, .ref ru), (3, .int v3), (4, .int v4), (5, .int v5)], [.int v4, .ref (q 0)], me_w (lw M L) J)) rfl k
    obtain ⟨d1, o1, ed, kc, k⟩ := lz_c (g := 67) (q := 1) (vs := [.ref (q 0), .int v4]) (rest := []) rfl rfl (by decide) (Or.inr (Or.inl ⟨_, rfl, rfl⟩)) rfl k
    have e1 := xt67 (xs_lq hq) kc
    subst e1
    have k : nt_rn X _ 4 (51, [(0, .ref (p 24)), (1, .ref (q 0)), (2, .ref ru), (3, .int v3), (4, .int v4), (5, .int v5)], [.int (x67 q v4 J)], me_w (lw M L) J) _ := k
    have k := ly_revb 1 (c' := (if (x67 q v4 J) = 0 then 77 else 54, [(0, .ref (p 24)), (1, .ref (q 0)), (2, .ref ru), (3, .int v3), (4, .int v4), (5, .int v5)], [], me_w (lw M L) J)) rfl k
    by_cases h51 : (x67 q v4 J) = 0
    · rw [if_pos h51] at k
      have k := lz_rv rfl rfl k
      rw [k, x4_18, if_pos h51]
    · rw [if_neg h51] at k
      have k := ly_revb 1 (c' := (55, [(0, .ref (p 24)), (1, .ref (q 0)), (2, .ref ru), (3, .int v3), (4, .int v4), (5, .int v5)], [.ref (q 0)], me_w (lw M L) J)) rfl k
      have k := lz_get (a := (q 0)) (g := 607) (M := me_w (lw M L) J) (v := .ref (q 10)) rfl (nt_gfR rfl (hq.1 (0, 7, 10) (by decide))) k
      have k := ly_revb 2 (c' := (61, [(0, .ref (p 24)), (1, .ref (q 0)), (2, .ref ru), (3, .int v3), (4, .int v4), (5, .int v5)], [.int (Int32.ofInt 1), .int v4, .ref (q 10)], me_w (lw M L) J)) rfl k
      have k := mx_iast (q := v4.toNatClampNeg) rfl rfl k
      have k : nt_rn X _ 4 (62, [(0, .ref (p 24)), (1, .ref (q 0)), (2, .ref ru), (3, .int v3), (4, .int v4), (5, .int v5)], [], me_w (lw M L) (nt_u J (q 10) v4.toNatClampNeg (Int32.ofInt 1))) _ := k
      have k := ly_revb 1 (c' := (63, [(0, .ref (p 24)), (1, .ref (q 0)), (2, .ref ru), (3, .int v3), (4, .int v4), (5, .int v5)], [.ref (q 0)], me_w (lw M L) (nt_u J (q 10) v4.toNatClampNeg (Int32.ofInt 1)))) rfl k
      have k := lz_get (a := (q 0)) (g := 609) (M := me_w (lw M L) (nt_u J (q 10) v4.toNatClampNeg (Int32.ofInt 1))) (v := .ref (q 12)) rfl (nt_gfR rfl (hq.1 (0, 9, 12) (by decide))) k
      have k := ly_revb 2 (c' := (69, [(0, .ref (p 24)), (1, .ref (q 0)), (2, .ref ru), (3, .int v3), (4, .int v4), (5, .int v5)], [.int v3, .int v4, .ref (q 12)], me_w (lw M L) (nt_u J (q 10) v4.toNatClampNeg (Int32.ofInt 1)))) rfl k
      have k := mx_iast (q := v4.toNatClampNeg) rfl rfl k
      have k : nt_rn X _ 4 (70, [(0, .ref (p 24)), (1, .ref (q 0)), (2, .ref ru), (3, .int v3), (4, .int v4), (5, .int v5)], [], me_w (lw M L) (nt_u (nt_u J (q 10) v4.toNatClampNeg (Int32.ofInt 1)) (q 12) v4.toNatClampNeg v3)) _ := k
      have k := ly_revb 1 (c' := (71, [(0, .ref (p 24)), (1, .ref (q 0)), (2, .ref ru), (3, .int v3), (4, .int v4), (5, .int v5)], [.ref (q 0)], me_w (lw M L) (nt_u (nt_u J (q 10) v4.toNatClampNeg (Int32.ofInt 1)) (q 12) v4.toNatClampNeg v3))) rfl k
      have k := lz_get (a := (q 0)) (g := 613) (M := me_w (lw M L) (nt_u (nt_u J (q 10) v4.toNatClampNeg (Int32.ofInt 1)) (q 12) v4.toNatClampNeg v3)) (v := .ref (q 16)) rfl (nt_gfR rfl (hq.1 (0, 13, 16) (by decide))) k
      have k := ly_revb 2 (c' := (76, [(0, .ref (p 24)), (1, .ref (q 0)), (2, .ref ru), (3, .int v3), (4, .int v4), (5, .int v5)], [.int (Int32.ofInt 1), .int v3, .ref (q 16)], me_w (lw M L) (nt_u (nt_u J (q 10) v4.toNatClampNeg (Int32.ofInt 1)) (q 12) v4.toNatClampNeg v3))) rfl k
      have k := mx_iast (q := v3.toNatClampNeg) rfl rfl k
      have k : nt_rn X _ 4 (77, [(0, .ref (p 24)), (1, .ref (q 0)), (2, .ref ru), (3, .int v3), (4, .int v4), (5, .int v5)], [], me_w (lw M L) (nt_u (nt_u (nt_u J (q 10) v4.toNatClampNeg (Int32.ofInt 1)) (q 12) v4.toNatClampNeg v3) (q 16) v3.toNatClampNeg (Int32.ofInt 1))) _ := k
      have k := lz_rv rfl rfl k
      rw [k, x4_18, if_neg h51]
  | succ c ih =>
    intro v5 J L hc k
    have k := ly_revb 2 (c' := (21, [(0, .ref (p 24)), (1, .ref (q 0)), (2, .ref ru), (3, .int v3), (4, .int v4), (5, .int v5)], [.ref (q 0), .int v5], me_w (lw M L) J)) rfl k
    have k := lz_get (a := (q 0)) (g := 600) (M := me_w (lw M L) J) (v := .ref (q 1)) rfl (nt_gfR rfl (hq.1 (0, 0, 1) (by decide))) k
    have k := lz_get (a := (q 1)) (g := 800) (M := me_w (lw M L) J) (v := .int (J (q 1) 0)) rfl (congrArg Value.int (rfl)) k
    have k := ly_revb 1 (c' := (if (J (q 1) 0) ≤ v5 then 45 else 30, [(0, .ref (p 24)), (1, .ref (q 0)), (2, .ref ru), (3, .int v3), (4, .int v4), (5, .int v5)], [], me_w (lw M L) J)) rfl k
    by_cases h27 : (J (q 1) 0) ≤ v5
    · rw [if_pos h27] at k
      have k := ly_revb 2 (c' := (48, [(0, .ref (p 24)), (1, .ref (q 0)), (2, .ref ru), (3, .int v3), (4, .int v4), (5, .int v5)], [.int v4, .ref (q 0)], me_w (lw M L) J)) rfl k
      obtain ⟨d1, o1, ed, kc, k⟩ := lz_c (g := 67) (q := 1) (vs := [.ref (q 0), .int v4]) (rest := []) rfl rfl (by decide) (Or.inr (Or.inl ⟨_, rfl, rfl⟩)) rfl k
      have e1 := xt67 (xs_lq hq) kc
      subst e1
      have k : nt_rn X _ 4 (51, [(0, .ref (p 24)), (1, .ref (q 0)), (2, .ref ru), (3, .int v3), (4, .int v4), (5, .int v5)], [.int (x67 q v4 J)], me_w (lw M L) J) _ := k
      have k := ly_revb 1 (c' := (if (x67 q v4 J) = 0 then 77 else 54, [(0, .ref (p 24)), (1, .ref (q 0)), (2, .ref ru), (3, .int v3), (4, .int v4), (5, .int v5)], [], me_w (lw M L) J)) rfl k
      by_cases h51 : (x67 q v4 J) = 0
      · rw [if_pos h51] at k
        have k := lz_rv rfl rfl k
        rw [k, x4_18, if_pos h27, if_pos h51]
      · rw [if_neg h51] at k
        have k := ly_revb 1 (c' := (55, [(0, .ref (p 24)), (1, .ref (q 0)), (2, .ref ru), (3, .int v3), (4, .int v4), (5, .int v5)], [.ref (q 0)], me_w (lw M L) J)) rfl k
        have k := lz_get (a := (q 0)) (g := 607) (M := me_w (lw M L) J) (v := .ref (q 10)) rfl (nt_gfR rfl (hq.1 (0, 7, 10) (by decide))) k
        have k := ly_revb 2 (c' := (61, [(0, .ref (p 24)), (1, .ref (q 0)), (2, .ref ru), (3, .int v3), (4, .int v4), (5, .int v5)], [.int (Int32.ofInt 1), .int v4, .ref (q 10)], me_w (lw M L) J)) rfl k
        have k := mx_iast (q := v4.toNatClampNeg) rfl rfl k
        have k : nt_rn X _ 4 (62, [(0, .ref (p 24)), (1, .ref (q 0)), (2, .ref ru), (3, .int v3), (4, .int v4), (5, .int v5)], [], me_w (lw M L) (nt_u J (q 10) v4.toNatClampNeg (Int32.ofInt 1))) _ := k
        have k := ly_revb 1 (c' := (63, [(0, .ref (p 24)), (1, .ref (q 0)), (2, .ref ru), (3, .int v3), (4, .int v4), (5, .int v5)], [.ref (q 0)], me_w (lw M L) (nt_u J (q 10) v4.toNatClampNeg (Int32.ofInt 1)))) rfl k
        have k := lz_get (a := (q 0)) (g := 609) (M := me_w (lw M L) (nt_u J (q 10) v4.toNatClampNeg (Int32.ofInt 1))) (v := .ref (q 12)) rfl (nt_gfR rfl (hq.1 (0, 9, 12) (by decide))) k
        have k := ly_revb 2 (c' := (69, [(0, .ref (p 24)), (1, .ref (q 0)), (2, .ref ru), (3, .int v3), (4, .int v4), (5, .int v5)], [.int v3, .int v4, .ref (q 12)], me_w (lw M L) (nt_u J (q 10) v4.toNatClampNeg (Int32.ofInt 1)))) rfl k
        have k := mx_iast (q := v4.toNatClampNeg) rfl rfl k
        have k : nt_rn X _ 4 (70, [(0, .ref (p 24)), (1, .ref (q 0)), (2, .ref ru), (3, .int v3), (4, .int v4), (5, .int v5)], [], me_w (lw M L) (nt_u (nt_u J (q 10) v4.toNatClampNeg (Int32.ofInt 1)) (q 12) v4.toNatClampNeg v3)) _ := k
        have k := ly_revb 1 (c' := (71, [(0, .ref (p 24)), (1, .ref (q 0)), (2, .ref ru), (3, .int v3), (4, .int v4), (5, .int v5)], [.ref (q 0)], me_w (lw M L) (nt_u (nt_u J (q 10) v4.toNatClampNeg (Int32.ofInt 1)) (q 12) v4.toNatClampNeg v3))) rfl k
        have k := lz_get (a := (q 0)) (g := 613) (M := me_w (lw M L) (nt_u (nt_u J (q 10) v4.toNatClampNeg (Int32.ofInt 1)) (q 12) v4.toNatClampNeg v3)) (v := .ref (q 16)) rfl (nt_gfR rfl (hq.1 (0, 13, 16) (by decide))) k
        have k := ly_revb 2 (c' := (76, [(0, .ref (p 24)), (1, .ref (q 0)), (2, .ref ru), (3, .int v3), (4, .int v4), (5, .int v5)], [.int (Int32.ofInt 1), .int v3, .ref (q 16)], me_w (lw M L) (nt_u (nt_u J (q 10) v4.toNatClampNeg (Int32.ofInt 1)) (q 12) v4.toNatClampNeg v3))) rfl k
        have k := mx_iast (q := v3.toNatClampNeg) rfl rfl k
        have k : nt_rn X _ 4 (77, [(0, .ref (p 24)), (1, .ref (q 0)), (2, .ref ru), (3, .int v3), (4, .int v4), (5, .int v5)], [], me_w (lw M L) (nt_u (nt_u (nt_u J (q 10) v4.toNatClampNeg (Int32.ofInt 1)) (q 12) v4.toNatClampNeg v3) (q 16) v3.toNatClampNeg (Int32.ofInt 1))) _ := k
        have k := lz_rv rfl rfl k
        rw [k, x4_18, if_pos h27, if_neg h51]
    · rw [if_neg h27] at k
      have k := ly_revb 5 (c' := (36, [(0, .ref (p 24)), (1, .ref (q 0)), (2, .ref ru), (3, .int v3), (4, .int v4), (5, .int v5)], [.int v5, .int v3, .ref ru, .ref (q 0), .ref (p 24)], me_w (lw M L) J)) rfl k
      obtain ⟨d1, o1, ed, kc, k⟩ := lz_c (g := 5) (q := 1) (vs := [.ref (p 24), .ref (q 0), .ref ru, .int v3, .int v5]) (rest := []) rfl rfl (by decide) (Or.inr (Or.inl ⟨_, rfl, rfl⟩)) rfl k
      have e1 := xt5 hp hq hx hs kc
      subst e1
      have k : nt_rn X _ 4 (39, [(0, .ref (p 24)), (1, .ref (q 0)), (2, .ref ru), (3, .int v3), (4, .int v4), (5, .int v5)], [], me_w (lw M ((x5 p q sp ln v3 v5 J L).2)) ((x5 p q sp ln v3 v5 J L).1)) _ := k
      have k := ly_revb 2 (c' := (18, [(5, .int (v5 + (Int32.ofInt 1))), (0, .ref (p 24)), (1, .ref (q 0)), (2, .ref ru), (3, .int v3), (4, .int v4)], [], me_w (lw M ((x5 p q sp ln v3 v5 J L).2)) ((x5 p q sp ln v3 v5 J L).1))) rfl k
      have k := nt_rn_w (a := [(5, .int (v5 + (Int32.ofInt 1))), (0, .ref (p 24)), (1, .ref (q 0)), (2, .ref ru), (3, .int v3), (4, .int v4)]) (b := [(0, .ref (p 24)), (1, .ref (q 0)), (2, .ref ru), (3, .int v3), (4, .int v4), (5, .int (v5 + (Int32.ofInt 1)))]) ⟨rfl, rfl, rfl, rfl, rfl, rfl, trivial⟩ rfl k
      have k := ih (v5 + (Int32.ofInt 1)) ((x5 p q sp ln v3 v5 J L).1) ((x5 p q sp ln v3 v5 J L).2) (by rw [show ((x5 p q sp ln v3 v5 J L).1) (q 1) 0 = J (q 1) 0 from congrFun (x5_frJ  (hx 1 25 (by omega) (by omega)) (hq.2.1 1 0 (by omega) (by omega) (by decide)) (hq.2.1 1 14 (by omega) (by omega) (by decide))) 0]; exact lx_dec h27 hc) k
      rw [k, x4_18, if_neg h27]
theorem x4_18_rule {p : Nat → Nat} {q : Nat → Nat} {sp : Nat} {ln : Nat} {v3 : Int32} {v4 : Int32} {I : Nat → Int32 → (Nat → Nat → Int32) → (Nat → Nat → Int64) → Prop} {Q : (Nat → Nat → Int32) × (Nat → Nat → Int64) → Prop} (h0 : ∀ (v5 : Int32) (J : Nat → Nat → Int32) (L : Nat → Nat → Int64), I 0 v5 J L → Q (if (x67 q v4 J) = 0 then (J, L)
    else (nt_u (nt_u (nt_u J (q 10) v4.toNatClampNeg (Int32.ofInt 1)) (q 12) v4.toNatClampNeg v3) (q 16) v3.toNatClampNeg (Int32.ofInt 1), L))) (h1 : ∀ (c : Nat) (v5 : Int32) (J : Nat → Nat → Int32) (L : Nat → Nat → Int64), I (c + 1) v5 J L →
    if (J (q 1) 0) ≤ v5 then if (x67 q v4 J) = 0 then (Q (J, L))
      else (Q (nt_u (nt_u (nt_u J (q 10) v4.toNatClampNeg (Int32.ofInt 1)) (q 12) v4.toNatClampNeg v3) (q 16) v3.toNatClampNeg (Int32.ofInt 1), L))
    else (I c (v5 + (Int32.ofInt 1)) ((x5 p q sp ln v3 v5 J L).1) ((x5 p q sp ln v3 v5 J L).2))) : ∀ (c : Nat) (v5 : Int32) (J : Nat → Nat → Int32) (L : Nat → Nat → Int64), I c v5 J L → Q (x4_18 p q sp ln v3 v4 c v5 J L) := by
  intro c
  induction c with
  | zero =>
    intro v5 J L hi
    rw [x4_18]
    exact h0 v5 J L hi
  | succ c ih =>
    intro v5 J L hi
    have hi := h1 c v5 J L hi
    rw [x4_18]
    by_cases h : (J (q 1) 0) ≤ v5
    · rw [if_pos h] at hi ⊢
      by_cases h : (x67 q v4 J) = 0
      · rw [if_pos h] at hi ⊢
        exact hi
      · rw [if_neg h] at hi ⊢
        exact hi
    · rw [if_neg h] at hi ⊢
      exact ih _ _ _ hi
def x4 (p : Nat → Nat) (q : Nat → Nat) (sp : Nat) (ln : Nat) (v3 : Int32) (J : Nat → Nat → Int32) (L : Nat → Nat → Int64) : (Nat → Nat → Int32) × (Nat → Nat → Int64) := (x4_18 p q sp ln v3 (J (q 6) v3.toNatClampNeg) ((J (q 1) 0).toNatClampNeg) (Int32.ofInt 0) J L)
theorem xt4 {X : nt_X} {d : Nat} {M : nt_M} {o : Option Value × nt_M} {p : Nat → Nat} {q : Nat → Nat} {sp : Nat} {ln : Nat} {ru : Nat} {v3 : Int32} {J : Nat → Nat → Int32} {L : Nat → Nat → Int64} (hp : xs_P M p) (hq : xs_Q M q) (hx : xs_X p q) (hs : xs_S M p ru sp ln) (k : nt_ev X d 4 [.ref (p 24), .ref (q 0), .ref ru, .int v3] (me_w (lw M L) J) o) : o = (none, me_w (lw M ((x4 p q sp ln v3 J L).2)) ((x4 p q sp ln v3 J L).1)) := by
  have k : nt_rn X d 4 (0, [(0, .ref (p 24)), (1, .ref (q 0)), (2, .ref ru), (3, .int v3)], [], me_w (lw M L) J) o := k
  have k := ly_revb 1 (c' := (1, [(0, .ref (p 24)), (1, .ref (q 0)), (2, .ref ru), (3, .int v3)], [.ref (q 0)], me_w (lw M L) J)) rfl k
  have k := lz_get (a := (q 0)) (g := 600) (M := me_w (lw M L) J) (v := .ref (q 1)) rfl (nt_gfR rfl (hq.1 (0, 0, 1) (by decide))) k
  have k := lz_get (a := (q 1)) (g := 809) (M := me_w (lw M L) J) (v := .ref (q 6)) rfl (nt_gfR rfl (hq.1 (1, 9, 6) (by decide))) k
  have k := ly_revb 1 (c' := (8, [(0, .ref (p 24)), (1, .ref (q 0)), (2, .ref ru), (3, .int v3)], [.int v3, .ref (q 6)], me_w (lw M L) J)) rfl k
  have k := mx_iald (v := J (q 6) v3.toNatClampNeg) rfl (hq.2.2.1 6 (by omega)) (rfl) k
  have k := ly_revb 5 (c' := (18, [(5, .int (Int32.ofInt 0)), (4, .int (J (q 6) v3.toNatClampNeg)), (0, .ref (p 24)), (1, .ref (q 0)), (2, .ref ru), (3, .int v3)], [], me_w (lw M L) J)) rfl k
  have k := nt_rn_w (a := [(5, .int (Int32.ofInt 0)), (4, .int (J (q 6) v3.toNatClampNeg)), (0, .ref (p 24)), (1, .ref (q 0)), (2, .ref ru), (3, .int v3)]) (b := [(0, .ref (p 24)), (1, .ref (q 0)), (2, .ref ru), (3, .int v3), (4, .int (J (q 6) v3.toNatClampNeg)), (5, .int (Int32.ofInt 0))]) ⟨rfl, rfl, rfl, rfl, rfl, rfl, trivial⟩ rfl k
  have k := xt4_18 hp hq hx hs  ((J (q 1) 0).toNatClampNeg) (Int32.ofInt 0) J L (lx_beg (by decide)) k
  rw [k, x4]
theorem x4_18_frJ {p : Nat → Nat} {q : Nat → Nat} {sp : Nat} {ln : Nat} {v3 : Int32} {v4 : Int32} {b : Nat} : ∀ (c : Nat) (v5 : Int32) (J : Nat → Nat → Int32) (L : Nat → Nat → Int64), b ≠ p 25 → b ≠ q 0 → b ≠ q 10 → b ≠ q 12 → b ≠ q 14 → b ≠ q 16 → (x4_18 p q sp ln v3 v4 c v5 J L).1 b = J b := by
  intro c
  induction c with
  | zero =>
    intro v5 J L n0 n1 n2 n3 n4 n5
    rw [x4_18]
    by_cases h : (x67 q v4 J) = 0
    · rw [if_pos h]
      all_goals first | (dsimp only; exact (show J b = J b from rfl)) | exact (show J b = J b from rfl)
    · rw [if_neg h]
      all_goals first | (dsimp only; exact (show (nt_u (nt_u (nt_u J (q 10) v4.toNatClampNeg (Int32.ofInt 1)) (q 12) v4.toNatClampNeg v3) (q 16) v3.toNatClampNeg (Int32.ofInt 1)) b = J b from (mu_o n5).trans ((mu_o n3).trans (mu_o n2)))) | exact (show (nt_u (nt_u (nt_u J (q 10) v4.toNatClampNeg (Int32.ofInt 1)) (q 12) v4.toNatClampNeg v3) (q 16) v3.toNatClampNeg (Int32.ofInt 1)) b = J b from (mu_o n5).trans ((mu_o n3).trans (mu_o n2)))
  | succ c ih =>
    intro v5 J L n0 n1 n2 n3 n4 n5
    rw [x4_18]
    by_cases h : (J (q 1) 0) ≤ v5
    · rw [if_pos h]
      by_cases h : (x67 q v4 J) = 0
      · rw [if_pos h]
        all_goals first | (dsimp only; exact (show J b = J b from rfl)) | exact (show J b = J b from rfl)
      · rw [if_neg h]
        all_goals first | (dsimp only; exact (show (nt_u (nt_u (nt_u J (q 10) v4.toNatClampNeg (Int32.ofInt 1)) (q 12) v4.toNatClampNeg v3) (q 16) v3.toNatClampNeg (Int32.ofInt 1)) b = J b from (mu_o n5).trans ((mu_o n3).trans (mu_o n2)))) | exact (show (nt_u (nt_u (nt_u J (q 10) v4.toNatClampNeg (Int32.ofInt 1)) (q 12) v4.toNatClampNeg v3) (q 16) v3.toNatClampNeg (Int32.ofInt 1)) b = J b from (mu_o n5).trans ((mu_o n3).trans (mu_o n2)))
    · rw [if_neg h]
      exact (ih _ _ _ n0 n1 n2 n3 n4 n5).trans (x5_frJ  n0 n1 n4)
theorem x4_frJ {p : Nat → Nat} {q : Nat → Nat} {sp : Nat} {ln : Nat} {v3 : Int32} {J : Nat → Nat → Int32} {L : Nat → Nat → Int64} {b : Nat} (n0 : b ≠ p 25) (n1 : b ≠ q 0) (n2 : b ≠ q 10) (n3 : b ≠ q 12) (n4 : b ≠ q 14) (n5 : b ≠ q 16) : (x4 p q sp ln v3 J L).1 b = J b := by
  unfold x4
  exact (x4_18_frJ _ _ _ _ n0 n1 n2 n3 n4 n5).trans (rfl)
theorem x4_18_frL {p : Nat → Nat} {q : Nat → Nat} {sp : Nat} {ln : Nat} {v3 : Int32} {v4 : Int32} {b : Nat} : ∀ (c : Nat) (v5 : Int32) (J : Nat → Nat → Int32) (L : Nat → Nat → Int64), b ≠ p 25 → b ≠ p 26 → b ≠ p 27 → (x4_18 p q sp ln v3 v4 c v5 J L).2 b = L b := by
  intro c
  induction c with
  | zero =>
    intro v5 J L n0 n1 n2
    rw [x4_18]
    by_cases h : (x67 q v4 J) = 0
    · rw [if_pos h]
      all_goals first | (dsimp only; exact (show L b = L b from rfl)) | exact (show L b = L b from rfl)
    · rw [if_neg h]
      all_goals first | (dsimp only; exact (show L b = L b from rfl)) | exact (show L b = L b from rfl)
  | succ c ih =>
    intro v5 J L n0 n1 n2
    rw [x4_18]
    by_cases h : (J (q 1) 0) ≤ v5
    · rw [if_pos h]
      by_cases h : (x67 q v4 J) = 0
      · rw [if_pos h]
        all_goals first | (dsimp only; exact (show L b = L b from rfl)) | exact (show L b = L b from rfl)
      · rw [if_neg h]
        all_goals first | (dsimp only; exact (show L b = L b from rfl)) | exact (show L b = L b from rfl)
    · rw [if_neg h]
      exact (ih _ _ _ n0 n1 n2).trans (x5_frL n0 n1 n2)
theorem x4_frL {p : Nat → Nat} {q : Nat → Nat} {sp : Nat} {ln : Nat} {v3 : Int32} {J : Nat → Nat → Int32} {L : Nat → Nat → Int64} {b : Nat} (n0 : b ≠ p 25) (n1 : b ≠ p 26) (n2 : b ≠ p 27) : (x4 p q sp ln v3 J L).2 b = L b := by
  unfold x4
  exact (x4_18_frL _ _ _ _ n0 n1 n2).trans (rfl)
/-! $Calendar.setOut -/
def x4N (p : Nat → Nat) (q : Nat → Nat) (v3 : Int32) (J : Nat → Nat → Int32) : (Nat → Nat → Int32) := if (x67 q (J (q 6) v3.toNatClampNeg) J) = 0 then J
  else (nt_u (nt_u (nt_u J (q 10) ((J (q 6) v3.toNatClampNeg).toNatClampNeg) (Int32.ofInt 1)) (q 12) ((J (q 6) v3.toNatClampNeg).toNatClampNeg) v3) (q 16) v3.toNatClampNeg (Int32.ofInt 1))
theorem xt4N {X : nt_X} {d : Nat} {M : nt_M} {o : Option Value × nt_M} {p : Nat → Nat} {q : Nat → Nat} {v3 : Int32} {J : Nat → Nat → Int32} (hp : xs_P M p) (hq : xs_Q M q) (hx : xs_X p q) (k : nt_ev X d 4 [.ref (p 24), .ref (q 0), .null, .int v3] (me_w M J) o) : o = (none, me_w M (x4N p q v3 J)) := by
  have k : nt_rn X d 4 (0, [(0, .ref (p 24)), (1, .ref (q 0)), (2, .null), (3, .int v3)], [], me_w M J) o := k
  have k := ly_revb 1 (c' := (1, [(0, .ref (p 24)), (1, .ref (q 0)), (2, .null), (3, .int v3)], [.ref (q 0)], me_w M J)) rfl k
  have k := lz_get (a := (q 0)) (g := 600) (M := me_w M J) (v := .ref (q 1)) rfl (nt_gfR rfl (hq.1 (0, 0, 1) (by decide))) k
  have k := lz_get (a := (q 1)) (g := 809) (M := me_w M J) (v := .ref (q 6)) rfl (nt_gfR rfl (hq.1 (1, 9, 6) (by decide))) k
  have k := ly_revb 1 (c' := (8, [(0, .ref (p 24)), (1, .ref (q 0)), (2, .null), (3, .int v3)], [.int v3, .ref (q 6)], me_w M J)) rfl k
  have k := mx_iald (v := J (q 6) v3.toNatClampNeg) rfl (hq.2.2.1 6 (by omega)) (rfl) k
  have k := ly_revb 5 (c' := (48, [(4, .int (J (q 6) v3.toNatClampNeg)), (0, .ref (p 24)), (1, .ref (q 0)), (2, .null), (3, .int v3)], [.int (J (q 6) v3.toNatClampNeg), .ref (q 0)], me_w M J)) rfl k
  obtain ⟨d1, o1, ed, kc, k⟩ := lz_c (g := 67) (q := 1) (vs := [.ref (q 0), .int (J (q 6) v3.toNatClampNeg)]) (rest := []) rfl rfl (by decide) (Or.inr (Or.inl ⟨_, rfl, rfl⟩)) rfl k
  have e1 := xt67 hq kc
  subst e1
  have k : nt_rn X _ 4 (51, [(4, .int (J (q 6) v3.toNatClampNeg)), (0, .ref (p 24)), (1, .ref (q 0)), (2, .null), (3, .int v3)], [.int (x67 q (J (q 6) v3.toNatClampNeg) J)], me_w M J) _ := k
  have k := ly_revb 1 (c' := (if (x67 q (J (q 6) v3.toNatClampNeg) J) = 0 then 77 else 54, [(4, .int (J (q 6) v3.toNatClampNeg)), (0, .ref (p 24)), (1, .ref (q 0)), (2, .null), (3, .int v3)], [], me_w M J)) rfl k
  by_cases h51 : (x67 q (J (q 6) v3.toNatClampNeg) J) = 0
  · rw [if_pos h51] at k
    have k := lz_rv rfl rfl k
    rw [k, x4N, if_pos h51]
  · rw [if_neg h51] at k
    have k := ly_revb 1 (c' := (55, [(4, .int (J (q 6) v3.toNatClampNeg)), (0, .ref (p 24)), (1, .ref (q 0)), (2, .null), (3, .int v3)], [.ref (q 0)], me_w M J)) rfl k
    have k := lz_get (a := (q 0)) (g := 607) (M := me_w M J) (v := .ref (q 10)) rfl (nt_gfR rfl (hq.1 (0, 7, 10) (by decide))) k
    have k := ly_revb 2 (c' := (61, [(4, .int (J (q 6) v3.toNatClampNeg)), (0, .ref (p 24)), (1, .ref (q 0)), (2, .null), (3, .int v3)], [.int (Int32.ofInt 1), .int (J (q 6) v3.toNatClampNeg), .ref (q 10)], me_w M J)) rfl k
    have k := mx_iast (q := (J (q 6) v3.toNatClampNeg).toNatClampNeg) rfl rfl k
    have k : nt_rn X _ 4 (62, [(4, .int (J (q 6) v3.toNatClampNeg)), (0, .ref (p 24)), (1, .ref (q 0)), (2, .null), (3, .int v3)], [], me_w M (nt_u J (q 10) ((J (q 6) v3.toNatClampNeg).toNatClampNeg) (Int32.ofInt 1))) _ := k
    have k := ly_revb 1 (c' := (63, [(4, .int (J (q 6) v3.toNatClampNeg)), (0, .ref (p 24)), (1, .ref (q 0)), (2, .null), (3, .int v3)], [.ref (q 0)], me_w M (nt_u J (q 10) ((J (q 6) v3.toNatClampNeg).toNatClampNeg) (Int32.ofInt 1)))) rfl k
    have k := lz_get (a := (q 0)) (g := 609) (M := me_w M (nt_u J (q 10) ((J (q 6) v3.toNatClampNeg).toNatClampNeg) (Int32.ofInt 1))) (v := .ref (q 12)) rfl (nt_gfR rfl (hq.1 (0, 9, 12) (by decide))) k
    have k := ly_revb 2 (c' := (69, [(4, .int (J (q 6) v3.toNatClampNeg)), (0, .ref (p 24)), (1, .ref (q 0)), (2, .null), (3, .int v3)], [.int v3, .int (J (q 6) v3.toNatClampNeg), .ref (q 12)], me_w M (nt_u J (q 10) ((J (q 6) v3.toNatClampNeg).toNatClampNeg) (Int32.ofInt 1)))) rfl k
    have k := mx_iast (q := (J (q 6) v3.toNatClampNeg).toNatClampNeg) rfl rfl k
    have k : nt_rn X _ 4 (70, [(4, .int (J (q 6) v3.toNatClampNeg)), (0, .ref (p 24)), (1, .ref (q 0)), (2, .null), (3, .int v3)], [], me_w M (nt_u (nt_u J (q 10) ((J (q 6) v3.toNatClampNeg).toNatClampNeg) (Int32.ofInt 1)) (q 12) ((J (q 6) v3.toNatClampNeg).toNatClampNeg) v3)) _ := k
    have k := ly_revb 1 (c' := (71, [(4, .int (J (q 6) v3.toNatClampNeg)), (0, .ref (p 24)), (1, .ref (q 0)), (2, .null), (3, .int v3)], [.ref (q 0)], me_w M (nt_u (nt_u J (q 10) ((J (q 6) v3.toNatClampNeg).toNatClampNeg) (Int32.ofInt 1)) (q 12) ((J (q 6) v3.toNatClampNeg).toNatClampNeg) v3))) rfl k
    have k := lz_get (a := (q 0)) (g := 613) (M := me_w M (nt_u (nt_u J (q 10) ((J (q 6) v3.toNatClampNeg).toNatClampNeg) (Int32.ofInt 1)) (q 12) ((J (q 6) v3.toNatClampNeg).toNatClampNeg) v3)) (v := .ref (q 16)) rfl (nt_gfR rfl (hq.1 (0, 13, 16) (by decide))) k
    have k := ly_revb 2 (c' := (76, [(4, .int (J (q 6) v3.toNatClampNeg)), (0, .ref (p 24)), (1, .ref (q 0)), (2, .null), (3, .int v3)], [.int (Int32.ofInt 1), .int v3, .ref (q 16)], me_w M (nt_u (nt_u J (q 10) ((J (q 6) v3.toNatClampNeg).toNatClampNeg) (Int32.ofInt 1)) (q 12) ((J (q 6) v3.toNatClampNeg).toNatClampNeg) v3))) rfl k
    have k := mx_iast (q := v3.toNatClampNeg) rfl rfl k
    have k : nt_rn X _ 4 (77, [(4, .int (J (q 6) v3.toNatClampNeg)), (0, .ref (p 24)), (1, .ref (q 0)), (2, .null), (3, .int v3)], [], me_w M (nt_u (nt_u (nt_u J (q 10) ((J (q 6) v3.toNatClampNeg).toNatClampNeg) (Int32.ofInt 1)) (q 12) ((J (q 6) v3.toNatClampNeg).toNatClampNeg) v3) (q 16) v3.toNatClampNeg (Int32.ofInt 1))) _ := k
    have k := lz_rv rfl rfl k
    rw [k, x4N, if_neg h51]
theorem x4N_frJ {p : Nat → Nat} {q : Nat → Nat} {v3 : Int32} {J : Nat → Nat → Int32} {b : Nat} (n0 : b ≠ q 10) (n1 : b ≠ q 12) (n2 : b ≠ q 16) : x4N p q v3 J b = J b := by
  unfold x4N
  by_cases h : (x67 q (J (q 6) v3.toNatClampNeg) J) = 0
  · rw [if_pos h]
    all_goals first | (dsimp only; exact (show J b = J b from rfl)) | exact (show J b = J b from rfl)
  · rw [if_neg h]
    all_goals first | (dsimp only; exact (show (nt_u (nt_u (nt_u J (q 10) ((J (q 6) v3.toNatClampNeg).toNatClampNeg) (Int32.ofInt 1)) (q 12) ((J (q 6) v3.toNatClampNeg).toNatClampNeg) v3) (q 16) v3.toNatClampNeg (Int32.ofInt 1)) b = J b from (mu_o n2).trans ((mu_o n1).trans (mu_o n0)))) | exact (show (nt_u (nt_u (nt_u J (q 10) ((J (q 6) v3.toNatClampNeg).toNatClampNeg) (Int32.ofInt 1)) (q 12) ((J (q 6) v3.toNatClampNeg).toNatClampNeg) v3) (q 16) v3.toNatClampNeg (Int32.ofInt 1)) b = J b from (mu_o n2).trans ((mu_o n1).trans (mu_o n0)))
/-! $Calendar.pass -/
def x1_111 (p : Nat → Nat) (q : Nat → Nat) (sp : Nat) (ln : Nat) (L : Nat → Nat → Int64) : Nat → Int32 → (Nat → Nat → Int32) → (Nat → Nat → Int32) × (Nat → Nat → Int64)
  | 0, v3, J => (nt_u (nt_u J (q 0) 2 ((J (q 0) 2) + (Int32.ofInt 1))) (q 0) 3 (Int32.ofInt 0), L)
  | c + 1, v3, J => if (J (q 1) 1) ≤ v3 then (nt_u (nt_u J (q 0) 2 ((J (q 0) 2) + (Int32.ofInt 1))) (q 0) 3 (Int32.ofInt 0), L)
    else if (J (q 10) v3.toNatClampNeg) = (Int32.ofInt 1) then (x1_111 p q sp ln L c (v3 + (Int32.ofInt 1)) (x9 q v3 J))
      else (x1_111 p q sp ln L c (v3 + (Int32.ofInt 1)) J)
theorem xt1_111 {X : nt_X} {d : Nat} {M : nt_M} {o : Option Value × nt_M} {p : Nat → Nat} {q : Nat → Nat} {sp : Nat} {ln : Nat} {ru : Nat} {v4 : Int32} {L : Nat → Nat → Int64} (hp : xs_P M p) (hq : xs_Q M q) (hx : xs_X p q) (hs : xs_S M p ru sp ln) : ∀ (c : Nat) (v3 : Int32) (J : Nat → Nat → Int32), (J (q 1) 1).toInt - v3.toInt ≤ c → nt_rn X d 1 (111, [(0, .ref (p 24)), (1, .ref (q 0)), (2, .ref ru), (3, .int v3), (4, .int v4)], [], me_w (lw M L) J) o → o = (none, me_w (lw M ((x1_111 p q sp ln L c v3 J).2)) ((x1_111 p q sp ln L c v3 J).1)) := by
  intro c
  induction c with
  | zero =>
    intro v3 J hc k
    have k := ly_revb 2 (c' := (113, [(0, .ref (p 24)), (1, .ref (q 0)), (2, .ref ru), (3, .int v3), (4, .int v4)], [.ref (q 0), .int v3], me_w (lw M L) J)) rfl k
    have k := lz_get (a := (q 0)) (g := 600) (M := me_w (lw M L) J) (v := .ref (q 1)) rfl (nt_gfR rfl (hq.1 (0, 0, 1) (by decide))) k
    have k := lz_get (a := (q 1)) (g := 801) (M := me_w (lw M L) J) (v := .int (J (q 1) 1)) rfl (congrArg Value.int (rfl)) k
    have k := ly_revb 1 (c' := (if (J (q 1) 1) ≤ v3 then 143 else 122, [(0, .ref (p 24)), (1, .ref (q 0)), (2, .ref ru), (3, .int v3), (4, .int v4)], [], me_w (lw M L) J)) rfl k
    have h119 : (J (q 1) 1) ≤ v3 := lx_end hc
    rw [if_pos h119] at k
    have k := ly_revb 2 (c' := (145, [(0, .ref (p 24)), (1, .ref (q 0)), (2, .ref ru), (3, .int v3), (4, .int v4)], [.ref (q 0), .ref (q 0)], me_w (lw M L) J)) rfl k
    have k := lz_get (a := (q 0)) (g := 602) (M := me_w (lw M L) J) (v := .int (J (q 0) 2)) rfl (congrArg Value.int (rfl)) k
    have k := ly_revb 2 (c' := (150, [(0, .ref (p 24)), (1, .ref (q 0)), (2, .ref ru), (3, .int v3), (4, .int v4)], [.int ((J (q 0) 2) + (Int32.ofInt 1)), .ref (q 0)], me_w (lw M L) J)) rfl k
    have k := me_put rfl (by decide) k
    have k : nt_rn X _ 1 (153, [(0, .ref (p 24)), (1, .ref (q 0)), (2, .ref ru), (3, .int v3), (4, .int v4)], [], me_w (lw M L) (nt_u J (q 0) 2 ((J (q 0) 2) + (Int32.ofInt 1)))) _ := k
    have k := ly_revb 2 (c' := (155, [(0, .ref (p 24)), (1, .ref (q 0)), (2, .ref ru), (3, .int v3), (4, .int v4)], [.int (Int32.ofInt 0), .ref (q 0)], me_w (lw M L) (nt_u J (q 0) 2 ((J (q 0) 2) + (Int32.ofInt 1))))) rfl k
    have k := me_put rfl (by decide) k
    have k : nt_rn X _ 1 (158, [(0, .ref (p 24)), (1, .ref (q 0)), (2, .ref ru), (3, .int v3), (4, .int v4)], [], me_w (lw M L) (nt_u (nt_u J (q 0) 2 ((J (q 0) 2) + (Int32.ofInt 1))) (q 0) 3 (Int32.ofInt 0))) _ := k
    have k := lz_rv rfl rfl k
    rw [k, x1_111]
  | succ c ih =>
    intro v3 J hc k
    have k := ly_revb 2 (c' := (113, [(0, .ref (p 24)), (1, .ref (q 0)), (2, .ref ru), (3, .int v3), (4, .int v4)], [.ref (q 0), .int v3], me_w (lw M L) J)) rfl k
    have k := lz_get (a := (q 0)) (g := 600) (M := me_w (lw M L) J) (v := .ref (q 1)) rfl (nt_gfR rfl (hq.1 (0, 0, 1) (by decide))) k
    have k := lz_get (a := (q 1)) (g := 801) (M := me_w (lw M L) J) (v := .int (J (q 1) 1)) rfl (congrArg Value.int (rfl)) k
    have k := ly_revb 1 (c' := (if (J (q 1) 1) ≤ v3 then 143 else 122, [(0, .ref (p 24)), (1, .ref (q 0)), (2, .ref ru), (3, .int v3), (4, .int v4)], [], me_w (lw M L) J)) rfl k
    by_cases h119 : (J (q 1) 1) ≤ v3
    · rw [if_pos h119] at k
      have k := ly_revb 2 (c' := (145, [(0, .ref (p 24)), (1, .ref (q 0)), (2, .ref ru), (3, .int v3), (4, .int v4)], [.ref (q 0), .ref (q 0)], me_w (lw M L) J)) rfl k
      have k := lz_get (a := (q 0)) (g := 602) (M := me_w (lw M L) J) (v := .int (J (q 0) 2)) rfl (congrArg Value.int (rfl)) k
      have k := ly_revb 2 (c' := (150, [(0, .ref (p 24)), (1, .ref (q 0)), (2, .ref ru), (3, .int v3), (4, .int v4)], [.int ((J (q 0) 2) + (Int32.ofInt 1)), .ref (q 0)], me_w (lw M L) J)) rfl k
      have k := me_put rfl (by decide) k
      have k : nt_rn X _ 1 (153, [(0, .ref (p 24)), (1, .ref (q 0)), (2, .ref ru), (3, .int v3), (4, .int v4)], [], me_w (lw M L) (nt_u J (q 0) 2 ((J (q 0) 2) + (Int32.ofInt 1)))) _ := k
      have k := ly_revb 2 (c' := (155, [(0, .ref (p 24)), (1, .ref (q 0)), (2, .ref ru), (3, .int v3), (4, .int v4)], [.int (Int32.ofInt 0), .ref (q 0)], me_w (lw M L) (nt_u J (q 0) 2 ((J (q 0) 2) + (Int32.ofInt 1))))) rfl k
      have k := me_put rfl (by decide) k
      have k : nt_rn X _ 1 (158, [(0, .ref (p 24)), (1, .ref (q 0)), (2, .ref ru), (3, .int v3), (4, .int v4)], [], me_w (lw M L) (nt_u (nt_u J (q 0) 2 ((J (q 0) 2) + (Int32.ofInt 1))) (q 0) 3 (Int32.ofInt 0))) _ := k
      have k := lz_rv rfl rfl k
      rw [k, x1_111, if_pos h119]
    · rw [if_neg h119] at k
      have k := ly_revb 1 (c' := (123, [(0, .ref (p 24)), (1, .ref (q 0)), (2, .ref ru), (3, .int v3), (4, .int v4)], [.ref (q 0)], me_w (lw M L) J)) rfl k
      have k := lz_get (a := (q 0)) (g := 607) (M := me_w (lw M L) J) (v := .ref (q 10)) rfl (nt_gfR rfl (hq.1 (0, 7, 10) (by decide))) k
      have k := ly_revb 1 (c' := (127, [(0, .ref (p 24)), (1, .ref (q 0)), (2, .ref ru), (3, .int v3), (4, .int v4)], [.int v3, .ref (q 10)], me_w (lw M L) J)) rfl k
      have k := mx_iald (v := J (q 10) v3.toNatClampNeg) rfl (hq.2.2.1 10 (by omega)) (rfl) k
      have k := ly_revb 2 (c' := (if (J (q 10) v3.toNatClampNeg) = (Int32.ofInt 1) then 132 else 137, [(0, .ref (p 24)), (1, .ref (q 0)), (2, .ref ru), (3, .int v3), (4, .int v4)], [], me_w (lw M L) J)) rfl k
      by_cases h129 : (J (q 10) v3.toNatClampNeg) = (Int32.ofInt 1)
      · rw [if_pos h129] at k
        have k := ly_revb 2 (c' := (134, [(0, .ref (p 24)), (1, .ref (q 0)), (2, .ref ru), (3, .int v3), (4, .int v4)], [.int v3, .ref (q 0)], me_w (lw M L) J)) rfl k
        obtain ⟨d1, o1, ed, kc, k⟩ := lz_c (g := 9) (q := 0) (vs := [.ref (q 0), .int v3]) (rest := []) rfl rfl (by decide) (Or.inl ⟨_, rfl, rfl⟩) rfl k
        have e1 := xt9 (xs_lq hq) kc
        subst e1
        have k : nt_rn X _ 1 (137, [(0, .ref (p 24)), (1, .ref (q 0)), (2, .ref ru), (3, .int v3), (4, .int v4)], [], me_w (lw M L) (x9 q v3 J)) _ := k
        have k := ly_revb 2 (c' := (111, [(3, .int (v3 + (Int32.ofInt 1))), (0, .ref (p 24)), (1, .ref (q 0)), (2, .ref ru), (4, .int v4)], [], me_w (lw M L) (x9 q v3 J))) rfl k
        have k := nt_rn_w (a := [(3, .int (v3 + (Int32.ofInt 1))), (0, .ref (p 24)), (1, .ref (q 0)), (2, .ref ru), (4, .int v4)]) (b := [(0, .ref (p 24)), (1, .ref (q 0)), (2, .ref ru), (3, .int (v3 + (Int32.ofInt 1))), (4, .int v4)]) ⟨rfl, rfl, rfl, rfl, rfl, trivial⟩ rfl k
        have k := ih (v3 + (Int32.ofInt 1)) (x9 q v3 J) (by rw [show (x9 q v3 J) (q 1) 1 = J (q 1) 1 from congrFun (x9_frJ  (hq.2.1 1 10 (by omega) (by omega) (by decide)) (hq.2.1 1 12 (by omega) (by omega) (by decide)) (hq.2.1 1 13 (by omega) (by omega) (by decide)) (hq.2.1 1 15 (by omega) (by omega) (by decide)) (hq.2.1 1 16 (by omega) (by omega) (by decide))) 1]; exact lx_dec h119 hc) k
        rw [k, x1_111, if_neg h119, if_pos h129]
      · rw [if_neg h129] at k
        have k := ly_revb 2 (c' := (111, [(3, .int (v3 + (Int32.ofInt 1))), (0, .ref (p 24)), (1, .ref (q 0)), (2, .ref ru), (4, .int v4)], [], me_w (lw M L) J)) rfl k
        have k := nt_rn_w (a := [(3, .int (v3 + (Int32.ofInt 1))), (0, .ref (p 24)), (1, .ref (q 0)), (2, .ref ru), (4, .int v4)]) (b := [(0, .ref (p 24)), (1, .ref (q 0)), (2, .ref ru), (3, .int (v3 + (Int32.ofInt 1))), (4, .int v4)]) ⟨rfl, rfl, rfl, rfl, rfl, trivial⟩ rfl k
        have k := ih (v3 + (Int32.ofInt 1)) J (lx_dec h119 hc) k
        rw [k, x1_111, if_neg h119, if_neg h129]
theorem x1_111_rule {p : Nat → Nat} {q : Nat → Nat} {sp : Nat} {ln : Nat} {L : Nat → Nat → Int64} {I : Nat → Int32 → (Nat → Nat → Int32) → Prop} {Q : (Nat → Nat → Int32) × (Nat → Nat → Int64) → Prop} (h0 : ∀ (v3 : Int32) (J : Nat → Nat → Int32), I 0 v3 J → Q (nt_u (nt_u J (q 0) 2 ((J (q 0) 2) + (Int32.ofInt 1))) (q 0) 3 (Int32.ofInt 0), L)) (h1 : ∀ (c : Nat) (v3 : Int32) (J : Nat → Nat → Int32), I (c + 1) v3 J →
    if (J (q 1) 1) ≤ v3 then (Q (nt_u (nt_u J (q 0) 2 ((J (q 0) 2) + (Int32.ofInt 1))) (q 0) 3 (Int32.ofInt 0), L))
    else if (J (q 10) v3.toNatClampNeg) = (Int32.ofInt 1) then (I c (v3 + (Int32.ofInt 1)) (x9 q v3 J))
      else (I c (v3 + (Int32.ofInt 1)) J)) : ∀ (c : Nat) (v3 : Int32) (J : Nat → Nat → Int32), I c v3 J → Q (x1_111 p q sp ln L c v3 J) := by
  intro c
  induction c with
  | zero =>
    intro v3 J hi
    rw [x1_111]
    exact h0 v3 J hi
  | succ c ih =>
    intro v3 J hi
    have hi := h1 c v3 J hi
    rw [x1_111]
    by_cases h : (J (q 1) 1) ≤ v3
    · rw [if_pos h] at hi ⊢
      exact hi
    · rw [if_neg h] at hi ⊢
      by_cases h : (J (q 10) v3.toNatClampNeg) = (Int32.ofInt 1)
      · rw [if_pos h] at hi ⊢
        exact ih _ _ hi
      · rw [if_neg h] at hi ⊢
        exact ih _ _ hi
def x1_48 (p : Nat → Nat) (q : Nat → Nat) (sp : Nat) (ln : Nat) : Nat → Int32 → (Nat → Nat → Int32) → (Nat → Nat → Int64) → (Nat → Nat → Int32) × (Nat → Nat → Int64)
  | 0, v3, J, L => (x1_111 p q sp ln L ((J (q 1) 1).toNatClampNeg) (Int32.ofInt 0) J)
  | c + 1, v3, J, L => if (J (q 1) 3) ≤ v3 then (x1_111 p q sp ln L ((J (q 1) 1).toNatClampNeg) (Int32.ofInt 0) J)
    else if (J (q 7) v3.toNatClampNeg) = (J (q 0) 2) then if (J (q 10) ((J (q 6) v3.toNatClampNeg).toNatClampNeg)) = 0 then (x1_48 p q sp ln c (v3 + (Int32.ofInt 1)) ((x4 p q sp ln v3 J L).1) ((x4 p q sp ln v3 J L).2))
        else (x1_48 p q sp ln c (v3 + (Int32.ofInt 1)) J L)
      else (x1_48 p q sp ln c (v3 + (Int32.ofInt 1)) J L)
theorem xt1_48 {X : nt_X} {d : Nat} {M : nt_M} {o : Option Value × nt_M} {p : Nat → Nat} {q : Nat → Nat} {sp : Nat} {ln : Nat} {ru : Nat} (hp : xs_P M p) (hq : xs_Q M q) (hx : xs_X p q) (hs : xs_S M p ru sp ln) : ∀ (c : Nat) (v3 : Int32) (v4 : Int32) (J : Nat → Nat → Int32) (L : Nat → Nat → Int64), (J (q 1) 3).toInt - v3.toInt ≤ c → nt_rn X d 1 (48, [(0, .ref (p 24)), (1, .ref (q 0)), (2, .ref ru), (3, .int v3), (4, .int v4)], [], me_w (lw M L) J) o → o = (none, me_w (lw M ((x1_48 p q sp ln c v3 J L).2)) ((x1_48 p q sp ln c v3 J L).1)) := by
  intro c
  induction c with
  | zero =>
    intro v3 v4 J L hc k
    have k := ly_revb 2 (c' := (50, [(0, .ref (p 24)), (1, .ref (q 0)), (2, .ref ru), (3, .int v3), (4, .int v4)], [.ref (q 0), .int v3], me_w (lw M L) J)) rfl k
    have k := lz_get (a := (q 0)) (g := 600) (M := me_w (lw M L) J) (v := .ref (q 1)) rfl (nt_gfR rfl (hq.1 (0, 0, 1) (by decide))) k
    have k := lz_get (a := (q 1)) (g := 803) (M := me_w (lw M L) J) (v := .int (J (q 1) 3)) rfl (congrArg Value.int (rfl)) k
    have k := ly_revb 1 (c' := (if (J (q 1) 3) ≤ v3 then 109 else 59, [(0, .ref (p 24)), (1, .ref (q 0)), (2, .ref ru), (3, .int v3), (4, .int v4)], [], me_w (lw M L) J)) rfl k
    have h56 : (J (q 1) 3) ≤ v3 := lx_end hc
    rw [if_pos h56] at k
    have k := ly_revb 2 (c' := (111, [(3, .int (Int32.ofInt 0)), (0, .ref (p 24)), (1, .ref (q 0)), (2, .ref ru), (4, .int v4)], [], me_w (lw M L) J)) rfl k
    have k := nt_rn_w (a := [(3, .int (Int32.ofInt 0)), (0, .ref (p 24)), (1, .ref (q 0)), (2, .ref ru), (4, .int v4)]) (b := [(0, .ref (p 24)), (1, .ref (q 0)), (2, .ref ru), (3, .int (Int32.ofInt 0)), (4, .int v4)]) ⟨rfl, rfl, rfl, rfl, rfl, trivial⟩ rfl k
    have k := xt1_111 hp hq hx hs  ((J (q 1) 1).toNatClampNeg) (Int32.ofInt 0) J (lx_beg (by decide)) k
    rw [k, x1_48]
  | succ c ih =>
    intro v3 v4 J L hc k
    have k := ly_revb 2 (c' := (50, [(0, .ref (p 24)), (1, .ref (q 0)), (2, .ref ru), (3, .int v3), (4, .int v4)], [.ref (q 0), .int v3], me_w (lw M L) J)) rfl k
    have k := lz_get (a := (q 0)) (g := 600) (M := me_w (lw M L) J) (v := .ref (q 1)) rfl (nt_gfR rfl (hq.1 (0, 0, 1) (by decide))) k
    have k := lz_get (a := (q 1)) (g := 803) (M := me_w (lw M L) J) (v := .int (J (q 1) 3)) rfl (congrArg Value.int (rfl)) k
    have k := ly_revb 1 (c' := (if (J (q 1) 3) ≤ v3 then 109 else 59, [(0, .ref (p 24)), (1, .ref (q 0)), (2, .ref ru), (3, .int v3), (4, .int v4)], [], me_w (lw M L) J)) rfl k
    by_cases h56 : (J (q 1) 3) ≤ v3
    · rw [if_pos h56] at k
      have k := ly_revb 2 (c' := (111, [(3, .int (Int32.ofInt 0)), (0, .ref (p 24)), (1, .ref (q 0)), (2, .ref ru), (4, .int v4)], [], me_w (lw M L) J)) rfl k
      have k := nt_rn_w (a := [(3, .int (Int32.ofInt 0)), (0, .ref (p 24)), (1, .ref (q 0)), (2, .ref ru), (4, .int v4)]) (b := [(0, .ref (p 24)), (1, .ref (q 0)), (2, .ref ru), (3, .int (Int32.ofInt 0)), (4, .int v4)]) ⟨rfl, rfl, rfl, rfl, rfl, trivial⟩ rfl k
      have k := xt1_111 hp hq hx hs  ((J (q 1) 1).toNatClampNeg) (Int32.ofInt 0) J (lx_beg (by decide)) k
      rw [k, x1_48, if_pos h56]
    · rw [if_neg h56] at k
      have k := ly_revb 1 (c' := (60, [(0, .ref (p 24)), (1, .ref (q 0)), (2, .ref ru), (3, .int v3), (4, .int v4)], [.ref (q 0)], me_w (lw M L) J)) rfl k
      have k := lz_get (a := (q 0)) (g := 600) (M := me_w (lw M L) J) (v := .ref (q 1)) rfl (nt_gfR rfl (hq.1 (0, 0, 1) (by decide))) k
      have k := lz_get (a := (q 1)) (g := 809) (M := me_w (lw M L) J) (v := .ref (q 6)) rfl (nt_gfR rfl (hq.1 (1, 9, 6) (by decide))) k
      have k := ly_revb 1 (c' := (67, [(0, .ref (p 24)), (1, .ref (q 0)), (2, .ref ru), (3, .int v3), (4, .int v4)], [.int v3, .ref (q 6)], me_w (lw M L) J)) rfl k
      have k := mx_iald (v := J (q 6) v3.toNatClampNeg) rfl (hq.2.2.1 6 (by omega)) (rfl) k
      have k := ly_revb 2 (c' := (71, [(4, .int (J (q 6) v3.toNatClampNeg)), (0, .ref (p 24)), (1, .ref (q 0)), (2, .ref ru), (3, .int v3)], [.ref (q 0)], me_w (lw M L) J)) rfl k
      have k := lz_get (a := (q 0)) (g := 600) (M := me_w (lw M L) J) (v := .ref (q 1)) rfl (nt_gfR rfl (hq.1 (0, 0, 1) (by decide))) k
      have k := lz_get (a := (q 1)) (g := 810) (M := me_w (lw M L) J) (v := .ref (q 7)) rfl (nt_gfR rfl (hq.1 (1, 10, 7) (by decide))) k
      have k := ly_revb 1 (c' := (78, [(4, .int (J (q 6) v3.toNatClampNeg)), (0, .ref (p 24)), (1, .ref (q 0)), (2, .ref ru), (3, .int v3)], [.int v3, .ref (q 7)], me_w (lw M L) J)) rfl k
      have k := mx_iald (v := J (q 7) v3.toNatClampNeg) rfl (hq.2.2.1 7 (by omega)) (rfl) k
      have k := ly_revb 1 (c' := (80, [(4, .int (J (q 6) v3.toNatClampNeg)), (0, .ref (p 24)), (1, .ref (q 0)), (2, .ref ru), (3, .int v3)], [.ref (q 0), .int (J (q 7) v3.toNatClampNeg)], me_w (lw M L) J)) rfl k
      have k := lz_get (a := (q 0)) (g := 602) (M := me_w (lw M L) J) (v := .int (J (q 0) 2)) rfl (congrArg Value.int (rfl)) k
      have k := ly_revb 1 (c' := (if (J (q 7) v3.toNatClampNeg) = (J (q 0) 2) then 86 else 103, [(4, .int (J (q 6) v3.toNatClampNeg)), (0, .ref (p 24)), (1, .ref (q 0)), (2, .ref ru), (3, .int v3)], [], me_w (lw M L) J)) rfl k
      by_cases h83 : (J (q 7) v3.toNatClampNeg) = (J (q 0) 2)
      · rw [if_pos h83] at k
        have k := ly_revb 1 (c' := (87, [(4, .int (J (q 6) v3.toNatClampNeg)), (0, .ref (p 24)), (1, .ref (q 0)), (2, .ref ru), (3, .int v3)], [.ref (q 0)], me_w (lw M L) J)) rfl k
        have k := lz_get (a := (q 0)) (g := 607) (M := me_w (lw M L) J) (v := .ref (q 10)) rfl (nt_gfR rfl (hq.1 (0, 7, 10) (by decide))) k
        have k := ly_revb 1 (c' := (92, [(4, .int (J (q 6) v3.toNatClampNeg)), (0, .ref (p 24)), (1, .ref (q 0)), (2, .ref ru), (3, .int v3)], [.int (J (q 6) v3.toNatClampNeg), .ref (q 10)], me_w (lw M L) J)) rfl k
        have k := mx_iald (v := J (q 10) ((J (q 6) v3.toNatClampNeg).toNatClampNeg)) rfl (hq.2.2.1 10 (by omega)) (rfl) k
        have k := ly_revb 1 (c' := (if (J (q 10) ((J (q 6) v3.toNatClampNeg).toNatClampNeg)) = 0 then 96 else 103, [(4, .int (J (q 6) v3.toNatClampNeg)), (0, .ref (p 24)), (1, .ref (q 0)), (2, .ref ru), (3, .int v3)], [], me_w (lw M L) J)) rfl k
        by_cases h93 : (J (q 10) ((J (q 6) v3.toNatClampNeg).toNatClampNeg)) = 0
        · rw [if_pos h93] at k
          have k := ly_revb 4 (c' := (100, [(4, .int (J (q 6) v3.toNatClampNeg)), (0, .ref (p 24)), (1, .ref (q 0)), (2, .ref ru), (3, .int v3)], [.int v3, .ref ru, .ref (q 0), .ref (p 24)], me_w (lw M L) J)) rfl k
          obtain ⟨d1, o1, ed, kc, k⟩ := lz_c (g := 4) (q := 1) (vs := [.ref (p 24), .ref (q 0), .ref ru, .int v3]) (rest := []) rfl rfl (by decide) (Or.inr (Or.inl ⟨_, rfl, rfl⟩)) rfl k
          have e1 := xt4 hp hq hx hs kc
          subst e1
          have k : nt_rn X _ 1 (103, [(4, .int (J (q 6) v3.toNatClampNeg)), (0, .ref (p 24)), (1, .ref (q 0)), (2, .ref ru), (3, .int v3)], [], me_w (lw M ((x4 p q sp ln v3 J L).2)) ((x4 p q sp ln v3 J L).1)) _ := k
          have k := ly_revb 2 (c' := (48, [(3, .int (v3 + (Int32.ofInt 1))), (4, .int (J (q 6) v3.toNatClampNeg)), (0, .ref (p 24)), (1, .ref (q 0)), (2, .ref ru)], [], me_w (lw M ((x4 p q sp ln v3 J L).2)) ((x4 p q sp ln v3 J L).1))) rfl k
          have k := nt_rn_w (a := [(3, .int (v3 + (Int32.ofInt 1))), (4, .int (J (q 6) v3.toNatClampNeg)), (0, .ref (p 24)), (1, .ref (q 0)), (2, .ref ru)]) (b := [(0, .ref (p 24)), (1, .ref (q 0)), (2, .ref ru), (3, .int (v3 + (Int32.ofInt 1))), (4, .int (J (q 6) v3.toNatClampNeg))]) ⟨rfl, rfl, rfl, rfl, rfl, trivial⟩ rfl k
          have k := ih (v3 + (Int32.ofInt 1)) (J (q 6) v3.toNatClampNeg) ((x4 p q sp ln v3 J L).1) ((x4 p q sp ln v3 J L).2) (by rw [show ((x4 p q sp ln v3 J L).1) (q 1) 3 = J (q 1) 3 from congrFun (x4_frJ  (hx 1 25 (by omega) (by omega)) (hq.2.1 1 0 (by omega) (by omega) (by decide)) (hq.2.1 1 10 (by omega) (by omega) (by decide)) (hq.2.1 1 12 (by omega) (by omega) (by decide)) (hq.2.1 1 14 (by omega) (by omega) (by decide)) (hq.2.1 1 16 (by omega) (by omega) (by decide))) 3]; exact lx_dec h56 hc) k
          rw [k, x1_48, if_neg h56, if_pos h83, if_pos h93]
        · rw [if_neg h93] at k
          have k := ly_revb 2 (c' := (48, [(3, .int (v3 + (Int32.ofInt 1))), (4, .int (J (q 6) v3.toNatClampNeg)), (0, .ref (p 24)), (1, .ref (q 0)), (2, .ref ru)], [], me_w (lw M L) J)) rfl k
          have k := nt_rn_w (a := [(3, .int (v3 + (Int32.ofInt 1))), (4, .int (J (q 6) v3.toNatClampNeg)), (0, .ref (p 24)), (1, .ref (q 0)), (2, .ref ru)]) (b := [(0, .ref (p 24)), (1, .ref (q 0)), (2, .ref ru), (3, .int (v3 + (Int32.ofInt 1))), (4, .int (J (q 6) v3.toNatClampNeg))]) ⟨rfl, rfl, rfl, rfl, rfl, trivial⟩ rfl k
          have k := ih (v3 + (Int32.ofInt 1)) (J (q 6) v3.toNatClampNeg) J L (lx_dec h56 hc) k
          rw [k, x1_48, if_neg h56, if_pos h83, if_neg h93]
      · rw [if_neg h83] at k
        have k := ly_revb 2 (c' := (48, [(3, .int (v3 + (Int32.ofInt 1))), (4, .int (J (q 6) v3.toNatClampNeg)), (0, .ref (p 24)), (1, .ref (q 0)), (2, .ref ru)], [], me_w (lw M L) J)) rfl k
        have k := nt_rn_w (a := [(3, .int (v3 + (Int32.ofInt 1))), (4, .int (J (q 6) v3.toNatClampNeg)), (0, .ref (p 24)), (1, .ref (q 0)), (2, .ref ru)]) (b := [(0, .ref (p 24)), (1, .ref (q 0)), (2, .ref ru), (3, .int (v3 + (Int32.ofInt 1))), (4, .int (J (q 6) v3.toNatClampNeg))]) ⟨rfl, rfl, rfl, rfl, rfl, trivial⟩ rfl k
        have k := ih (v3 + (Int32.ofInt 1)) (J (q 6) v3.toNatClampNeg) J L (lx_dec h56 hc) k
        rw [k, x1_48, if_neg h56, if_neg h83]
theorem x1_48_rule {p : Nat → Nat} {q : Nat → Nat} {sp : Nat} {ln : Nat} {I : Nat → Int32 → (Nat → Nat → Int32) → (Nat → Nat → Int64) → Prop} {Q : (Nat → Nat → Int32) × (Nat → Nat → Int64) → Prop} (h0 : ∀ (v3 : Int32) (J : Nat → Nat → Int32) (L : Nat → Nat → Int64), I 0 v3 J L → Q (x1_111 p q sp ln L ((J (q 1) 1).toNatClampNeg) (Int32.ofInt 0) J)) (h1 : ∀ (c : Nat) (v3 : Int32) (J : Nat → Nat → Int32) (L : Nat → Nat → Int64), I (c + 1) v3 J L →
    if (J (q 1) 3) ≤ v3 then (Q (x1_111 p q sp ln L ((J (q 1) 1).toNatClampNeg) (Int32.ofInt 0) J))
    else if (J (q 7) v3.toNatClampNeg) = (J (q 0) 2) then if (J (q 10) ((J (q 6) v3.toNatClampNeg).toNatClampNeg)) = 0 then (I c (v3 + (Int32.ofInt 1)) ((x4 p q sp ln v3 J L).1) ((x4 p q sp ln v3 J L).2))
        else (I c (v3 + (Int32.ofInt 1)) J L)
      else (I c (v3 + (Int32.ofInt 1)) J L)) : ∀ (c : Nat) (v3 : Int32) (J : Nat → Nat → Int32) (L : Nat → Nat → Int64), I c v3 J L → Q (x1_48 p q sp ln c v3 J L) := by
  intro c
  induction c with
  | zero =>
    intro v3 J L hi
    rw [x1_48]
    exact h0 v3 J L hi
  | succ c ih =>
    intro v3 J L hi
    have hi := h1 c v3 J L hi
    rw [x1_48]
    by_cases h : (J (q 1) 3) ≤ v3
    · rw [if_pos h] at hi ⊢
      exact hi
    · rw [if_neg h] at hi ⊢
      by_cases h : (J (q 7) v3.toNatClampNeg) = (J (q 0) 2)
      · rw [if_pos h] at hi ⊢
        by_cases h : (J (q 10) ((J (q 6) v3.toNatClampNeg).toNatClampNeg)) = 0
        · rw [if_pos h] at hi ⊢
          exact ih _ _ _ hi
        · rw [if_neg h] at hi ⊢
          exact ih _ _ _ hi
      · rw [if_neg h] at hi ⊢
        exact ih _ _ _ hi
def x1_2 (p : Nat → Nat) (q : Nat → Nat) (sp : Nat) (ln : Nat) (L : Nat → Nat → Int64) : Nat → Int32 → (Nat → Nat → Int32) → (Nat → Nat → Int32) × (Nat → Nat → Int64)
  | 0, v3, J => (x1_48 p q sp ln ((J (q 1) 3).toNatClampNeg) (Int32.ofInt 0) J L)
  | c + 1, v3, J => if (J (q 1) 1) ≤ v3 then (x1_48 p q sp ln ((J (q 1) 3).toNatClampNeg) (Int32.ofInt 0) J L)
    else if (J (q 10) v3.toNatClampNeg) = (Int32.ofInt 1) then if (x2 q v3 (J (q 0) 2) J) = 0 then (x1_2 p q sp ln L c (v3 + (Int32.ofInt 1)) J)
        else (x1_2 p q sp ln L c (v3 + (Int32.ofInt 1)) (x3 q v3 J))
      else (x1_2 p q sp ln L c (v3 + (Int32.ofInt 1)) J)
theorem xt1_2 {X : nt_X} {d : Nat} {M : nt_M} {o : Option Value × nt_M} {p : Nat → Nat} {q : Nat → Nat} {sp : Nat} {ln : Nat} {ru : Nat} {L : Nat → Nat → Int64} (hp : xs_P M p) (hq : xs_Q M q) (hx : xs_X p q) (hs : xs_S M p ru sp ln) : ∀ (c : Nat) (v3 : Int32) (J : Nat → Nat → Int32), (J (q 1) 1).toInt - v3.toInt ≤ c → nt_rn X d 1 (2, [(0, .ref (p 24)), (1, .ref (q 0)), (2, .ref ru), (3, .int v3)], [], me_w (lw M L) J) o → o = (none, me_w (lw M ((x1_2 p q sp ln L c v3 J).2)) ((x1_2 p q sp ln L c v3 J).1)) := by
  intro c
  induction c with
  | zero =>
    intro v3 J hc k
    have k := ly_revb 2 (c' := (4, [(0, .ref (p 24)), (1, .ref (q 0)), (2, .ref ru), (3, .int v3)], [.ref (q 0), .int v3], me_w (lw M L) J)) rfl k
    have k := lz_get (a := (q 0)) (g := 600) (M := me_w (lw M L) J) (v := .ref (q 1)) rfl (nt_gfR rfl (hq.1 (0, 0, 1) (by decide))) k
    have k := lz_get (a := (q 1)) (g := 801) (M := me_w (lw M L) J) (v := .int (J (q 1) 1)) rfl (congrArg Value.int (rfl)) k
    have k := ly_revb 1 (c' := (if (J (q 1) 1) ≤ v3 then 46 else 13, [(0, .ref (p 24)), (1, .ref (q 0)), (2, .ref ru), (3, .int v3)], [], me_w (lw M L) J)) rfl k
    have h10 : (J (q 1) 1) ≤ v3 := lx_end hc
    rw [if_pos h10] at k
    have k := ly_revb 2 (c' := (48, [(3, .int (Int32.ofInt 0)), (0, .ref (p 24)), (1, .ref (q 0)), (2, .ref ru)], [], me_w (lw M L) J)) rfl k
    have k := nt_rn_w (a := [(3, .int (Int32.ofInt 0)), (0, .ref (p 24)), (1, .ref (q 0)), (2, .ref ru)]) (b := [(0, .ref (p 24)), (1, .ref (q 0)), (2, .ref ru), (3, .int (Int32.ofInt 0)), (4, .int (Int32.ofInt 0))]) ⟨rfl, rfl, rfl, rfl, trivial⟩ rfl k
    have k := xt1_48 hp hq hx hs  ((J (q 1) 3).toNatClampNeg) (Int32.ofInt 0) (Int32.ofInt 0) J L (lx_beg (by decide)) k
    rw [k, x1_2]
  | succ c ih =>
    intro v3 J hc k
    have k := ly_revb 2 (c' := (4, [(0, .ref (p 24)), (1, .ref (q 0)), (2, .ref ru), (3, .int v3)], [.ref (q 0), .int v3], me_w (lw M L) J)) rfl k
    have k := lz_get (a := (q 0)) (g := 600) (M := me_w (lw M L) J) (v := .ref (q 1)) rfl (nt_gfR rfl (hq.1 (0, 0, 1) (by decide))) k
    have k := lz_get (a := (q 1)) (g := 801) (M := me_w (lw M L) J) (v := .int (J (q 1) 1)) rfl (congrArg Value.int (rfl)) k
    have k := ly_revb 1 (c' := (if (J (q 1) 1) ≤ v3 then 46 else 13, [(0, .ref (p 24)), (1, .ref (q 0)), (2, .ref ru), (3, .int v3)], [], me_w (lw M L) J)) rfl k
    by_cases h10 : (J (q 1) 1) ≤ v3
    · rw [if_pos h10] at k
      have k := ly_revb 2 (c' := (48, [(3, .int (Int32.ofInt 0)), (0, .ref (p 24)), (1, .ref (q 0)), (2, .ref ru)], [], me_w (lw M L) J)) rfl k
      have k := nt_rn_w (a := [(3, .int (Int32.ofInt 0)), (0, .ref (p 24)), (1, .ref (q 0)), (2, .ref ru)]) (b := [(0, .ref (p 24)), (1, .ref (q 0)), (2, .ref ru), (3, .int (Int32.ofInt 0)), (4, .int (Int32.ofInt 0))]) ⟨rfl, rfl, rfl, rfl, trivial⟩ rfl k
      have k := xt1_48 hp hq hx hs  ((J (q 1) 3).toNatClampNeg) (Int32.ofInt 0) (Int32.ofInt 0) J L (lx_beg (by decide)) k
      rw [k, x1_2, if_pos h10]
    · rw [if_neg h10] at k
      have k := ly_revb 1 (c' := (14, [(0, .ref (p 24)), (1, .ref (q 0)), (2, .ref ru), (3, .int v3)], [.ref (q 0)], me_w (lw M L) J)) rfl k
      have k := lz_get (a := (q 0)) (g := 607) (M := me_w (lw M L) J) (v := .ref (q 10)) rfl (nt_gfR rfl (hq.1 (0, 7, 10) (by decide))) k
      have k := ly_revb 1 (c' := (18, [(0, .ref (p 24)), (1, .ref (q 0)), (2, .ref ru), (3, .int v3)], [.int v3, .ref (q 10)], me_w (lw M L) J)) rfl k
      have k := mx_iald (v := J (q 10) v3.toNatClampNeg) rfl (hq.2.2.1 10 (by omega)) (rfl) k
      have k := ly_revb 2 (c' := (if (J (q 10) v3.toNatClampNeg) = (Int32.ofInt 1) then 23 else 40, [(0, .ref (p 24)), (1, .ref (q 0)), (2, .ref ru), (3, .int v3)], [], me_w (lw M L) J)) rfl k
      by_cases h20 : (J (q 10) v3.toNatClampNeg) = (Int32.ofInt 1)
      · rw [if_pos h20] at k
        have k := ly_revb 3 (c' := (26, [(0, .ref (p 24)), (1, .ref (q 0)), (2, .ref ru), (3, .int v3)], [.ref (q 0), .int v3, .ref (q 0)], me_w (lw M L) J)) rfl k
        have k := lz_get (a := (q 0)) (g := 602) (M := me_w (lw M L) J) (v := .int (J (q 0) 2)) rfl (congrArg Value.int (rfl)) k
        obtain ⟨d1, o1, ed, kc, k⟩ := lz_c (g := 2) (q := 0) (vs := [.ref (q 0), .int v3, .int (J (q 0) 2)]) (rest := []) rfl rfl (by decide) (Or.inl ⟨_, rfl, rfl⟩) rfl k
        have e1 := xt2 (xs_lq hq) kc
        subst e1
        have k : nt_rn X _ 1 (32, [(0, .ref (p 24)), (1, .ref (q 0)), (2, .ref ru), (3, .int v3)], [.int (x2 q v3 (J (q 0) 2) J)], me_w (lw M L) J) _ := k
        have k := ly_revb 1 (c' := (if (x2 q v3 (J (q 0) 2) J) = 0 then 40 else 35, [(0, .ref (p 24)), (1, .ref (q 0)), (2, .ref ru), (3, .int v3)], [], me_w (lw M L) J)) rfl k
        by_cases h32 : (x2 q v3 (J (q 0) 2) J) = 0
        · rw [if_pos h32] at k
          have k := ly_revb 2 (c' := (2, [(3, .int (v3 + (Int32.ofInt 1))), (0, .ref (p 24)), (1, .ref (q 0)), (2, .ref ru)], [], me_w (lw M L) J)) rfl k
          have k := nt_rn_w (a := [(3, .int (v3 + (Int32.ofInt 1))), (0, .ref (p 24)), (1, .ref (q 0)), (2, .ref ru)]) (b := [(0, .ref (p 24)), (1, .ref (q 0)), (2, .ref ru), (3, .int (v3 + (Int32.ofInt 1)))]) ⟨rfl, rfl, rfl, rfl, trivial⟩ rfl k
          have k := ih (v3 + (Int32.ofInt 1)) J (lx_dec h10 hc) k
          rw [k, x1_2, if_neg h10, if_pos h20, if_pos h32]
        · rw [if_neg h32] at k
          have k := ly_revb 2 (c' := (37, [(0, .ref (p 24)), (1, .ref (q 0)), (2, .ref ru), (3, .int v3)], [.int v3, .ref (q 0)], me_w (lw M L) J)) rfl k
          obtain ⟨d1, o1, ed, kc, k⟩ := lz_c (g := 3) (q := 0) (vs := [.ref (q 0), .int v3]) (rest := []) rfl rfl (by decide) (Or.inl ⟨_, rfl, rfl⟩) rfl k
          have e1 := xt3 (xs_lq hq) kc
          subst e1
          have k : nt_rn X _ 1 (40, [(0, .ref (p 24)), (1, .ref (q 0)), (2, .ref ru), (3, .int v3)], [], me_w (lw M L) (x3 q v3 J)) _ := k
          have k := ly_revb 2 (c' := (2, [(3, .int (v3 + (Int32.ofInt 1))), (0, .ref (p 24)), (1, .ref (q 0)), (2, .ref ru)], [], me_w (lw M L) (x3 q v3 J))) rfl k
          have k := nt_rn_w (a := [(3, .int (v3 + (Int32.ofInt 1))), (0, .ref (p 24)), (1, .ref (q 0)), (2, .ref ru)]) (b := [(0, .ref (p 24)), (1, .ref (q 0)), (2, .ref ru), (3, .int (v3 + (Int32.ofInt 1)))]) ⟨rfl, rfl, rfl, rfl, trivial⟩ rfl k
          have k := ih (v3 + (Int32.ofInt 1)) (x3 q v3 J) (by rw [show (x3 q v3 J) (q 1) 1 = J (q 1) 1 from congrFun (x3_frJ  (hq.2.1 1 0 (by omega) (by omega) (by decide)) (hq.2.1 1 10 (by omega) (by omega) (by decide)) (hq.2.1 1 11 (by omega) (by omega) (by decide)) (hq.2.1 1 12 (by omega) (by omega) (by decide)) (hq.2.1 1 16 (by omega) (by omega) (by decide))) 1]; exact lx_dec h10 hc) k
          rw [k, x1_2, if_neg h10, if_pos h20, if_neg h32]
      · rw [if_neg h20] at k
        have k := ly_revb 2 (c' := (2, [(3, .int (v3 + (Int32.ofInt 1))), (0, .ref (p 24)), (1, .ref (q 0)), (2, .ref ru)], [], me_w (lw M L) J)) rfl k
        have k := nt_rn_w (a := [(3, .int (v3 + (Int32.ofInt 1))), (0, .ref (p 24)), (1, .ref (q 0)), (2, .ref ru)]) (b := [(0, .ref (p 24)), (1, .ref (q 0)), (2, .ref ru), (3, .int (v3 + (Int32.ofInt 1)))]) ⟨rfl, rfl, rfl, rfl, trivial⟩ rfl k
        have k := ih (v3 + (Int32.ofInt 1)) J (lx_dec h10 hc) k
        rw [k, x1_2, if_neg h10, if_neg h20]
theorem x1_2_rule {p : Nat → Nat} {q : Nat → Nat} {sp : Nat} {ln : Nat} {L : Nat → Nat → Int64} {I : Nat → Int32 → (Nat → Nat → Int32) → Prop} {Q : (Nat → Nat → Int32) × (Nat → Nat → Int64) → Prop} (h0 : ∀ (v3 : Int32) (J : Nat → Nat → Int32), I 0 v3 J → Q (x1_48 p q sp ln ((J (q 1) 3).toNatClampNeg) (Int32.ofInt 0) J L)) (h1 : ∀ (c : Nat) (v3 : Int32) (J : Nat → Nat → Int32), I (c + 1) v3 J →
    if (J (q 1) 1) ≤ v3 then (Q (x1_48 p q sp ln ((J (q 1) 3).toNatClampNeg) (Int32.ofInt 0) J L))
    else if (J (q 10) v3.toNatClampNeg) = (Int32.ofInt 1) then if (x2 q v3 (J (q 0) 2) J) = 0 then (I c (v3 + (Int32.ofInt 1)) J)
        else (I c (v3 + (Int32.ofInt 1)) (x3 q v3 J))
      else (I c (v3 + (Int32.ofInt 1)) J)) : ∀ (c : Nat) (v3 : Int32) (J : Nat → Nat → Int32), I c v3 J → Q (x1_2 p q sp ln L c v3 J) := by
  intro c
  induction c with
  | zero =>
    intro v3 J hi
    rw [x1_2]
    exact h0 v3 J hi
  | succ c ih =>
    intro v3 J hi
    have hi := h1 c v3 J hi
    rw [x1_2]
    by_cases h : (J (q 1) 1) ≤ v3
    · rw [if_pos h] at hi ⊢
      exact hi
    · rw [if_neg h] at hi ⊢
      by_cases h : (J (q 10) v3.toNatClampNeg) = (Int32.ofInt 1)
      · rw [if_pos h] at hi ⊢
        by_cases h : (x2 q v3 (J (q 0) 2) J) = 0
        · rw [if_pos h] at hi ⊢
          exact ih _ _ hi
        · rw [if_neg h] at hi ⊢
          exact ih _ _ hi
      · rw [if_neg h] at hi ⊢
        exact ih _ _ hi
def x1 (p : Nat → Nat) (q : Nat → Nat) (sp : Nat) (ln : Nat) (J : Nat → Nat → Int32) (L : Nat → Nat → Int64) : (Nat → Nat → Int32) × (Nat → Nat → Int64) := (x1_2 p q sp ln L ((J (q 1) 1).toNatClampNeg) (Int32.ofInt 0) J)
theorem xt1 {X : nt_X} {d : Nat} {M : nt_M} {o : Option Value × nt_M} {p : Nat → Nat} {q : Nat → Nat} {sp : Nat} {ln : Nat} {ru : Nat} {J : Nat → Nat → Int32} {L : Nat → Nat → Int64} (hp : xs_P M p) (hq : xs_Q M q) (hx : xs_X p q) (hs : xs_S M p ru sp ln) (k : nt_ev X d 1 [.ref (p 24), .ref (q 0), .ref ru] (me_w (lw M L) J) o) : o = (none, me_w (lw M ((x1 p q sp ln J L).2)) ((x1 p q sp ln J L).1)) := by
  have k : nt_rn X d 1 (0, [(0, .ref (p 24)), (1, .ref (q 0)), (2, .ref ru)], [], me_w (lw M L) J) o := k
  have k := ly_revb 2 (c' := (2, [(3, .int (Int32.ofInt 0)), (0, .ref (p 24)), (1, .ref (q 0)), (2, .ref ru)], [], me_w (lw M L) J)) rfl k
  have k := nt_rn_w (a := [(3, .int (Int32.ofInt 0)), (0, .ref (p 24)), (1, .ref (q 0)), (2, .ref ru)]) (b := [(0, .ref (p 24)), (1, .ref (q 0)), (2, .ref ru), (3, .int (Int32.ofInt 0))]) ⟨rfl, rfl, rfl, rfl, trivial⟩ rfl k
  have k := xt1_2 hp hq hx hs  ((J (q 1) 1).toNatClampNeg) (Int32.ofInt 0) J (lx_beg (by decide)) k
  rw [k, x1]
theorem x1_111_frJ {p : Nat → Nat} {q : Nat → Nat} {sp : Nat} {ln : Nat} {L : Nat → Nat → Int64} {b : Nat} : ∀ (c : Nat) (v3 : Int32) (J : Nat → Nat → Int32), b ≠ p 25 → b ≠ q 0 → b ≠ q 10 → b ≠ q 11 → b ≠ q 12 → b ≠ q 13 → b ≠ q 14 → b ≠ q 15 → b ≠ q 16 → (x1_111 p q sp ln L c v3 J).1 b = J b := by
  intro c
  induction c with
  | zero =>
    intro v3 J n0 n1 n2 n3 n4 n5 n6 n7 n8
    rw [x1_111]
    all_goals first | (dsimp only; exact (show (nt_u (nt_u J (q 0) 2 ((J (q 0) 2) + (Int32.ofInt 1))) (q 0) 3 (Int32.ofInt 0)) b = J b from (mu_o n1).trans (mu_o n1))) | exact (show (nt_u (nt_u J (q 0) 2 ((J (q 0) 2) + (Int32.ofInt 1))) (q 0) 3 (Int32.ofInt 0)) b = J b from (mu_o n1).trans (mu_o n1))
  | succ c ih =>
    intro v3 J n0 n1 n2 n3 n4 n5 n6 n7 n8
    rw [x1_111]
    by_cases h : (J (q 1) 1) ≤ v3
    · rw [if_pos h]
      all_goals first | (dsimp only; exact (show (nt_u (nt_u J (q 0) 2 ((J (q 0) 2) + (Int32.ofInt 1))) (q 0) 3 (Int32.ofInt 0)) b = J b from (mu_o n1).trans (mu_o n1))) | exact (show (nt_u (nt_u J (q 0) 2 ((J (q 0) 2) + (Int32.ofInt 1))) (q 0) 3 (Int32.ofInt 0)) b = J b from (mu_o n1).trans (mu_o n1))
    · rw [if_neg h]
      by_cases h : (J (q 10) v3.toNatClampNeg) = (Int32.ofInt 1)
      · rw [if_pos h]
        exact (ih _ _ n0 n1 n2 n3 n4 n5 n6 n7 n8).trans (x9_frJ  n2 n4 n5 n7 n8)
      · rw [if_neg h]
        exact (ih _ _ n0 n1 n2 n3 n4 n5 n6 n7 n8).trans (rfl)
theorem x1_48_frJ {p : Nat → Nat} {q : Nat → Nat} {sp : Nat} {ln : Nat} {b : Nat} : ∀ (c : Nat) (v3 : Int32) (J : Nat → Nat → Int32) (L : Nat → Nat → Int64), b ≠ p 25 → b ≠ q 0 → b ≠ q 10 → b ≠ q 11 → b ≠ q 12 → b ≠ q 13 → b ≠ q 14 → b ≠ q 15 → b ≠ q 16 → (x1_48 p q sp ln c v3 J L).1 b = J b := by
  intro c
  induction c with
  | zero =>
    intro v3 J L n0 n1 n2 n3 n4 n5 n6 n7 n8
    rw [x1_48]
    exact (x1_111_frJ _ _ _ n0 n1 n2 n3 n4 n5 n6 n7 n8).trans (rfl)
  | succ c ih =>
    intro v3 J L n0 n1 n2 n3 n4 n5 n6 n7 n8
    rw [x1_48]
    by_cases h : (J (q 1) 3) ≤ v3
    · rw [if_pos h]
      exact (x1_111_frJ _ _ _ n0 n1 n2 n3 n4 n5 n6 n7 n8).trans (rfl)
    · rw [if_neg h]
      by_cases h : (J (q 7) v3.toNatClampNeg) = (J (q 0) 2)
      · rw [if_pos h]
        by_cases h : (J (q 10) ((J (q 6) v3.toNatClampNeg).toNatClampNeg)) = 0
        · rw [if_pos h]
          exact (ih _ _ _ n0 n1 n2 n3 n4 n5 n6 n7 n8).trans (x4_frJ  n0 n1 n2 n4 n6 n8)
        · rw [if_neg h]
          exact (ih _ _ _ n0 n1 n2 n3 n4 n5 n6 n7 n8).trans (rfl)
      · rw [if_neg h]
        exact (ih _ _ _ n0 n1 n2 n3 n4 n5 n6 n7 n8).trans (rfl)
theorem x1_2_frJ {p : Nat → Nat} {q : Nat → Nat} {sp : Nat} {ln : Nat} {L : Nat → Nat → Int64} {b : Nat} : ∀ (c : Nat) (v3 : Int32) (J : Nat → Nat → Int32), b ≠ p 25 → b ≠ q 0 → b ≠ q 10 → b ≠ q 11 → b ≠ q 12 → b ≠ q 13 → b ≠ q 14 → b ≠ q 15 → b ≠ q 16 → (x1_2 p q sp ln L c v3 J).1 b = J b := by
  intro c
  induction c with
  | zero =>
    intro v3 J n0 n1 n2 n3 n4 n5 n6 n7 n8
    rw [x1_2]
    exact (x1_48_frJ _ _ _ _ n0 n1 n2 n3 n4 n5 n6 n7 n8).trans (rfl)
  | succ c ih =>
    intro v3 J n0 n1 n2 n3 n4 n5 n6 n7 n8
    rw [x1_2]
    by_cases h : (J (q 1) 1) ≤ v3
    · rw [if_pos h]
      exact (x1_48_frJ _ _ _ _ n0 n1 n2 n3 n4 n5 n6 n7 n8).trans (rfl)
    · rw [if_neg h]
      by_cases h : (J (q 10) v3.toNatClampNeg) = (Int32.ofInt 1)
      · rw [if_pos h]
        by_cases h : (x2 q v3 (J (q 0) 2) J) = 0
        · rw [if_pos h]
          exact (ih _ _ n0 n1 n2 n3 n4 n5 n6 n7 n8).trans (rfl)
        · rw [if_neg h]
          exact (ih _ _ n0 n1 n2 n3 n4 n5 n6 n7 n8).trans (x3_frJ  n1 n2 n3 n4 n8)
      · rw [if_neg h]
        exact (ih _ _ n0 n1 n2 n3 n4 n5 n6 n7 n8).trans (rfl)
theorem x1_frJ {p : Nat → Nat} {q : Nat → Nat} {sp : Nat} {ln : Nat} {J : Nat → Nat → Int32} {L : Nat → Nat → Int64} {b : Nat} (n0 : b ≠ p 25) (n1 : b ≠ q 0) (n2 : b ≠ q 10) (n3 : b ≠ q 11) (n4 : b ≠ q 12) (n5 : b ≠ q 13) (n6 : b ≠ q 14) (n7 : b ≠ q 15) (n8 : b ≠ q 16) : (x1 p q sp ln J L).1 b = J b := by
  unfold x1
  exact (x1_2_frJ _ _ _ n0 n1 n2 n3 n4 n5 n6 n7 n8).trans (rfl)
theorem x1_111_frL {p : Nat → Nat} {q : Nat → Nat} {sp : Nat} {ln : Nat} {L : Nat → Nat → Int64} {b : Nat} : ∀ (c : Nat) (v3 : Int32) (J : Nat → Nat → Int32), b ≠ p 25 → b ≠ p 26 → b ≠ p 27 → (x1_111 p q sp ln L c v3 J).2 b = L b := by
  intro c
  induction c with
  | zero =>
    intro v3 J n0 n1 n2
    rw [x1_111]
    all_goals first | (dsimp only; exact (show L b = L b from rfl)) | exact (show L b = L b from rfl)
  | succ c ih =>
    intro v3 J n0 n1 n2
    rw [x1_111]
    by_cases h : (J (q 1) 1) ≤ v3
    · rw [if_pos h]
      all_goals first | (dsimp only; exact (show L b = L b from rfl)) | exact (show L b = L b from rfl)
    · rw [if_neg h]
      by_cases h : (J (q 10) v3.toNatClampNeg) = (Int32.ofInt 1)
      · rw [if_pos h]
        exact (ih _ _ n0 n1 n2).trans (rfl)
      · rw [if_neg h]
        exact (ih _ _ n0 n1 n2).trans (rfl)
theorem x1_48_frL {p : Nat → Nat} {q : Nat → Nat} {sp : Nat} {ln : Nat} {b : Nat} : ∀ (c : Nat) (v3 : Int32) (J : Nat → Nat → Int32) (L : Nat → Nat → Int64), b ≠ p 25 → b ≠ p 26 → b ≠ p 27 → (x1_48 p q sp ln c v3 J L).2 b = L b := by
  intro c
  induction c with
  | zero =>
    intro v3 J L n0 n1 n2
    rw [x1_48]
    exact (x1_111_frL _ _ _ n0 n1 n2).trans (rfl)
  | succ c ih =>
    intro v3 J L n0 n1 n2
    rw [x1_48]
    by_cases h : (J (q 1) 3) ≤ v3
    · rw [if_pos h]
      exact (x1_111_frL _ _ _ n0 n1 n2).trans (rfl)
    · rw [if_neg h]
      by_cases h : (J (q 7) v3.toNatClampNeg) = (J (q 0) 2)
      · rw [if_pos h]
        by_cases h : (J (q 10) ((J (q 6) v3.toNatClampNeg).toNatClampNeg)) = 0
        · rw [if_pos h]
          exact (ih _ _ _ n0 n1 n2).trans (x4_frL n0 n1 n2)
        · rw [if_neg h]
          exact (ih _ _ _ n0 n1 n2).trans (rfl)
      · rw [if_neg h]
        exact (ih _ _ _ n0 n1 n2).trans (rfl)
theorem x1_2_frL {p : Nat → Nat} {q : Nat → Nat} {sp : Nat} {ln : Nat} {L : Nat → Nat → Int64} {b : Nat} : ∀ (c : Nat) (v3 : Int32) (J : Nat → Nat → Int32), b ≠ p 25 → b ≠ p 26 → b ≠ p 27 → (x1_2 p q sp ln L c v3 J).2 b = L b := by
  intro c
  induction c with
  | zero =>
    intro v3 J n0 n1 n2
    rw [x1_2]
    exact (x1_48_frL _ _ _ _ n0 n1 n2).trans (rfl)
  | succ c ih =>
    intro v3 J n0 n1 n2
    rw [x1_2]
    by_cases h : (J (q 1) 1) ≤ v3
    · rw [if_pos h]
      exact (x1_48_frL _ _ _ _ n0 n1 n2).trans (rfl)
    · rw [if_neg h]
      by_cases h : (J (q 10) v3.toNatClampNeg) = (Int32.ofInt 1)
      · rw [if_pos h]
        by_cases h : (x2 q v3 (J (q 0) 2) J) = 0
        · rw [if_pos h]
          exact (ih _ _ n0 n1 n2).trans (rfl)
        · rw [if_neg h]
          exact (ih _ _ n0 n1 n2).trans (rfl)
      · rw [if_neg h]
        exact (ih _ _ n0 n1 n2).trans (rfl)
theorem x1_frL {p : Nat → Nat} {q : Nat → Nat} {sp : Nat} {ln : Nat} {J : Nat → Nat → Int32} {L : Nat → Nat → Int64} {b : Nat} (n0 : b ≠ p 25) (n1 : b ≠ p 26) (n2 : b ≠ p 27) : (x1 p q sp ln J L).2 b = L b := by
  unfold x1
  exact (x1_2_frL _ _ _ n0 n1 n2).trans (rfl)
/-! $Calendar.pass -/
def x1N_111 (p : Nat → Nat) (q : Nat → Nat) : Nat → Int32 → (Nat → Nat → Int32) → (Nat → Nat → Int32)
  | 0, v3, J => (nt_u (nt_u J (q 0) 2 ((J (q 0) 2) + (Int32.ofInt 1))) (q 0) 3 (Int32.ofInt 0))
  | c + 1, v3, J => if (J (q 1) 1) ≤ v3 then (nt_u (nt_u J (q 0) 2 ((J (q 0) 2) + (Int32.ofInt 1))) (q 0) 3 (Int32.ofInt 0))
    else if (J (q 10) v3.toNatClampNeg) = (Int32.ofInt 1) then (x1N_111 p q c (v3 + (Int32.ofInt 1)) (x9 q v3 J))
      else (x1N_111 p q c (v3 + (Int32.ofInt 1)) J)
theorem xt1N_111 {X : nt_X} {d : Nat} {M : nt_M} {o : Option Value × nt_M} {p : Nat → Nat} {q : Nat → Nat} {v4 : Int32} (hp : xs_P M p) (hq : xs_Q M q) (hx : xs_X p q) : ∀ (c : Nat) (v3 : Int32) (J : Nat → Nat → Int32), (J (q 1) 1).toInt - v3.toInt ≤ c → nt_rn X d 1 (111, [(0, .ref (p 24)), (1, .ref (q 0)), (2, .null), (3, .int v3), (4, .int v4)], [], me_w M J) o → o = (none, me_w M (x1N_111 p q c v3 J)) := by
  intro c
  induction c with
  | zero =>
    intro v3 J hc k
    have k := ly_revb 2 (c' := (113, [(0, .ref (p 24)), (1, .ref (q 0)), (2, .null), (3, .int v3), (4, .int v4)], [.ref (q 0), .int v3], me_w M J)) rfl k
    have k := lz_get (a := (q 0)) (g := 600) (M := me_w M J) (v := .ref (q 1)) rfl (nt_gfR rfl (hq.1 (0, 0, 1) (by decide))) k
    have k := lz_get (a := (q 1)) (g := 801) (M := me_w M J) (v := .int (J (q 1) 1)) rfl (congrArg Value.int (rfl)) k
    have k := ly_revb 1 (c' := (if (J (q 1) 1) ≤ v3 then 143 else 122, [(0, .ref (p 24)), (1, .ref (q 0)), (2, .null), (3, .int v3), (4, .int v4)], [], me_w M J)) rfl k
    have h119 : (J (q 1) 1) ≤ v3 := lx_end hc
    rw [if_pos h119] at k
    have k := ly_revb 2 (c' := (145, [(0, .ref (p 24)), (1, .ref (q 0)), (2, .null), (3, .int v3), (4, .int v4)], [.ref (q 0), .ref (q 0)], me_w M J)) rfl k
    have k := lz_get (a := (q 0)) (g := 602) (M := me_w M J) (v := .int (J (q 0) 2)) rfl (congrArg Value.int (rfl)) k
    have k := ly_revb 2 (c' := (150, [(0, .ref (p 24)), (1, .ref (q 0)), (2, .null), (3, .int v3), (4, .int v4)], [.int ((J (q 0) 2) + (Int32.ofInt 1)), .ref (q 0)], me_w M J)) rfl k
    have k := me_put rfl (by decide) k
    have k : nt_rn X _ 1 (153, [(0, .ref (p 24)), (1, .ref (q 0)), (2, .null), (3, .int v3), (4, .int v4)], [], me_w M (nt_u J (q 0) 2 ((J (q 0) 2) + (Int32.ofInt 1)))) _ := k
    have k := ly_revb 2 (c' := (155, [(0, .ref (p 24)), (1, .ref (q 0)), (2, .null), (3, .int v3), (4, .int v4)], [.int (Int32.ofInt 0), .ref (q 0)], me_w M (nt_u J (q 0) 2 ((J (q 0) 2) + (Int32.ofInt 1))))) rfl k
    have k := me_put rfl (by decide) k
    have k : nt_rn X _ 1 (158, [(0, .ref (p 24)), (1, .ref (q 0)), (2, .null), (3, .int v3), (4, .int v4)], [], me_w M (nt_u (nt_u J (q 0) 2 ((J (q 0) 2) + (Int32.ofInt 1))) (q 0) 3 (Int32.ofInt 0))) _ := k
    have k := lz_rv rfl rfl k
    rw [k, x1N_111]
  | succ c ih =>
    intro v3 J hc k
    have k := ly_revb 2 (c' := (113, [(0, .ref (p 24)), (1, .ref (q 0)), (2, .null), (3, .int v3), (4, .int v4)], [.ref (q 0), .int v3], me_w M J)) rfl k
    have k := lz_get (a := (q 0)) (g := 600) (M := me_w M J) (v := .ref (q 1)) rfl (nt_gfR rfl (hq.1 (0, 0, 1) (by decide))) k
    have k := lz_get (a := (q 1)) (g := 801) (M := me_w M J) (v := .int (J (q 1) 1)) rfl (congrArg Value.int (rfl)) k
    have k := ly_revb 1 (c' := (if (J (q 1) 1) ≤ v3 then 143 else 122, [(0, .ref (p 24)), (1, .ref (q 0)), (2, .null), (3, .int v3), (4, .int v4)], [], me_w M J)) rfl k
    by_cases h119 : (J (q 1) 1) ≤ v3
    · rw [if_pos h119] at k
      have k := ly_revb 2 (c' := (145, [(0, .ref (p 24)), (1, .ref (q 0)), (2, .null), (3, .int v3), (4, .int v4)], [.ref (q 0), .ref (q 0)], me_w M J)) rfl k
      have k := lz_get (a := (q 0)) (g := 602) (M := me_w M J) (v := .int (J (q 0) 2)) rfl (congrArg Value.int (rfl)) k
      have k := ly_revb 2 (c' := (150, [(0, .ref (p 24)), (1, .ref (q 0)), (2, .null), (3, .int v3), (4, .int v4)], [.int ((J (q 0) 2) + (Int32.ofInt 1)), .ref (q 0)], me_w M J)) rfl k
      have k := me_put rfl (by decide) k
      have k : nt_rn X _ 1 (153, [(0, .ref (p 24)), (1, .ref (q 0)), (2, .null), (3, .int v3), (4, .int v4)], [], me_w M (nt_u J (q 0) 2 ((J (q 0) 2) + (Int32.ofInt 1)))) _ := k
      have k := ly_revb 2 (c' := (155, [(0, .ref (p 24)), (1, .ref (q 0)), (2, .null), (3, .int v3), (4, .int v4)], [.int (Int32.ofInt 0), .ref (q 0)], me_w M (nt_u J (q 0) 2 ((J (q 0) 2) + (Int32.ofInt 1))))) rfl k
      have k := me_put rfl (by decide) k
      have k : nt_rn X _ 1 (158, [(0, .ref (p 24)), (1, .ref (q 0)), (2, .null), (3, .int v3), (4, .int v4)], [], me_w M (nt_u (nt_u J (q 0) 2 ((J (q 0) 2) + (Int32.ofInt 1))) (q 0) 3 (Int32.ofInt 0))) _ := k
      have k := lz_rv rfl rfl k
      rw [k, x1N_111, if_pos h119]
    · rw [if_neg h119] at k
      have k := ly_revb 1 (c' := (123, [(0, .ref (p 24)), (1, .ref (q 0)), (2, .null), (3, .int v3), (4, .int v4)], [.ref (q 0)], me_w M J)) rfl k
      have k := lz_get (a := (q 0)) (g := 607) (M := me_w M J) (v := .ref (q 10)) rfl (nt_gfR rfl (hq.1 (0, 7, 10) (by decide))) k
      have k := ly_revb 1 (c' := (127, [(0, .ref (p 24)), (1, .ref (q 0)), (2, .null), (3, .int v3), (4, .int v4)], [.int v3, .ref (q 10)], me_w M J)) rfl k
      have k := mx_iald (v := J (q 10) v3.toNatClampNeg) rfl (hq.2.2.1 10 (by omega)) (rfl) k
      have k := ly_revb 2 (c' := (if (J (q 10) v3.toNatClampNeg) = (Int32.ofInt 1) then 132 else 137, [(0, .ref (p 24)), (1, .ref (q 0)), (2, .null), (3, .int v3), (4, .int v4)], [], me_w M J)) rfl k
      by_cases h129 : (J (q 10) v3.toNatClampNeg) = (Int32.ofInt 1)
      · rw [if_pos h129] at k
        have k := ly_revb 2 (c' := (134, [(0, .ref (p 24)), (1, .ref (q 0)), (2, .null), (3, .int v3), (4, .int v4)], [.int v3, .ref (q 0)], me_w M J)) rfl k
        obtain ⟨d1, o1, ed, kc, k⟩ := lz_c (g := 9) (q := 0) (vs := [.ref (q 0), .int v3]) (rest := []) rfl rfl (by decide) (Or.inl ⟨_, rfl, rfl⟩) rfl k
        have e1 := xt9 hq kc
        subst e1
        have k : nt_rn X _ 1 (137, [(0, .ref (p 24)), (1, .ref (q 0)), (2, .null), (3, .int v3), (4, .int v4)], [], me_w M (x9 q v3 J)) _ := k
        have k := ly_revb 2 (c' := (111, [(3, .int (v3 + (Int32.ofInt 1))), (0, .ref (p 24)), (1, .ref (q 0)), (2, .null), (4, .int v4)], [], me_w M (x9 q v3 J))) rfl k
        have k := nt_rn_w (a := [(3, .int (v3 + (Int32.ofInt 1))), (0, .ref (p 24)), (1, .ref (q 0)), (2, .null), (4, .int v4)]) (b := [(0, .ref (p 24)), (1, .ref (q 0)), (2, .null), (3, .int (v3 + (Int32.ofInt 1))), (4, .int v4)]) ⟨rfl, rfl, rfl, rfl, rfl, trivial⟩ rfl k
        have k := ih (v3 + (Int32.ofInt 1)) (x9 q v3 J) (by rw [show (x9 q v3 J) (q 1) 1 = J (q 1) 1 from congrFun (x9_frJ  (hq.2.1 1 10 (by omega) (by omega) (by decide)) (hq.2.1 1 12 (by omega) (by omega) (by decide)) (hq.2.1 1 13 (by omega) (by omega) (by decide)) (hq.2.1 1 15 (by omega) (by omega) (by decide)) (hq.2.1 1 16 (by omega) (by omega) (by decide))) 1]; exact lx_dec h119 hc) k
        rw [k, x1N_111, if_neg h119, if_pos h129]
      · rw [if_neg h129] at k
        have k := ly_revb 2 (c' := (111, [(3, .int (v3 + (Int32.ofInt 1))), (0, .ref (p 24)), (1, .ref (q 0)), (2, .null), (4, .int v4)], [], me_w M J)) rfl k
        have k := nt_rn_w (a := [(3, .int (v3 + (Int32.ofInt 1))), (0, .ref (p 24)), (1, .ref (q 0)), (2, .null), (4, .int v4)]) (b := [(0, .ref (p 24)), (1, .ref (q 0)), (2, .null), (3, .int (v3 + (Int32.ofInt 1))), (4, .int v4)]) ⟨rfl, rfl, rfl, rfl, rfl, trivial⟩ rfl k
        have k := ih (v3 + (Int32.ofInt 1)) J (lx_dec h119 hc) k
        rw [k, x1N_111, if_neg h119, if_neg h129]
theorem x1N_111_rule {p : Nat → Nat} {q : Nat → Nat} {I : Nat → Int32 → (Nat → Nat → Int32) → Prop} {Q : (Nat → Nat → Int32) → Prop} (h0 : ∀ (v3 : Int32) (J : Nat → Nat → Int32), I 0 v3 J → Q (nt_u (nt_u J (q 0) 2 ((J (q 0) 2) + (Int32.ofInt 1))) (q 0) 3 (Int32.ofInt 0))) (h1 : ∀ (c : Nat) (v3 : Int32) (J : Nat → Nat → Int32), I (c + 1) v3 J →
    if (J (q 1) 1) ≤ v3 then (Q (nt_u (nt_u J (q 0) 2 ((J (q 0) 2) + (Int32.ofInt 1))) (q 0) 3 (Int32.ofInt 0)))
    else if (J (q 10) v3.toNatClampNeg) = (Int32.ofInt 1) then (I c (v3 + (Int32.ofInt 1)) (x9 q v3 J))
      else (I c (v3 + (Int32.ofInt 1)) J)) : ∀ (c : Nat) (v3 : Int32) (J : Nat → Nat → Int32), I c v3 J → Q (x1N_111 p q c v3 J) := by
  intro c
  induction c with
  | zero =>
    intro v3 J hi
    rw [x1N_111]
    exact h0 v3 J hi
  | succ c ih =>
    intro v3 J hi
    have hi := h1 c v3 J hi
    rw [x1N_111]
    by_cases h : (J (q 1) 1) ≤ v3
    · rw [if_pos h] at hi ⊢
      exact hi
    · rw [if_neg h] at hi ⊢
      by_cases h : (J (q 10) v3.toNatClampNeg) = (Int32.ofInt 1)
      · rw [if_pos h] at hi ⊢
        exact ih _ _ hi
      · rw [if_neg h] at hi ⊢
        exact ih _ _ hi
def x1N_48 (p : Nat → Nat) (q : Nat → Nat) : Nat → Int32 → (Nat → Nat → Int32) → (Nat → Nat → Int32)
  | 0, v3, J => (x1N_111 p q ((J (q 1) 1).toNatClampNeg) (Int32.ofInt 0) J)
  | c + 1, v3, J => if (J (q 1) 3) ≤ v3 then (x1N_111 p q ((J (q 1) 1).toNatClampNeg) (Int32.ofInt 0) J)
    else if (J (q 7) v3.toNatClampNeg) = (J (q 0) 2) then if (J (q 10) ((J (q 6) v3.toNatClampNeg).toNatClampNeg)) = 0 then (x1N_48 p q c (v3 + (Int32.ofInt 1)) (x4N p q v3 J))
        else (x1N_48 p q c (v3 + (Int32.ofInt 1)) J)
      else (x1N_48 p q c (v3 + (Int32.ofInt 1)) J)
theorem xt1N_48 {X : nt_X} {d : Nat} {M : nt_M} {o : Option Value × nt_M} {p : Nat → Nat} {q : Nat → Nat} (hp : xs_P M p) (hq : xs_Q M q) (hx : xs_X p q) : ∀ (c : Nat) (v3 : Int32) (v4 : Int32) (J : Nat → Nat → Int32), (J (q 1) 3).toInt - v3.toInt ≤ c → nt_rn X d 1 (48, [(0, .ref (p 24)), (1, .ref (q 0)), (2, .null), (3, .int v3), (4, .int v4)], [], me_w M J) o → o = (none, me_w M (x1N_48 p q c v3 J)) := by
  intro c
  induction c with
  | zero =>
    intro v3 v4 J hc k
    have k := ly_revb 2 (c' := (50, [(0, .ref (p 24)), (1, .ref (q 0)), (2, .null), (3, .int v3), (4, .int v4)], [.ref (q 0), .int v3], me_w M J)) rfl k
    have k := lz_get (a := (q 0)) (g := 600) (M := me_w M J) (v := .ref (q 1)) rfl (nt_gfR rfl (hq.1 (0, 0, 1) (by decide))) k
    have k := lz_get (a := (q 1)) (g := 803) (M := me_w M J) (v := .int (J (q 1) 3)) rfl (congrArg Value.int (rfl)) k
    have k := ly_revb 1 (c' := (if (J (q 1) 3) ≤ v3 then 109 else 59, [(0, .ref (p 24)), (1, .ref (q 0)), (2, .null), (3, .int v3), (4, .int v4)], [], me_w M J)) rfl k
    have h56 : (J (q 1) 3) ≤ v3 := lx_end hc
    rw [if_pos h56] at k
    have k := ly_revb 2 (c' := (111, [(3, .int (Int32.ofInt 0)), (0, .ref (p 24)), (1, .ref (q 0)), (2, .null), (4, .int v4)], [], me_w M J)) rfl k
    have k := nt_rn_w (a := [(3, .int (Int32.ofInt 0)), (0, .ref (p 24)), (1, .ref (q 0)), (2, .null), (4, .int v4)]) (b := [(0, .ref (p 24)), (1, .ref (q 0)), (2, .null), (3, .int (Int32.ofInt 0)), (4, .int v4)]) ⟨rfl, rfl, rfl, rfl, rfl, trivial⟩ rfl k
    have k := xt1N_111 hp hq hx  ((J (q 1) 1).toNatClampNeg) (Int32.ofInt 0) J (lx_beg (by decide)) k
    rw [k, x1N_48]
  | succ c ih =>
    intro v3 v4 J hc k
    have k := ly_revb 2 (c' := (50, [(0, .ref (p 24)), (1, .ref (q 0)), (2, .null), (3, .int v3), (4, .int v4)], [.ref (q 0), .int v3], me_w M J)) rfl k
    have k := lz_get (a := (q 0)) (g := 600) (M := me_w M J) (v := .ref (q 1)) rfl (nt_gfR rfl (hq.1 (0, 0, 1) (by decide))) k
    have k := lz_get (a := (q 1)) (g := 803) (M := me_w M J) (v := .int (J (q 1) 3)) rfl (congrArg Value.int (rfl)) k
    have k := ly_revb 1 (c' := (if (J (q 1) 3) ≤ v3 then 109 else 59, [(0, .ref (p 24)), (1, .ref (q 0)), (2, .null), (3, .int v3), (4, .int v4)], [], me_w M J)) rfl k
    by_cases h56 : (J (q 1) 3) ≤ v3
    · rw [if_pos h56] at k
      have k := ly_revb 2 (c' := (111, [(3, .int (Int32.ofInt 0)), (0, .ref (p 24)), (1, .ref (q 0)), (2, .null), (4, .int v4)], [], me_w M J)) rfl k
      have k := nt_rn_w (a := [(3, .int (Int32.ofInt 0)), (0, .ref (p 24)), (1, .ref (q 0)), (2, .null), (4, .int v4)]) (b := [(0, .ref (p 24)), (1, .ref (q 0)), (2, .null), (3, .int (Int32.ofInt 0)), (4, .int v4)]) ⟨rfl, rfl, rfl, rfl, rfl, trivial⟩ rfl k
      have k := xt1N_111 hp hq hx  ((J (q 1) 1).toNatClampNeg) (Int32.ofInt 0) J (lx_beg (by decide)) k
      rw [k, x1N_48, if_pos h56]
    · rw [if_neg h56] at k
      have k := ly_revb 1 (c' := (60, [(0, .ref (p 24)), (1, .ref (q 0)), (2, .null), (3, .int v3), (4, .int v4)], [.ref (q 0)], me_w M J)) rfl k
      have k := lz_get (a := (q 0)) (g := 600) (M := me_w M J) (v := .ref (q 1)) rfl (nt_gfR rfl (hq.1 (0, 0, 1) (by decide))) k
      have k := lz_get (a := (q 1)) (g := 809) (M := me_w M J) (v := .ref (q 6)) rfl (nt_gfR rfl (hq.1 (1, 9, 6) (by decide))) k
      have k := ly_revb 1 (c' := (67, [(0, .ref (p 24)), (1, .ref (q 0)), (2, .null), (3, .int v3), (4, .int v4)], [.int v3, .ref (q 6)], me_w M J)) rfl k
      have k := mx_iald (v := J (q 6) v3.toNatClampNeg) rfl (hq.2.2.1 6 (by omega)) (rfl) k
      have k := ly_revb 2 (c' := (71, [(4, .int (J (q 6) v3.toNatClampNeg)), (0, .ref (p 24)), (1, .ref (q 0)), (2, .null), (3, .int v3)], [.ref (q 0)], me_w M J)) rfl k
      have k := lz_get (a := (q 0)) (g := 600) (M := me_w M J) (v := .ref (q 1)) rfl (nt_gfR rfl (hq.1 (0, 0, 1) (by decide))) k
      have k := lz_get (a := (q 1)) (g := 810) (M := me_w M J) (v := .ref (q 7)) rfl (nt_gfR rfl (hq.1 (1, 10, 7) (by decide))) k
      have k := ly_revb 1 (c' := (78, [(4, .int (J (q 6) v3.toNatClampNeg)), (0, .ref (p 24)), (1, .ref (q 0)), (2, .null), (3, .int v3)], [.int v3, .ref (q 7)], me_w M J)) rfl k
      have k := mx_iald (v := J (q 7) v3.toNatClampNeg) rfl (hq.2.2.1 7 (by omega)) (rfl) k
      have k := ly_revb 1 (c' := (80, [(4, .int (J (q 6) v3.toNatClampNeg)), (0, .ref (p 24)), (1, .ref (q 0)), (2, .null), (3, .int v3)], [.ref (q 0), .int (J (q 7) v3.toNatClampNeg)], me_w M J)) rfl k
      have k := lz_get (a := (q 0)) (g := 602) (M := me_w M J) (v := .int (J (q 0) 2)) rfl (congrArg Value.int (rfl)) k
      have k := ly_revb 1 (c' := (if (J (q 7) v3.toNatClampNeg) = (J (q 0) 2) then 86 else 103, [(4, .int (J (q 6) v3.toNatClampNeg)), (0, .ref (p 24)), (1, .ref (q 0)), (2, .null), (3, .int v3)], [], me_w M J)) rfl k
      by_cases h83 : (J (q 7) v3.toNatClampNeg) = (J (q 0) 2)
      · rw [if_pos h83] at k
        have k := ly_revb 1 (c' := (87, [(4, .int (J (q 6) v3.toNatClampNeg)), (0, .ref (p 24)), (1, .ref (q 0)), (2, .null), (3, .int v3)], [.ref (q 0)], me_w M J)) rfl k
        have k := lz_get (a := (q 0)) (g := 607) (M := me_w M J) (v := .ref (q 10)) rfl (nt_gfR rfl (hq.1 (0, 7, 10) (by decide))) k
        have k := ly_revb 1 (c' := (92, [(4, .int (J (q 6) v3.toNatClampNeg)), (0, .ref (p 24)), (1, .ref (q 0)), (2, .null), (3, .int v3)], [.int (J (q 6) v3.toNatClampNeg), .ref (q 10)], me_w M J)) rfl k
        have k := mx_iald (v := J (q 10) ((J (q 6) v3.toNatClampNeg).toNatClampNeg)) rfl (hq.2.2.1 10 (by omega)) (rfl) k
        have k := ly_revb 1 (c' := (if (J (q 10) ((J (q 6) v3.toNatClampNeg).toNatClampNeg)) = 0 then 96 else 103, [(4, .int (J (q 6) v3.toNatClampNeg)), (0, .ref (p 24)), (1, .ref (q 0)), (2, .null), (3, .int v3)], [], me_w M J)) rfl k
        by_cases h93 : (J (q 10) ((J (q 6) v3.toNatClampNeg).toNatClampNeg)) = 0
        · rw [if_pos h93] at k
          have k := ly_revb 4 (c' := (100, [(4, .int (J (q 6) v3.toNatClampNeg)), (0, .ref (p 24)), (1, .ref (q 0)), (2, .null), (3, .int v3)], [.int v3, .null, .ref (q 0), .ref (p 24)], me_w M J)) rfl k
          obtain ⟨d1, o1, ed, kc, k⟩ := lz_c (g := 4) (q := 1) (vs := [.ref (p 24), .ref (q 0), .null, .int v3]) (rest := []) rfl rfl (by decide) (Or.inr (Or.inl ⟨_, rfl, rfl⟩)) rfl k
          have e1 := xt4N hp hq hx kc
          subst e1
          have k : nt_rn X _ 1 (103, [(4, .int (J (q 6) v3.toNatClampNeg)), (0, .ref (p 24)), (1, .ref (q 0)), (2, .null), (3, .int v3)], [], me_w M (x4N p q v3 J)) _ := k
          have k := ly_revb 2 (c' := (48, [(3, .int (v3 + (Int32.ofInt 1))), (4, .int (J (q 6) v3.toNatClampNeg)), (0, .ref (p 24)), (1, .ref (q 0)), (2, .null)], [], me_w M (x4N p q v3 J))) rfl k
          have k := nt_rn_w (a := [(3, .int (v3 + (Int32.ofInt 1))), (4, .int (J (q 6) v3.toNatClampNeg)), (0, .ref (p 24)), (1, .ref (q 0)), (2, .null)]) (b := [(0, .ref (p 24)), (1, .ref (q 0)), (2, .null), (3, .int (v3 + (Int32.ofInt 1))), (4, .int (J (q 6) v3.toNatClampNeg))]) ⟨rfl, rfl, rfl, rfl, rfl, trivial⟩ rfl k
          have k := ih (v3 + (Int32.ofInt 1)) (J (q 6) v3.toNatClampNeg) (x4N p q v3 J) (by rw [show (x4N p q v3 J) (q 1) 3 = J (q 1) 3 from congrFun (x4N_frJ  (hq.2.1 1 10 (by omega) (by omega) (by decide)) (hq.2.1 1 12 (by omega) (by omega) (by decide)) (hq.2.1 1 16 (by omega) (by omega) (by decide))) 3]; exact lx_dec h56 hc) k
          rw [k, x1N_48, if_neg h56, if_pos h83, if_pos h93]
        · rw [if_neg h93] at k
          have k := ly_revb 2 (c' := (48, [(3, .int (v3 + (Int32.ofInt 1))), (4, .int (J (q 6) v3.toNatClampNeg)), (0, .ref (p 24)), (1, .ref (q 0)), (2, .null)], [], me_w M J)) rfl k
          have k := nt_rn_w (a := [(3, .int (v3 + (Int32.ofInt 1))), (4, .int (J (q 6) v3.toNatClampNeg)), (0, .ref (p 24)), (1, .ref (q 0)), (2, .null)]) (b := [(0, .ref (p 24)), (1, .ref (q 0)), (2, .null), (3, .int (v3 + (Int32.ofInt 1))), (4, .int (J (q 6) v3.toNatClampNeg))]) ⟨rfl, rfl, rfl, rfl, rfl, trivial⟩ rfl k
          have k := ih (v3 + (Int32.ofInt 1)) (J (q 6) v3.toNatClampNeg) J (lx_dec h56 hc) k
          rw [k, x1N_48, if_neg h56, if_pos h83, if_neg h93]
      · rw [if_neg h83] at k
        have k := ly_revb 2 (c' := (48, [(3, .int (v3 + (Int32.ofInt 1))), (4, .int (J (q 6) v3.toNatClampNeg)), (0, .ref (p 24)), (1, .ref (q 0)), (2, .null)], [], me_w M J)) rfl k
        have k := nt_rn_w (a := [(3, .int (v3 + (Int32.ofInt 1))), (4, .int (J (q 6) v3.toNatClampNeg)), (0, .ref (p 24)), (1, .ref (q 0)), (2, .null)]) (b := [(0, .ref (p 24)), (1, .ref (q 0)), (2, .null), (3, .int (v3 + (Int32.ofInt 1))), (4, .int (J (q 6) v3.toNatClampNeg))]) ⟨rfl, rfl, rfl, rfl, rfl, trivial⟩ rfl k
        have k := ih (v3 + (Int32.ofInt 1)) (J (q 6) v3.toNatClampNeg) J (lx_dec h56 hc) k
        rw [k, x1N_48, if_neg h56, if_neg h83]
theorem x1N_48_rule {p : Nat → Nat} {q : Nat → Nat} {I : Nat → Int32 → (Nat → Nat → Int32) → Prop} {Q : (Nat → Nat → Int32) → Prop} (h0 : ∀ (v3 : Int32) (J : Nat → Nat → Int32), I 0 v3 J → Q (x1N_111 p q ((J (q 1) 1).toNatClampNeg) (Int32.ofInt 0) J)) (h1 : ∀ (c : Nat) (v3 : Int32) (J : Nat → Nat → Int32), I (c + 1) v3 J →
    if (J (q 1) 3) ≤ v3 then (Q (x1N_111 p q ((J (q 1) 1).toNatClampNeg) (Int32.ofInt 0) J))
    else if (J (q 7) v3.toNatClampNeg) = (J (q 0) 2) then if (J (q 10) ((J (q 6) v3.toNatClampNeg).toNatClampNeg)) = 0 then (I c (v3 + (Int32.ofInt 1)) (x4N p q v3 J))
        else (I c (v3 + (Int32.ofInt 1)) J)
      else (I c (v3 + (Int32.ofInt 1)) J)) : ∀ (c : Nat) (v3 : Int32) (J : Nat → Nat → Int32), I c v3 J → Q (x1N_48 p q c v3 J) := by
  intro c
  induction c with
  | zero =>
    intro v3 J hi
    rw [x1N_48]
    exact h0 v3 J hi
  | succ c ih =>
    intro v3 J hi
    have hi := h1 c v3 J hi
    rw [x1N_48]
    by_cases h : (J (q 1) 3) ≤ v3
    · rw [if_pos h] at hi ⊢
      exact hi
    · rw [if_neg h] at hi ⊢
      by_cases h : (J (q 7) v3.toNatClampNeg) = (J (q 0) 2)
      · rw [if_pos h] at hi ⊢
        by_cases h : (J (q 10) ((J (q 6) v3.toNatClampNeg).toNatClampNeg)) = 0
        · rw [if_pos h] at hi ⊢
          exact ih _ _ hi
        · rw [if_neg h] at hi ⊢
          exact ih _ _ hi
      · rw [if_neg h] at hi ⊢
        exact ih _ _ hi
def x1N_2 (p : Nat → Nat) (q : Nat → Nat) : Nat → Int32 → (Nat → Nat → Int32) → (Nat → Nat → Int32)
  | 0, v3, J => (x1N_48 p q ((J (q 1) 3).toNatClampNeg) (Int32.ofInt 0) J)
  | c + 1, v3, J => if (J (q 1) 1) ≤ v3 then (x1N_48 p q ((J (q 1) 3).toNatClampNeg) (Int32.ofInt 0) J)
    else if (J (q 10) v3.toNatClampNeg) = (Int32.ofInt 1) then if (x2 q v3 (J (q 0) 2) J) = 0 then (x1N_2 p q c (v3 + (Int32.ofInt 1)) J)
        else (x1N_2 p q c (v3 + (Int32.ofInt 1)) (x3 q v3 J))
      else (x1N_2 p q c (v3 + (Int32.ofInt 1)) J)
theorem xt1N_2 {X : nt_X} {d : Nat} {M : nt_M} {o : Option Value × nt_M} {p : Nat → Nat} {q : Nat → Nat} (hp : xs_P M p) (hq : xs_Q M q) (hx : xs_X p q) : ∀ (c : Nat) (v3 : Int32) (J : Nat → Nat → Int32), (J (q 1) 1).toInt - v3.toInt ≤ c → nt_rn X d 1 (2, [(0, .ref (p 24)), (1, .ref (q 0)), (2, .null), (3, .int v3)], [], me_w M J) o → o = (none, me_w M (x1N_2 p q c v3 J)) := by
  intro c
  induction c with
  | zero =>
    intro v3 J hc k
    have k := ly_revb 2 (c' := (4, [(0, .ref (p 24)), (1, .ref (q 0)), (2, .null), (3, .int v3)], [.ref (q 0), .int v3], me_w M J)) rfl k
    have k := lz_get (a := (q 0)) (g := 600) (M := me_w M J) (v := .ref (q 1)) rfl (nt_gfR rfl (hq.1 (0, 0, 1) (by decide))) k
    have k := lz_get (a := (q 1)) (g := 801) (M := me_w M J) (v := .int (J (q 1) 1)) rfl (congrArg Value.int (rfl)) k
    have k := ly_revb 1 (c' := (if (J (q 1) 1) ≤ v3 then 46 else 13, [(0, .ref (p 24)), (1, .ref (q 0)), (2, .null), (3, .int v3)], [], me_w M J)) rfl k
    have h10 : (J (q 1) 1) ≤ v3 := lx_end hc
    rw [if_pos h10] at k
    have k := ly_revb 2 (c' := (48, [(3, .int (Int32.ofInt 0)), (0, .ref (p 24)), (1, .ref (q 0)), (2, .null)], [], me_w M J)) rfl k
    have k := nt_rn_w (a := [(3, .int (Int32.ofInt 0)), (0, .ref (p 24)), (1, .ref (q 0)), (2, .null)]) (b := [(0, .ref (p 24)), (1, .ref (q 0)), (2, .null), (3, .int (Int32.ofInt 0)), (4, .int (Int32.ofInt 0))]) ⟨rfl, rfl, rfl, rfl, trivial⟩ rfl k
    have k := xt1N_48 hp hq hx  ((J (q 1) 3).toNatClampNeg) (Int32.ofInt 0) (Int32.ofInt 0) J (lx_beg (by decide)) k
    rw [k, x1N_2]
  | succ c ih =>
    intro v3 J hc k
    have k := ly_revb 2 (c' := (4, [(0, .ref (p 24)), (1, .ref (q 0)), (2, .null), (3, .int v3)], [.ref (q 0), .int v3], me_w M J)) rfl k
    have k := lz_get (a := (q 0)) (g := 600) (M := me_w M J) (v := .ref (q 1)) rfl (nt_gfR rfl (hq.1 (0, 0, 1) (by decide))) k
    have k := lz_get (a := (q 1)) (g := 801) (M := me_w M J) (v := .int (J (q 1) 1)) rfl (congrArg Value.int (rfl)) k
    have k := ly_revb 1 (c' := (if (J (q 1) 1) ≤ v3 then 46 else 13, [(0, .ref (p 24)), (1, .ref (q 0)), (2, .null), (3, .int v3)], [], me_w M J)) rfl k
    by_cases h10 : (J (q 1) 1) ≤ v3
    · rw [if_pos h10] at k
      have k := ly_revb 2 (c' := (48, [(3, .int (Int32.ofInt 0)), (0, .ref (p 24)), (1, .ref (q 0)), (2, .null)], [], me_w M J)) rfl k
      have k := nt_rn_w (a := [(3, .int (Int32.ofInt 0)), (0, .ref (p 24)), (1, .ref (q 0)), (2, .null)]) (b := [(0, .ref (p 24)), (1, .ref (q 0)), (2, .null), (3, .int (Int32.ofInt 0)), (4, .int (Int32.ofInt 0))]) ⟨rfl, rfl, rfl, rfl, trivial⟩ rfl k
      have k := xt1N_48 hp hq hx  ((J (q 1) 3).toNatClampNeg) (Int32.ofInt 0) (Int32.ofInt 0) J (lx_beg (by decide)) k
      rw [k, x1N_2, if_pos h10]
    · rw [if_neg h10] at k
      have k := ly_revb 1 (c' := (14, [(0, .ref (p 24)), (1, .ref (q 0)), (2, .null), (3, .int v3)], [.ref (q 0)], me_w M J)) rfl k
      have k := lz_get (a := (q 0)) (g := 607) (M := me_w M J) (v := .ref (q 10)) rfl (nt_gfR rfl (hq.1 (0, 7, 10) (by decide))) k
      have k := ly_revb 1 (c' := (18, [(0, .ref (p 24)), (1, .ref (q 0)), (2, .null), (3, .int v3)], [.int v3, .ref (q 10)], me_w M J)) rfl k
      have k := mx_iald (v := J (q 10) v3.toNatClampNeg) rfl (hq.2.2.1 10 (by omega)) (rfl) k
      have k := ly_revb 2 (c' := (if (J (q 10) v3.toNatClampNeg) = (Int32.ofInt 1) then 23 else 40, [(0, .ref (p 24)), (1, .ref (q 0)), (2, .null), (3, .int v3)], [], me_w M J)) rfl k
      by_cases h20 : (J (q 10) v3.toNatClampNeg) = (Int32.ofInt 1)
      · rw [if_pos h20] at k
        have k := ly_revb 3 (c' := (26, [(0, .ref (p 24)), (1, .ref (q 0)), (2, .null), (3, .int v3)], [.ref (q 0), .int v3, .ref (q 0)], me_w M J)) rfl k
        have k := lz_get (a := (q 0)) (g := 602) (M := me_w M J) (v := .int (J (q 0) 2)) rfl (congrArg Value.int (rfl)) k
        obtain ⟨d1, o1, ed, kc, k⟩ := lz_c (g := 2) (q := 0) (vs := [.ref (q 0), .int v3, .int (J (q 0) 2)]) (rest := []) rfl rfl (by decide) (Or.inl ⟨_, rfl, rfl⟩) rfl k
        have e1 := xt2 hq kc
        subst e1
        have k : nt_rn X _ 1 (32, [(0, .ref (p 24)), (1, .ref (q 0)), (2, .null), (3, .int v3)], [.int (x2 q v3 (J (q 0) 2) J)], me_w M J) _ := k
        have k := ly_revb 1 (c' := (if (x2 q v3 (J (q 0) 2) J) = 0 then 40 else 35, [(0, .ref (p 24)), (1, .ref (q 0)), (2, .null), (3, .int v3)], [], me_w M J)) rfl k
        by_cases h32 : (x2 q v3 (J (q 0) 2) J) = 0
        · rw [if_pos h32] at k
          have k := ly_revb 2 (c' := (2, [(3, .int (v3 + (Int32.ofInt 1))), (0, .ref (p 24)), (1, .ref (q 0)), (2, .null)], [], me_w M J)) rfl k
          have k := nt_rn_w (a := [(3, .int (v3 + (Int32.ofInt 1))), (0, .ref (p 24)), (1, .ref (q 0)), (2, .null)]) (b := [(0, .ref (p 24)), (1, .ref (q 0)), (2, .null), (3, .int (v3 + (Int32.ofInt 1)))]) ⟨rfl, rfl, rfl, rfl, trivial⟩ rfl k
          have k := ih (v3 + (Int32.ofInt 1)) J (lx_dec h10 hc) k
          rw [k, x1N_2, if_neg h10, if_pos h20, if_pos h32]
        · rw [if_neg h32] at k
          have k := ly_revb 2 (c' := (37, [(0, .ref (p 24)), (1, .ref (q 0)), (2, .null), (3, .int v3)], [.int v3, .ref (q 0)], me_w M J)) rfl k
          obtain ⟨d1, o1, ed, kc, k⟩ := lz_c (g := 3) (q := 0) (vs := [.ref (q 0), .int v3]) (rest := []) rfl rfl (by decide) (Or.inl ⟨_, rfl, rfl⟩) rfl k
          have e1 := xt3 hq kc
          subst e1
          have k : nt_rn X _ 1 (40, [(0, .ref (p 24)), (1, .ref (q 0)), (2, .null), (3, .int v3)], [], me_w M (x3 q v3 J)) _ := k
          have k := ly_revb 2 (c' := (2, [(3, .int (v3 + (Int32.ofInt 1))), (0, .ref (p 24)), (1, .ref (q 0)), (2, .null)], [], me_w M (x3 q v3 J))) rfl k
          have k := nt_rn_w (a := [(3, .int (v3 + (Int32.ofInt 1))), (0, .ref (p 24)), (1, .ref (q 0)), (2, .null)]) (b := [(0, .ref (p 24)), (1, .ref (q 0)), (2, .null), (3, .int (v3 + (Int32.ofInt 1)))]) ⟨rfl, rfl, rfl, rfl, trivial⟩ rfl k
          have k := ih (v3 + (Int32.ofInt 1)) (x3 q v3 J) (by rw [show (x3 q v3 J) (q 1) 1 = J (q 1) 1 from congrFun (x3_frJ  (hq.2.1 1 0 (by omega) (by omega) (by decide)) (hq.2.1 1 10 (by omega) (by omega) (by decide)) (hq.2.1 1 11 (by omega) (by omega) (by decide)) (hq.2.1 1 12 (by omega) (by omega) (by decide)) (hq.2.1 1 16 (by omega) (by omega) (by decide))) 1]; exact lx_dec h10 hc) k
          rw [k, x1N_2, if_neg h10, if_pos h20, if_neg h32]
      · rw [if_neg h20] at k
        have k := ly_revb 2 (c' := (2, [(3, .int (v3 + (Int32.ofInt 1))), (0, .ref (p 24)), (1, .ref (q 0)), (2, .null)], [], me_w M J)) rfl k
        have k := nt_rn_w (a := [(3, .int (v3 + (Int32.ofInt 1))), (0, .ref (p 24)), (1, .ref (q 0)), (2, .null)]) (b := [(0, .ref (p 24)), (1, .ref (q 0)), (2, .null), (3, .int (v3 + (Int32.ofInt 1)))]) ⟨rfl, rfl, rfl, rfl, trivial⟩ rfl k
        have k := ih (v3 + (Int32.ofInt 1)) J (lx_dec h10 hc) k
        rw [k, x1N_2, if_neg h10, if_neg h20]
theorem x1N_2_rule {p : Nat → Nat} {q : Nat → Nat} {I : Nat → Int32 → (Nat → Nat → Int32) → Prop} {Q : (Nat → Nat → Int32) → Prop} (h0 : ∀ (v3 : Int32) (J : Nat → Nat → Int32), I 0 v3 J → Q (x1N_48 p q ((J (q 1) 3).toNatClampNeg) (Int32.ofInt 0) J)) (h1 : ∀ (c : Nat) (v3 : Int32) (J : Nat → Nat → Int32), I (c + 1) v3 J →
    if (J (q 1) 1) ≤ v3 then (Q (x1N_48 p q ((J (q 1) 3).toNatClampNeg) (Int32.ofInt 0) J))
    else if (J (q 10) v3.toNatClampNeg) = (Int32.ofInt 1) then if (x2 q v3 (J (q 0) 2) J) = 0 then (I c (v3 + (Int32.ofInt 1)) J)
        else (I c (v3 + (Int32.ofInt 1)) (x3 q v3 J))
      else (I c (v3 + (Int32.ofInt 1)) J)) : ∀ (c : Nat) (v3 : Int32) (J : Nat → Nat → Int32), I c v3 J → Q (x1N_2 p q c v3 J) := by
  intro c
  induction c with
  | zero =>
    intro v3 J hi
    rw [x1N_2]
    exact h0 v3 J hi
  | succ c ih =>
    intro v3 J hi
    have hi := h1 c v3 J hi
    rw [x1N_2]
    by_cases h : (J (q 1) 1) ≤ v3
    · rw [if_pos h] at hi ⊢
      exact hi
    · rw [if_neg h] at hi ⊢
      by_cases h : (J (q 10) v3.toNatClampNeg) = (Int32.ofInt 1)
      · rw [if_pos h] at hi ⊢
        by_cases h : (x2 q v3 (J (q 0) 2) J) = 0
        · rw [if_pos h] at hi ⊢
          exact ih _ _ hi
        · rw [if_neg h] at hi ⊢
          exact ih _ _ hi
      · rw [if_neg h] at hi ⊢
        exact ih _ _ hi
def x1N (p : Nat → Nat) (q : Nat → Nat) (J : Nat → Nat → Int32) : (Nat → Nat → Int32) := (x1N_2 p q ((J (q 1) 1).toNatClampNeg) (Int32.ofInt 0) J)
theorem xt1N {X : nt_X} {d : Nat} {M : nt_M} {o : Option Value × nt_M} {p : Nat → Nat} {q : Nat → Nat} {J : Nat → Nat → Int32} (hp : xs_P M p) (hq : xs_Q M q) (hx : xs_X p q) (k : nt_ev X d 1 [.ref (p 24), .ref (q 0), .null] (me_w M J) o) : o = (none, me_w M (x1N p q J)) := by
  have k : nt_rn X d 1 (0, [(0, .ref (p 24)), (1, .ref (q 0)), (2, .null)], [], me_w M J) o := k
  have k := ly_revb 2 (c' := (2, [(3, .int (Int32.ofInt 0)), (0, .ref (p 24)), (1, .ref (q 0)), (2, .null)], [], me_w M J)) rfl k
  have k := nt_rn_w (a := [(3, .int (Int32.ofInt 0)), (0, .ref (p 24)), (1, .ref (q 0)), (2, .null)]) (b := [(0, .ref (p 24)), (1, .ref (q 0)), (2, .null), (3, .int (Int32.ofInt 0))]) ⟨rfl, rfl, rfl, rfl, trivial⟩ rfl k
  have k := xt1N_2 hp hq hx  ((J (q 1) 1).toNatClampNeg) (Int32.ofInt 0) J (lx_beg (by decide)) k
  rw [k, x1N]
theorem x1N_111_frJ {p : Nat → Nat} {q : Nat → Nat} {b : Nat} : ∀ (c : Nat) (v3 : Int32) (J : Nat → Nat → Int32), b ≠ q 0 → b ≠ q 10 → b ≠ q 11 → b ≠ q 12 → b ≠ q 13 → b ≠ q 15 → b ≠ q 16 → x1N_111 p q c v3 J b = J b := by
  intro c
  induction c with
  | zero =>
    intro v3 J n0 n1 n2 n3 n4 n5 n6
    rw [x1N_111]
    all_goals first | (dsimp only; exact (show (nt_u (nt_u J (q 0) 2 ((J (q 0) 2) + (Int32.ofInt 1))) (q 0) 3 (Int32.ofInt 0)) b = J b from (mu_o n0).trans (mu_o n0))) | exact (show (nt_u (nt_u J (q 0) 2 ((J (q 0) 2) + (Int32.ofInt 1))) (q 0) 3 (Int32.ofInt 0)) b = J b from (mu_o n0).trans (mu_o n0))
  | succ c ih =>
    intro v3 J n0 n1 n2 n3 n4 n5 n6
    rw [x1N_111]
    by_cases h : (J (q 1) 1) ≤ v3
    · rw [if_pos h]
      all_goals first | (dsimp only; exact (show (nt_u (nt_u J (q 0) 2 ((J (q 0) 2) + (Int32.ofInt 1))) (q 0) 3 (Int32.ofInt 0)) b = J b from (mu_o n0).trans (mu_o n0))) | exact (show (nt_u (nt_u J (q 0) 2 ((J (q 0) 2) + (Int32.ofInt 1))) (q 0) 3 (Int32.ofInt 0)) b = J b from (mu_o n0).trans (mu_o n0))
    · rw [if_neg h]
      by_cases h : (J (q 10) v3.toNatClampNeg) = (Int32.ofInt 1)
      · rw [if_pos h]
        exact (ih _ _ n0 n1 n2 n3 n4 n5 n6).trans (x9_frJ  n1 n3 n4 n5 n6)
      · rw [if_neg h]
        exact (ih _ _ n0 n1 n2 n3 n4 n5 n6).trans (rfl)
theorem x1N_48_frJ {p : Nat → Nat} {q : Nat → Nat} {b : Nat} : ∀ (c : Nat) (v3 : Int32) (J : Nat → Nat → Int32), b ≠ q 0 → b ≠ q 10 → b ≠ q 11 → b ≠ q 12 → b ≠ q 13 → b ≠ q 15 → b ≠ q 16 → x1N_48 p q c v3 J b = J b := by
  intro c
  induction c with
  | zero =>
    intro v3 J n0 n1 n2 n3 n4 n5 n6
    rw [x1N_48]
    exact (x1N_111_frJ _ _ _ n0 n1 n2 n3 n4 n5 n6).trans (rfl)
  | succ c ih =>
    intro v3 J n0 n1 n2 n3 n4 n5 n6
    rw [x1N_48]
    by_cases h : (J (q 1) 3) ≤ v3
    · rw [if_pos h]
      exact (x1N_111_frJ _ _ _ n0 n1 n2 n3 n4 n5 n6).trans (rfl)
    · rw [if_neg h]
      by_cases h : (J (q 7) v3.toNatClampNeg) = (J (q 0) 2)
      · rw [if_pos h]
        by_cases h : (J (q 10) ((J (q 6) v3.toNatClampNeg).toNatClampNeg)) = 0
        · rw [if_pos h]
          exact (ih _ _ n0 n1 n2 n3 n4 n5 n6).trans (x4N_frJ  n1 n3 n6)
        · rw [if_neg h]
          exact (ih _ _ n0 n1 n2 n3 n4 n5 n6).trans (rfl)
      · rw [if_neg h]
        exact (ih _ _ n0 n1 n2 n3 n4 n5 n6).trans (rfl)
theorem x1N_2_frJ {p : Nat → Nat} {q : Nat → Nat} {b : Nat} : ∀ (c : Nat) (v3 : Int32) (J : Nat → Nat → Int32), b ≠ q 0 → b ≠ q 10 → b ≠ q 11 → b ≠ q 12 → b ≠ q 13 → b ≠ q 15 → b ≠ q 16 → x1N_2 p q c v3 J b = J b := by
  intro c
  induction c with
  | zero =>
    intro v3 J n0 n1 n2 n3 n4 n5 n6
    rw [x1N_2]
    exact (x1N_48_frJ _ _ _ n0 n1 n2 n3 n4 n5 n6).trans (rfl)
  | succ c ih =>
    intro v3 J n0 n1 n2 n3 n4 n5 n6
    rw [x1N_2]
    by_cases h : (J (q 1) 1) ≤ v3
    · rw [if_pos h]
      exact (x1N_48_frJ _ _ _ n0 n1 n2 n3 n4 n5 n6).trans (rfl)
    · rw [if_neg h]
      by_cases h : (J (q 10) v3.toNatClampNeg) = (Int32.ofInt 1)
      · rw [if_pos h]
        by_cases h : (x2 q v3 (J (q 0) 2) J) = 0
        · rw [if_pos h]
          exact (ih _ _ n0 n1 n2 n3 n4 n5 n6).trans (rfl)
        · rw [if_neg h]
          exact (ih _ _ n0 n1 n2 n3 n4 n5 n6).trans (x3_frJ  n0 n1 n2 n3 n6)
      · rw [if_neg h]
        exact (ih _ _ n0 n1 n2 n3 n4 n5 n6).trans (rfl)
theorem x1N_frJ {p : Nat → Nat} {q : Nat → Nat} {J : Nat → Nat → Int32} {b : Nat} (n0 : b ≠ q 0) (n1 : b ≠ q 10) (n2 : b ≠ q 11) (n3 : b ≠ q 12) (n4 : b ≠ q 13) (n5 : b ≠ q 15) (n6 : b ≠ q 16) : x1N p q J b = J b := by
  unfold x1N
  exact (x1N_2_frJ _ _ _ n0 n1 n2 n3 n4 n5 n6).trans (rfl)
end
section
/-! the reference: what a day keeps -/
def xk_K (e e1 : Nat → Int32) : Prop := xr_W e1 ∧ ∀ i, i < 6 → e1 i = e i
theorem xk_r {e : Nat → Int32} (h : xr_W e) : xk_K e e := ⟨h, fun _ _ => rfl⟩
theorem xk_t {a b c : Nat → Int32} (h : xk_K a b) (g : xk_K b c) : xk_K a c := ⟨g.1, fun i hi => (g.2 i hi).trans (h.2 i hi)⟩
theorem xk_up {e : Nat → Int32} {J : Nat → Nat → Int32} {a j : Nat} {v : Int32} (h : xk_K e (J a)) (hj : 6 ≤ j) (hv : (xr_b j).1 ≤ v.toInt ∧ v.toInt ≤ (xr_b j).2) : xk_K e (nt_u J a j v a) := ⟨xr_up h.1 hv, fun i hi => by rw [me_uk (by omega)]; exact h.2 i hi⟩
theorem xk_ua {e : Nat → Int32} {J : Nat → Nat → Int32} {a j n : Nat} {v : Int32} (h : xk_K e (J a)) (e1 : j = n) (hj : 6 ≤ n) (hv : xr_b n = (-2147483648, 2147483647)) : xk_K e (nt_u J a j v a) := by
  subst e1
  exact xk_up h hj (xr_any hv)
theorem xk_ub {e : Nat → Int32} {J : Nat → Nat → Int32} {a j n : Nat} {l m : Int} {v : Int32} (h : xk_K e (J a)) (e1 : j = n) (hj : 6 ≤ n) (hb : xr_b n = (l, m)) (hv : l ≤ v.toInt ∧ v.toInt ≤ m) : xk_K e (nt_u J a j v a) := by
  subst e1
  refine xk_up h hj ?_
  rw [hb]
  exact hv
theorem xi_m1 : (Int32.ofInt (-1)).toInt = -1 := by decide
theorem xi_nn {b i : Int32} (n : ¬ b ≤ i) (h : 0 ≤ i.toInt) : 0 ≤ (i + Int32.ofInt 1).toInt := by rw [lx_inc n]; omega
theorem xi_va {p : Nat → Nat} {J : Nat → Nat → Int32} {v : Int32} (hW : xr_W (J (p 4))) (hv : 0 ≤ v.toInt ∧ v.toInt ≤ 7) : 0 ≤ (x180 p v (Int32.ofInt 0) J).toInt ∧ (x180 p v (Int32.ofInt 0) J).toInt ≤ 5 := by
  unfold x180
  rw [show ((Int32.ofInt 172 + Int32.ofInt 5 * v) + Int32.ofInt 0).toNatClampNeg = 172 + 5 * v.toInt.toNat + 0 from xi_3 (a := 172) (m := 5) (b := 0) (by omega) (by omega) (by omega) hv.1 (by omega)]
  exact xr_sh hW (by omega)
theorem xw_191 {p : Nat → Nat} {J : Nat → Nat → Int32} {v : Int32} (hW : xr_W (J (p 4))) (hv : 0 ≤ v.toInt ∧ v.toInt ≤ 7) : xk_K (J (p 4)) (x191 p v J (p 4)) := by
  have hs := xi_va hW hv
  have fin : ∀ (v5 v3 : Int32) (J1 : Nat → Nat → Int32), xk_K (J (p 4)) (J1 (p 4)) → xk_K (J (p 4)) ((nt_u (nt_u (nt_u (nt_u (nt_u J1 (p 4) ((((Int32.ofInt 10) + ((Int32.ofInt 7) * (x180 p v (Int32.ofInt 0) J))) + (Int32.ofInt 6)).toNatClampNeg) ((J1 (p 4) ((((Int32.ofInt 10) + ((Int32.ofInt 7) * (x180 p v (Int32.ofInt 0) J))) + (Int32.ofInt 6)).toNatClampNeg)) + v5)) (p 4) 7 (((nt_u J1 (p 4) ((((Int32.ofInt 10) + ((Int32.ofInt 7) * (x180 p v (Int32.ofInt 0) J))) + (Int32.ofInt 6)).toNatClampNeg) ((J1 (p 4) ((((Int32.ofInt 10) + ((Int32.ofInt 7) * (x180 p v (Int32.ofInt 0) J))) + (Int32.ofInt 6)).toNatClampNeg)) + v5)) (p 4) 7) + v3)) (p 4) ((((Int32.ofInt 10) + ((Int32.ofInt 7) * (x180 p v (Int32.ofInt 0) J))) + (Int32.ofInt 4)).toNatClampNeg) (Int32.ofInt 0)) (p 4) ((((Int32.ofInt 10) + ((Int32.ofInt 7) * (x180 p v (Int32.ofInt 0) J))) + (Int32.ofInt 5)).toNatClampNeg) (Int32.ofInt (-1))) (p 4) ((((Int32.ofInt 172) + ((Int32.ofInt 5) * v)) + (Int32.ofInt 4)).toNatClampNeg) (Int32.ofInt 2)) (p 4)) := by
    intro v5 v3 J1 h
    refine xk_ua (xk_ub (xk_ua (xk_ua (xk_ua h (xi_s6 hs.1 (by omega)) (by omega) (xr_bs (by omega) (by omega) (by omega))) rfl (by omega) rfl) (xi_s4 hs.1 (by omega)) (by omega) (xr_bs (by omega) (by omega) (by omega))) (xi_s5 hs.1 (by omega)) (by omega) (xr_b5 (by omega)) (by rw [xi_m1]; omega)) (xi_v4 hv.1 (by omega)) (by omega) (xr_bv (by omega) (by omega) (by omega))
  unfold x191
  refine x191_31_rule (I := fun _ _ v6 J1 => xk_K (J (p 4)) (J1 (p 4)) ∧ 0 ≤ v6.toInt) (Q := fun J1 => xk_K (J (p 4)) (J1 (p 4))) ?_ ?_ _ _ _ _ ⟨xk_r hW, by decide⟩
  · intro v5 v6 J1 h
    exact fin _ _ _ h.1
  · intro c v5 v6 J1 h
    by_cases h1 : J1 (p 4) 2 ≤ v6
    · rw [if_pos h1]
      exact fin _ _ _ h.1
    · rw [if_neg h1]
      by_cases h2 : x171 p v6 (x180 p v (Int32.ofInt 0) J) J1 = 0
      · rw [if_pos h2]
        exact ⟨h.1, xi_nn h1 h.2⟩
      · rw [if_neg h2]
        obtain ⟨s, hs6, e⟩ := xk_ow h.1.1 h1 h.2
        exact ⟨xk_ua h.1 e (by omega) (xr_bs hs6 (by omega) (by omega)), xi_nn h1 h.2⟩
theorem xw_202b {p : Nat → Nat} {e : Nat → Int32} {v1 : Int32} {c : Nat} {v4 : Int32} {J : Nat → Nat → Int32} (h : xk_K e (J (p 4))) (h0 : 0 ≤ v4.toInt) : xk_K e (x202_145 p v1 c v4 J (p 4)) := by
  refine x202_145_rule (I := fun _ v4 J1 => xk_K e (J1 (p 4)) ∧ 0 ≤ v4.toInt) (Q := fun J1 => xk_K e (J1 (p 4))) ?_ ?_ _ _ _ ⟨h, h0⟩
  · intro v4 J1 h
    exact h.1
  · intro c v4 J1 h
    by_cases h1 : J1 (p 4) 2 ≤ v4
    · rw [if_pos h1]
      exact h.1
    · rw [if_neg h1]
      have l24 := xi_lt h1 (xr_2 h.1.1).2
      have l0 := h.2
      by_cases h2 : x173 p v4 (Int32.ofInt 3) J1 = v1
      · rw [if_pos h2]
        exact ⟨xk_ua h.1 (xi_p4 h.2 (by omega)) (by omega) (xr_bp (by omega) (by omega) (by omega) (by omega)), xi_nn h1 h.2⟩
      · rw [if_neg h2]
        exact ⟨h.1, xi_nn h1 h.2⟩
theorem xw_lose {p : Nat → Nat} {e : Nat → Int32} {J : Nat → Nat → Int32} {i x : Int32} (h : xk_K e (J (p 4))) (hv : 0 ≤ i.toInt ∧ i.toInt ≤ 5) (hx : 0 ≤ x.toInt ∧ x.toInt ≤ 7) : xk_K e (nt_u (nt_u (nt_u J (p 4) (((Int32.ofInt 10 + Int32.ofInt 7 * i) + Int32.ofInt 4).toNatClampNeg) (Int32.ofInt 2)) (p 4) (((Int32.ofInt 10 + Int32.ofInt 7 * i) + Int32.ofInt 5).toNatClampNeg) (Int32.ofInt (-1))) (p 4) (((Int32.ofInt 172 + Int32.ofInt 5 * x) + Int32.ofInt 4).toNatClampNeg) (Int32.ofInt 3) (p 4)) :=
  xk_ua (xk_ub (xk_ua h (xi_s4 hv.1 (by omega)) (by omega) (xr_bs (by omega) (by omega) (by omega))) (xi_s5 hv.1 (by omega)) (by omega) (xr_b5 (by omega)) (by rw [xi_m1]; omega)) (xi_v4 hx.1 (by omega)) (by omega) (xr_bv (by omega) (by omega) (by omega))
theorem xw_losem {p : Nat → Nat} {e : Nat → Int32} {J : Nat → Nat → Int32} {i x : Int32} (h : xk_K e (J (p 4))) (hv : 0 ≤ i.toInt ∧ i.toInt ≤ 5) (hx : -1 ≤ x.toInt ∧ x.toInt ≤ 7) : xk_K e (nt_u (nt_u (nt_u J (p 4) (((Int32.ofInt 10 + Int32.ofInt 7 * i) + Int32.ofInt 4).toNatClampNeg) (Int32.ofInt 2)) (p 4) (((Int32.ofInt 10 + Int32.ofInt 7 * i) + Int32.ofInt 5).toNatClampNeg) (Int32.ofInt (-1))) (p 4) (((Int32.ofInt 172 + Int32.ofInt 5 * x) + Int32.ofInt 4).toNatClampNeg) (Int32.ofInt 3) (p 4)) :=
  xk_ua (xk_ub (xk_ua h (xi_s4 hv.1 (by omega)) (by omega) (xr_bs (by omega) (by omega) (by omega))) (xi_s5 hv.1 (by omega)) (by omega) (xr_b5 (by omega)) (by rw [xi_m1]; omega)) (xi_vm hx.1 hx.2) (by omega) (xr_bm hx.1 hx.2)
theorem xw_202 {p : Nat → Nat} {J : Nat → Nat → Int32} {v : Int32} (hW : xr_W (J (p 4))) (hv : 0 ≤ v.toInt ∧ v.toInt ≤ 5) : xk_K (J (p 4)) (x202 p v J (p 4)) := by
  have wr : ∀ (J1 : Nat → Nat → Int32) (v3 x : Int32), xk_K (J (p 4)) (J1 (p 4)) → 0 ≤ v3.toInt → v3.toInt < 24 → xk_K (J (p 4)) (nt_u J1 (p 4) ((((Int32.ofInt 52) + ((Int32.ofInt 5) * v3)) + (Int32.ofInt 1)).toNatClampNeg) x (p 4)) := fun J1 v3 x h a b => xk_ua h (xi_p1 a (by omega)) (by omega) (xr_bp (by omega) (by omega) (by omega) (by omega))
  have fin : ∀ (v2 : Int32) (J1 : Nat → Nat → Int32), xk_K (J (p 4)) (J1 (p 4)) → xk_K (J (p 4)) ((if v2 = 0 then J1
    else if (x180 p (x169 p v (Int32.ofInt 5) J1) (Int32.ofInt 2) J1) = ((J1 (p 4) 4) + (Int32.ofInt 1)) then J1
      else (x202_145 p v (((nt_u (nt_u (nt_u J1 (p 4) ((((Int32.ofInt 10) + ((Int32.ofInt 7) * v)) + (Int32.ofInt 4)).toNatClampNeg) (Int32.ofInt 2)) (p 4) ((((Int32.ofInt 10) + ((Int32.ofInt 7) * v)) + (Int32.ofInt 5)).toNatClampNeg) (Int32.ofInt (-1))) (p 4) ((((Int32.ofInt 172) + ((Int32.ofInt 5) * (x169 p v (Int32.ofInt 5) J1))) + (Int32.ofInt 4)).toNatClampNeg) (Int32.ofInt 3)) (p 4) 2).toNatClampNeg) (Int32.ofInt 0) (nt_u (nt_u (nt_u J1 (p 4) ((((Int32.ofInt 10) + ((Int32.ofInt 7) * v)) + (Int32.ofInt 4)).toNatClampNeg) (Int32.ofInt 2)) (p 4) ((((Int32.ofInt 10) + ((Int32.ofInt 7) * v)) + (Int32.ofInt 5)).toNatClampNeg) (Int32.ofInt (-1))) (p 4) ((((Int32.ofInt 172) + ((Int32.ofInt 5) * (x169 p v (Int32.ofInt 5) J1))) + (Int32.ofInt 4)).toNatClampNeg) (Int32.ofInt 3)))) (p 4)) := by
    intro v2 J1 h
    by_cases a : v2 = 0
    · rw [if_pos a]
      exact h
    · rw [if_neg a]
      by_cases b : (x180 p (x169 p v (Int32.ofInt 5) J1) (Int32.ofInt 2) J1) = ((J1 (p 4) 4) + (Int32.ofInt 1))
      · rw [if_pos b]
        exact h
      · rw [if_neg b]
        exact xw_202b (xw_losem h hv (xi_on h.1 hv)) (by decide)
  unfold x202
  refine x202_4_rule (I := fun _ _ v3 J1 => xk_K (J (p 4)) (J1 (p 4)) ∧ 0 ≤ v3.toInt) (Q := fun J1 => xk_K (J (p 4)) (J1 (p 4))) ?_ ?_ _ _ _ _ ⟨xk_r hW, by decide⟩
  · intro v2 v3 J1 h
    exact fin v2 J1 h.1
  · intro c v2 v3 J1 h
    by_cases h1 : J1 (p 4) 2 ≤ v3
    · rw [if_pos h1]
      have f := fin v2 J1 h.1
      by_cases a : v2 = 0
      · rw [if_pos a] at f ⊢
        exact f
      · rw [if_neg a] at f ⊢
        by_cases b : (x180 p (x169 p v (Int32.ofInt 5) J1) (Int32.ofInt 2) J1) = ((J1 (p 4) 4) + (Int32.ofInt 1))
        · rw [if_pos b] at f ⊢
          exact f
        · rw [if_neg b] at f ⊢
          exact f
    · rw [if_neg h1]
      have l24 := xi_lt h1 (xr_2 h.1.1).2
      have w := fun x => wr J1 v3 x h.1 h.2 l24
      have n := xi_nn h1 h.2
      by_cases h2 : x171 p v3 v J1 = 0
      · rw [if_pos h2]
        exact ⟨h.1, n⟩
      · rw [if_neg h2]
        by_cases a : v2 = 0
        · rw [if_pos a]
          split
          · exact ⟨w _, n⟩
          · exact ⟨w _, n⟩
        · rw [if_neg a]
          exact ⟨w _, n⟩
theorem xw_185 {p : Nat → Nat} {e : Nat → Int32} {J : Nat → Nat → Int32} {v1 v2 : Int32} (h : xk_K e (J (p 4))) (h1 : 0 ≤ v1.toInt ∧ v1.toInt < 24) (h2 : -1 ≤ v2.toInt ∧ v2.toInt ≤ 5) : xk_K e (x185 p v1 v2 J (p 4)) ∧ x185 p v1 v2 J (p 4) 6 = J (p 4) 6 + Int32.ofInt 1 := by
  have ei := xi_p3 h1.1 (by omega)
  refine ⟨?_, ?_⟩
  · unfold x185
    exact xk_ua (xk_ua (xk_ub h ei (by omega) (xr_b3 (by omega)) h2) rfl (by omega) rfl) rfl (by omega) rfl
  · unfold x185
    rw [me_uk (by omega), me_us, me_uk (by rw [ei]; omega)]
theorem xw_193 {p : Nat → Nat} {v1 v2 v3 v4 : Int32} {J : Nat → Nat → Int32} {L : Nat → Nat → Int64} (hd : p 4 ≠ p 0) (hW : xr_W (J (p 4))) : -1 ≤ (x193 p v1 v2 v3 v4 J L).1.toInt ∧ (x193 p v1 v2 v3 v4 J L).1.toInt < 24 := by
  unfold x193
  refine x193_9_rule (I := fun _ v5 _ v8 J1 _ => J1 (p 4) = J (p 4) ∧ 0 ≤ v8.toInt ∧ -1 ≤ v5.toInt ∧ v5.toInt < 24) (Q := fun r => -1 ≤ r.1.toInt ∧ r.1.toInt < 24) ?_ ?_ _ _ _ _ _ _ ⟨rfl, by decide, by decide, by decide⟩
  · intro v5 v6 v8 J1 L1 h
    exact h.2.2
  · intro c v5 v6 v8 J1 L1 h
    by_cases h1 : J1 (p 4) 2 ≤ v8
    · rw [if_pos h1]
      exact h.2.2
    · rw [if_neg h1]
      have n := xi_nn h1 h.2.1
      have l24 : v8.toInt < 24 := xi_lt h1 (by rw [h.1]; exact (xr_2 hW).2)
      have l0 := h.2.1
      split
      · exact ⟨h.1, n, h.2.2⟩
      · split
        · split
          · exact ⟨(x198_frJ hd).trans ((x197_frJ hd).trans h.1), n, by omega, l24⟩
          · split
            · exact ⟨(x198_frJ hd).trans ((x197_frJ hd).trans h.1), n, by omega, l24⟩
            · exact ⟨(x198_frJ hd).trans ((x197_frJ hd).trans h.1), n, h.2.2⟩
        · exact ⟨(x197_frJ hd).trans h.1, n, h.2.2⟩
theorem xh_on {p : Nat → Nat} {J : Nat → Nat → Int32} (h : ¬ x184 p J = 0) : ¬ J (p 4) 5 ≤ J (p 4) 6 := by
  intro c
  apply h
  unfold x184
  rw [if_pos c]
  rfl
theorem xh_ge {x : Int32} (h : 0 ≤ x) : 0 ≤ x.toInt := by
  have h : (0 : Int32).toInt ≤ x.toInt := Int32.le_iff_toInt_le.mp h
  rw [show (0 : Int32).toInt = 0 from by decide] at h
  exact h
/-! Model.fitsOut -/
def x192_18 (p : Nat → Nat) (v1 : Int32) (v2 : Int32) (v3 : Int32) (v4 : Int32) : Nat → (Nat → Nat → Int32) → (Nat → Nat → Int64) → (Nat → Nat → Int32) × (Nat → Nat → Int64)
  | 0, J, L => if (x175 p v2 v4 J) ≤ 0 then (J, L)
    else if (x184 p J) = 0 then (J, L)
      else if 0 ≤ ((x193 p v1 v2 v4 v3 J L).1) then (x185 p ((x193 p v1 v2 v4 v3 J L).1) v2 ((x193 p v1 v2 v4 v3 J L).2.1), (x193 p v1 v2 v4 v3 J L).2.2)
        else ((x193 p v1 v2 v4 v3 J L).2.1, (x193 p v1 v2 v4 v3 J L).2.2)
  | c + 1, J, L => if (x175 p v2 v4 J) ≤ 0 then (J, L)
    else if (x184 p J) = 0 then (J, L)
      else if 0 ≤ ((x193 p v1 v2 v4 v3 J L).1) then (x192_18 p v1 v2 v3 v4 c (x185 p ((x193 p v1 v2 v4 v3 J L).1) v2 ((x193 p v1 v2 v4 v3 J L).2.1)) ((x193 p v1 v2 v4 v3 J L).2.2))
        else ((x193 p v1 v2 v4 v3 J L).2.1, (x193 p v1 v2 v4 v3 J L).2.2)
theorem xt192_18 {X : nt_X} {d : Nat} {M : nt_M} {o : Option Value × nt_M} {p : Nat → Nat} {v1 : Int32} {v2 : Int32} {v3 : Int32} {v4 : Int32} (hp : xs_P M p) (hv : 0 ≤ v2.toInt ∧ v2.toInt ≤ 5) : ∀ (c : Nat) (v5 : Int32) (J : Nat → Nat → Int32) (L : Nat → Nat → Int64), (xr_W (J (p 4)) ∧ (J (p 4) 5).toInt - (J (p 4) 6).toInt ≤ c) → nt_rn X d 192 (18, [(0, .ref (p 0)), (1, .int v1), (2, .int v2), (3, .int v3), (4, .int v4), (5, .int v5)], [], me_w (lw M L) J) o → ∃ (w5 : Int32), nt_rn X d 192 (64, [(0, .ref (p 0)), (1, .int v1), (2, .int v2), (3, .int v3), (4, .int v4), (5, .int w5)], [], me_w (lw M ((x192_18 p v1 v2 v3 v4 c J L).2)) ((x192_18 p v1 v2 v3 v4 c J L).1)) o := by
  intro c
  induction c with
  | zero =>
    intro v5 J L hc k
    have k := ly_revb 3 (c' := (22, [(0, .ref (p 0)), (1, .int v1), (2, .int v2), (3, .int v3), (4, .int v4), (5, .int v5)], [.int v4, .int v2, .ref (p 0)], me_w (lw M L) J)) rfl k
    obtain ⟨d1, o1, ed, kc, k⟩ := lz_c (g := 175) (q := 1) (vs := [.ref (p 0), .int v2, .int v4]) (rest := []) rfl rfl (by decide) (Or.inr (Or.inl ⟨_, rfl, rfl⟩)) rfl k
    have e1 := xt175 (xs_lp hp) kc
    subst e1
    have k : nt_rn X _ 192 (25, [(0, .ref (p 0)), (1, .int v1), (2, .int v2), (3, .int v3), (4, .int v4), (5, .int v5)], [.int (x175 p v2 v4 J)], me_w (lw M L) J) _ := k
    have k := ly_revb 1 (c' := (if (x175 p v2 v4 J) ≤ 0 then 64 else 28, [(0, .ref (p 0)), (1, .int v1), (2, .int v2), (3, .int v3), (4, .int v4), (5, .int v5)], [], me_w (lw M L) J)) rfl k
    by_cases h25 : (x175 p v2 v4 J) ≤ 0
    · rw [if_pos h25] at k
      have k := nt_rn_w (a := [(0, .ref (p 0)), (1, .int v1), (2, .int v2), (3, .int v3), (4, .int v4), (5, .int v5)]) (b := [(0, .ref (p 0)), (1, .int v1), (2, .int v2), (3, .int v3), (4, .int v4), (5, .int v5)]) ⟨rfl, rfl, rfl, rfl, rfl, rfl, trivial⟩ rfl k
      rw [x192_18, if_pos h25]
      exact ⟨_, k⟩
    · rw [if_neg h25] at k
      have k := ly_revb 1 (c' := (29, [(0, .ref (p 0)), (1, .int v1), (2, .int v2), (3, .int v3), (4, .int v4), (5, .int v5)], [.ref (p 0)], me_w (lw M L) J)) rfl k
      obtain ⟨d1, o1, ed, kc, k⟩ := lz_c (g := 184) (q := 1) (vs := [.ref (p 0)]) (rest := []) rfl rfl (by decide) (Or.inr (Or.inl ⟨_, rfl, rfl⟩)) rfl k
      have e1 := xt184 (xs_lp hp) kc
      subst e1
      have k : nt_rn X _ 192 (32, [(0, .ref (p 0)), (1, .int v1), (2, .int v2), (3, .int v3), (4, .int v4), (5, .int v5)], [.int (x184 p J)], me_w (lw M L) J) _ := k
      have k := ly_revb 1 (c' := (if (x184 p J) = 0 then 64 else 35, [(0, .ref (p 0)), (1, .int v1), (2, .int v2), (3, .int v3), (4, .int v4), (5, .int v5)], [], me_w (lw M L) J)) rfl k
      by_cases h32 : (x184 p J) = 0
      · rw [if_pos h32] at k
        have k := nt_rn_w (a := [(0, .ref (p 0)), (1, .int v1), (2, .int v2), (3, .int v3), (4, .int v4), (5, .int v5)]) (b := [(0, .ref (p 0)), (1, .int v1), (2, .int v2), (3, .int v3), (4, .int v4), (5, .int v5)]) ⟨rfl, rfl, rfl, rfl, rfl, rfl, trivial⟩ rfl k
        rw [x192_18, if_neg h25, if_pos h32]
        exact ⟨_, k⟩
      · rw [if_neg h32] at k
        have k := ly_revb 5 (c' := (41, [(0, .ref (p 0)), (1, .int v1), (2, .int v2), (3, .int v3), (4, .int v4), (5, .int v5)], [.int v3, .int v4, .int v2, .int v1, .ref (p 0)], me_w (lw M L) J)) rfl k
        obtain ⟨d1, o1, ed, kc, k⟩ := lz_c (g := 193) (q := 1) (vs := [.ref (p 0), .int v1, .int v2, .int v4, .int v3]) (rest := []) rfl rfl (by decide) (Or.inr (Or.inl ⟨_, rfl, rfl⟩)) rfl k
        have e1 := xt193 hp kc
        subst e1
        have k : nt_rn X _ 192 (44, [(0, .ref (p 0)), (1, .int v1), (2, .int v2), (3, .int v3), (4, .int v4), (5, .int v5)], [.int ((x193 p v1 v2 v4 v3 J L).1)], me_w (lw M ((x193 p v1 v2 v4 v3 J L).2.2)) ((x193 p v1 v2 v4 v3 J L).2.1)) _ := k
        have k := ly_revb 3 (c' := (if 0 ≤ ((x193 p v1 v2 v4 v3 J L).1) then 54 else 51, [(5, .int ((x193 p v1 v2 v4 v3 J L).1)), (0, .ref (p 0)), (1, .int v1), (2, .int v2), (3, .int v3), (4, .int v4)], [], me_w (lw M ((x193 p v1 v2 v4 v3 J L).2.2)) ((x193 p v1 v2 v4 v3 J L).2.1))) rfl k
        by_cases h48 : 0 ≤ ((x193 p v1 v2 v4 v3 J L).1)
        · rw [if_pos h48] at k
          have k := ly_revb 3 (c' := (58, [(5, .int ((x193 p v1 v2 v4 v3 J L).1)), (0, .ref (p 0)), (1, .int v1), (2, .int v2), (3, .int v3), (4, .int v4)], [.int v2, .int ((x193 p v1 v2 v4 v3 J L).1), .ref (p 0)], me_w (lw M ((x193 p v1 v2 v4 v3 J L).2.2)) ((x193 p v1 v2 v4 v3 J L).2.1))) rfl k
          obtain ⟨d1, o1, ed, kc, k⟩ := lz_c (g := 185) (q := 1) (vs := [.ref (p 0), .int ((x193 p v1 v2 v4 v3 J L).1), .int v2]) (rest := []) rfl rfl (by decide) (Or.inr (Or.inl ⟨_, rfl, rfl⟩)) rfl k
          have e1 := xt185 (xs_lp hp) kc
          subst e1
          have k : nt_rn X _ 192 (61, [(5, .int ((x193 p v1 v2 v4 v3 J L).1)), (0, .ref (p 0)), (1, .int v1), (2, .int v2), (3, .int v3), (4, .int v4)], [], me_w (lw M ((x193 p v1 v2 v4 v3 J L).2.2)) (x185 p ((x193 p v1 v2 v4 v3 J L).1) v2 ((x193 p v1 v2 v4 v3 J L).2.1))) _ := k
          have k := ly_revb 1 (c' := (18, [(5, .int ((x193 p v1 v2 v4 v3 J L).1)), (0, .ref (p 0)), (1, .int v1), (2, .int v2), (3, .int v3), (4, .int v4)], [], me_w (lw M ((x193 p v1 v2 v4 v3 J L).2.2)) (x185 p ((x193 p v1 v2 v4 v3 J L).1) v2 ((x193 p v1 v2 v4 v3 J L).2.1)))) rfl k
          have k := nt_rn_w (a := [(5, .int ((x193 p v1 v2 v4 v3 J L).1)), (0, .ref (p 0)), (1, .int v1), (2, .int v2), (3, .int v3), (4, .int v4)]) (b := [(0, .ref (p 0)), (1, .int v1), (2, .int v2), (3, .int v3), (4, .int v4), (5, .int ((x193 p v1 v2 v4 v3 J L).1))]) ⟨rfl, rfl, rfl, rfl, rfl, rfl, trivial⟩ rfl k
          exact (xh_on h32 (lx_end hc.2)).elim
        · rw [if_neg h48] at k
          have k := ly_revb 1 (c' := (64, [(5, .int ((x193 p v1 v2 v4 v3 J L).1)), (0, .ref (p 0)), (1, .int v1), (2, .int v2), (3, .int v3), (4, .int v4)], [], me_w (lw M ((x193 p v1 v2 v4 v3 J L).2.2)) ((x193 p v1 v2 v4 v3 J L).2.1))) rfl k
          have k := nt_rn_w (a := [(5, .int ((x193 p v1 v2 v4 v3 J L).1)), (0, .ref (p 0)), (1, .int v1), (2, .int v2), (3, .int v3), (4, .int v4)]) (b := [(0, .ref (p 0)), (1, .int v1), (2, .int v2), (3, .int v3), (4, .int v4), (5, .int ((x193 p v1 v2 v4 v3 J L).1))]) ⟨rfl, rfl, rfl, rfl, rfl, rfl, trivial⟩ rfl k
          rw [x192_18, if_neg h25, if_neg h32, if_neg h48]
          exact ⟨_, k⟩
  | succ c ih =>
    intro v5 J L hc k
    have k := ly_revb 3 (c' := (22, [(0, .ref (p 0)), (1, .int v1), (2, .int v2), (3, .int v3), (4, .int v4), (5, .int v5)], [.int v4, .int v2, .ref (p 0)], me_w (lw M L) J)) rfl k
    obtain ⟨d1, o1, ed, kc, k⟩ := lz_c (g := 175) (q := 1) (vs := [.ref (p 0), .int v2, .int v4]) (rest := []) rfl rfl (by decide) (Or.inr (Or.inl ⟨_, rfl, rfl⟩)) rfl k
    have e1 := xt175 (xs_lp hp) kc
    subst e1
    have k : nt_rn X _ 192 (25, [(0, .ref (p 0)), (1, .int v1), (2, .int v2), (3, .int v3), (4, .int v4), (5, .int v5)], [.int (x175 p v2 v4 J)], me_w (lw M L) J) _ := k
    have k := ly_revb 1 (c' := (if (x175 p v2 v4 J) ≤ 0 then 64 else 28, [(0, .ref (p 0)), (1, .int v1), (2, .int v2), (3, .int v3), (4, .int v4), (5, .int v5)], [], me_w (lw M L) J)) rfl k
    by_cases h25 : (x175 p v2 v4 J) ≤ 0
    · rw [if_pos h25] at k
      have k := nt_rn_w (a := [(0, .ref (p 0)), (1, .int v1), (2, .int v2), (3, .int v3), (4, .int v4), (5, .int v5)]) (b := [(0, .ref (p 0)), (1, .int v1), (2, .int v2), (3, .int v3), (4, .int v4), (5, .int v5)]) ⟨rfl, rfl, rfl, rfl, rfl, rfl, trivial⟩ rfl k
      rw [x192_18, if_pos h25]
      exact ⟨_, k⟩
    · rw [if_neg h25] at k
      have k := ly_revb 1 (c' := (29, [(0, .ref (p 0)), (1, .int v1), (2, .int v2), (3, .int v3), (4, .int v4), (5, .int v5)], [.ref (p 0)], me_w (lw M L) J)) rfl k
      obtain ⟨d1, o1, ed, kc, k⟩ := lz_c (g := 184) (q := 1) (vs := [.ref (p 0)]) (rest := []) rfl rfl (by decide) (Or.inr (Or.inl ⟨_, rfl, rfl⟩)) rfl k
      have e1 := xt184 (xs_lp hp) kc
      subst e1
      have k : nt_rn X _ 192 (32, [(0, .ref (p 0)), (1, .int v1), (2, .int v2), (3, .int v3), (4, .int v4), (5, .int v5)], [.int (x184 p J)], me_w (lw M L) J) _ := k
      have k := ly_revb 1 (c' := (if (x184 p J) = 0 then 64 else 35, [(0, .ref (p 0)), (1, .int v1), (2, .int v2), (3, .int v3), (4, .int v4), (5, .int v5)], [], me_w (lw M L) J)) rfl k
      by_cases h32 : (x184 p J) = 0
      · rw [if_pos h32] at k
        have k := nt_rn_w (a := [(0, .ref (p 0)), (1, .int v1), (2, .int v2), (3, .int v3), (4, .int v4), (5, .int v5)]) (b := [(0, .ref (p 0)), (1, .int v1), (2, .int v2), (3, .int v3), (4, .int v4), (5, .int v5)]) ⟨rfl, rfl, rfl, rfl, rfl, rfl, trivial⟩ rfl k
        rw [x192_18, if_neg h25, if_pos h32]
        exact ⟨_, k⟩
      · rw [if_neg h32] at k
        have k := ly_revb 5 (c' := (41, [(0, .ref (p 0)), (1, .int v1), (2, .int v2), (3, .int v3), (4, .int v4), (5, .int v5)], [.int v3, .int v4, .int v2, .int v1, .ref (p 0)], me_w (lw M L) J)) rfl k
        obtain ⟨d1, o1, ed, kc, k⟩ := lz_c (g := 193) (q := 1) (vs := [.ref (p 0), .int v1, .int v2, .int v4, .int v3]) (rest := []) rfl rfl (by decide) (Or.inr (Or.inl ⟨_, rfl, rfl⟩)) rfl k
        have e1 := xt193 hp kc
        subst e1
        have k : nt_rn X _ 192 (44, [(0, .ref (p 0)), (1, .int v1), (2, .int v2), (3, .int v3), (4, .int v4), (5, .int v5)], [.int ((x193 p v1 v2 v4 v3 J L).1)], me_w (lw M ((x193 p v1 v2 v4 v3 J L).2.2)) ((x193 p v1 v2 v4 v3 J L).2.1)) _ := k
        have k := ly_revb 3 (c' := (if 0 ≤ ((x193 p v1 v2 v4 v3 J L).1) then 54 else 51, [(5, .int ((x193 p v1 v2 v4 v3 J L).1)), (0, .ref (p 0)), (1, .int v1), (2, .int v2), (3, .int v3), (4, .int v4)], [], me_w (lw M ((x193 p v1 v2 v4 v3 J L).2.2)) ((x193 p v1 v2 v4 v3 J L).2.1))) rfl k
        by_cases h48 : 0 ≤ ((x193 p v1 v2 v4 v3 J L).1)
        · rw [if_pos h48] at k
          have k := ly_revb 3 (c' := (58, [(5, .int ((x193 p v1 v2 v4 v3 J L).1)), (0, .ref (p 0)), (1, .int v1), (2, .int v2), (3, .int v3), (4, .int v4)], [.int v2, .int ((x193 p v1 v2 v4 v3 J L).1), .ref (p 0)], me_w (lw M ((x193 p v1 v2 v4 v3 J L).2.2)) ((x193 p v1 v2 v4 v3 J L).2.1))) rfl k
          obtain ⟨d1, o1, ed, kc, k⟩ := lz_c (g := 185) (q := 1) (vs := [.ref (p 0), .int ((x193 p v1 v2 v4 v3 J L).1), .int v2]) (rest := []) rfl rfl (by decide) (Or.inr (Or.inl ⟨_, rfl, rfl⟩)) rfl k
          have e1 := xt185 (xs_lp hp) kc
          subst e1
          have k : nt_rn X _ 192 (61, [(5, .int ((x193 p v1 v2 v4 v3 J L).1)), (0, .ref (p 0)), (1, .int v1), (2, .int v2), (3, .int v3), (4, .int v4)], [], me_w (lw M ((x193 p v1 v2 v4 v3 J L).2.2)) (x185 p ((x193 p v1 v2 v4 v3 J L).1) v2 ((x193 p v1 v2 v4 v3 J L).2.1))) _ := k
          have k := ly_revb 1 (c' := (18, [(5, .int ((x193 p v1 v2 v4 v3 J L).1)), (0, .ref (p 0)), (1, .int v1), (2, .int v2), (3, .int v3), (4, .int v4)], [], me_w (lw M ((x193 p v1 v2 v4 v3 J L).2.2)) (x185 p ((x193 p v1 v2 v4 v3 J L).1) v2 ((x193 p v1 v2 v4 v3 J L).2.1)))) rfl k
          have k := nt_rn_w (a := [(5, .int ((x193 p v1 v2 v4 v3 J L).1)), (0, .ref (p 0)), (1, .int v1), (2, .int v2), (3, .int v3), (4, .int v4)]) (b := [(0, .ref (p 0)), (1, .int v1), (2, .int v2), (3, .int v3), (4, .int v4), (5, .int ((x193 p v1 v2 v4 v3 J L).1))]) ⟨rfl, rfl, rfl, rfl, rfl, rfl, trivial⟩ rfl k
          have k := ih ((x193 p v1 v2 v4 v3 J L).1) (x185 p ((x193 p v1 v2 v4 v3 J L).1) v2 ((x193 p v1 v2 v4 v3 J L).2.1)) ((x193 p v1 v2 v4 v3 J L).2.2) (by have b := xw_193 (v1 := v1) (v2 := v2) (v3 := v4) (v4 := v3) (L := L) (hp.2.1 4 0 (by omega) (by omega) (by decide)) hc.1; have z := xw_185 (v1 := (x193 p v1 v2 v4 v3 J L).1) (v2 := v2) (J := (x193 p v1 v2 v4 v3 J L).2.1) (e := J (p 4)) (by rw [x193_frJ (hp.2.1 4 0 (by omega) (by omega) (by decide))]; exact xk_r hc.1) ⟨xh_ge h48, b.2⟩ ⟨by omega, hv.2⟩; exact ⟨z.1.1, by rw [z.1.2 5 (by omega), z.2, x193_frJ (hp.2.1 4 0 (by omega) (by omega) (by decide))]; exact lx_dec (xh_on h32) hc.2⟩) k
          rw [x192_18, if_neg h25, if_neg h32, if_pos h48]
          exact k
        · rw [if_neg h48] at k
          have k := ly_revb 1 (c' := (64, [(5, .int ((x193 p v1 v2 v4 v3 J L).1)), (0, .ref (p 0)), (1, .int v1), (2, .int v2), (3, .int v3), (4, .int v4)], [], me_w (lw M ((x193 p v1 v2 v4 v3 J L).2.2)) ((x193 p v1 v2 v4 v3 J L).2.1))) rfl k
          have k := nt_rn_w (a := [(5, .int ((x193 p v1 v2 v4 v3 J L).1)), (0, .ref (p 0)), (1, .int v1), (2, .int v2), (3, .int v3), (4, .int v4)]) (b := [(0, .ref (p 0)), (1, .int v1), (2, .int v2), (3, .int v3), (4, .int v4), (5, .int ((x193 p v1 v2 v4 v3 J L).1))]) ⟨rfl, rfl, rfl, rfl, rfl, rfl, trivial⟩ rfl k
          rw [x192_18, if_neg h25, if_neg h32, if_neg h48]
          exact ⟨_, k⟩
theorem x192_18_rule {p : Nat → Nat} {v1 : Int32} {v2 : Int32} {v3 : Int32} {v4 : Int32} {I : Nat → (Nat → Nat → Int32) → (Nat → Nat → Int64) → Prop} {Q : (Nat → Nat → Int32) × (Nat → Nat → Int64) → Prop} (h0 : ∀ (J : Nat → Nat → Int32) (L : Nat → Nat → Int64), I 0 J L → Q (if (x175 p v2 v4 J) ≤ 0 then (J, L)
    else if (x184 p J) = 0 then (J, L)
      else if 0 ≤ ((x193 p v1 v2 v4 v3 J L).1) then (x185 p ((x193 p v1 v2 v4 v3 J L).1) v2 ((x193 p v1 v2 v4 v3 J L).2.1), (x193 p v1 v2 v4 v3 J L).2.2)
        else ((x193 p v1 v2 v4 v3 J L).2.1, (x193 p v1 v2 v4 v3 J L).2.2))) (h1 : ∀ (c : Nat) (J : Nat → Nat → Int32) (L : Nat → Nat → Int64), I (c + 1) J L →
    if (x175 p v2 v4 J) ≤ 0 then (Q (J, L))
    else if (x184 p J) = 0 then (Q (J, L))
      else if 0 ≤ ((x193 p v1 v2 v4 v3 J L).1) then (I c  (x185 p ((x193 p v1 v2 v4 v3 J L).1) v2 ((x193 p v1 v2 v4 v3 J L).2.1)) ((x193 p v1 v2 v4 v3 J L).2.2))
        else (Q ((x193 p v1 v2 v4 v3 J L).2.1, (x193 p v1 v2 v4 v3 J L).2.2))) : ∀ (c : Nat) (J : Nat → Nat → Int32) (L : Nat → Nat → Int64), I c J L → Q (x192_18 p v1 v2 v3 v4 c J L) := by
  intro c
  induction c with
  | zero =>
    intro J L hi
    rw [x192_18]
    exact h0 J L hi
  | succ c ih =>
    intro J L hi
    have hi := h1 c J L hi
    rw [x192_18]
    by_cases h : (x175 p v2 v4 J) ≤ 0
    · rw [if_pos h] at hi ⊢
      exact hi
    · rw [if_neg h] at hi ⊢
      by_cases h : (x184 p J) = 0
      · rw [if_pos h] at hi ⊢
        exact hi
      · rw [if_neg h] at hi ⊢
        by_cases h : 0 ≤ ((x193 p v1 v2 v4 v3 J L).1)
        · rw [if_pos h] at hi ⊢
          exact ih _ _ hi
        · rw [if_neg h] at hi ⊢
          exact hi
theorem xw_192i {p : Nat → Nat} {e : Nat → Int32} {v1 v2 v3 v4 : Int32} (hd : p 4 ≠ p 0) (h2 : 0 ≤ v2.toInt ∧ v2.toInt ≤ 5) {c : Nat} {J : Nat → Nat → Int32} {L : Nat → Nat → Int64} (h : xk_K e (J (p 4))) : xk_K e ((x192_18 p v1 v2 v3 v4 c J L).1 (p 4)) := by
  refine x192_18_rule (I := fun _ J1 _ => xk_K e (J1 (p 4))) (Q := fun r => xk_K e (r.1 (p 4))) ?_ ?_ _ _ _ h
  · intro J1 L1 h
    have t : xk_K e ((x193 p v1 v2 v4 v3 J1 L1).2.1 (p 4)) := by rw [x193_frJ hd]; exact h
    have b := xw_193 (v1 := v1) (v2 := v2) (v3 := v4) (v4 := v3) (L := L1) hd h.1
    split
    · exact h
    · split
      · exact h
      · split
        · exact (xw_185 t ⟨xh_ge (by assumption), b.2⟩ ⟨by omega, h2.2⟩).1
        · exact t
  · intro c J1 L1 h
    have t : xk_K e ((x193 p v1 v2 v4 v3 J1 L1).2.1 (p 4)) := by rw [x193_frJ hd]; exact h
    have b := xw_193 (v1 := v1) (v2 := v2) (v3 := v4) (v4 := v3) (L := L1) hd h.1
    split
    · exact h
    · split
      · exact h
      · split
        · exact (xw_185 t ⟨xh_ge (by assumption), b.2⟩ ⟨by omega, h2.2⟩).1
        · exact t
theorem x192_18_frJ {p : Nat → Nat} {v1 : Int32} {v2 : Int32} {v3 : Int32} {v4 : Int32} {b : Nat} : ∀ (c : Nat) (J : Nat → Nat → Int32) (L : Nat → Nat → Int64), b ≠ p 0 → b ≠ p 4 → (x192_18 p v1 v2 v3 v4 c J L).1 b = J b := by
  intro c
  induction c with
  | zero =>
    intro  J L n0 n1
    rw [x192_18]
    by_cases h : (x175 p v2 v4 J) ≤ 0
    · rw [if_pos h]
      all_goals first | (dsimp only; exact (show J b = J b from rfl)) | exact (show J b = J b from rfl)
    · rw [if_neg h]
      by_cases h : (x184 p J) = 0
      · rw [if_pos h]
        all_goals first | (dsimp only; exact (show J b = J b from rfl)) | exact (show J b = J b from rfl)
      · rw [if_neg h]
        by_cases h : 0 ≤ ((x193 p v1 v2 v4 v3 J L).1)
        · rw [if_pos h]
          all_goals first | (dsimp only; exact (show (x185 p ((x193 p v1 v2 v4 v3 J L).1) v2 ((x193 p v1 v2 v4 v3 J L).2.1)) b = J b from (x185_frJ  n1).trans (x193_frJ  n0))) | exact (show (x185 p ((x193 p v1 v2 v4 v3 J L).1) v2 ((x193 p v1 v2 v4 v3 J L).2.1)) b = J b from (x185_frJ  n1).trans (x193_frJ  n0))
        · rw [if_neg h]
          all_goals first | (dsimp only; exact (show ((x193 p v1 v2 v4 v3 J L).2.1) b = J b from x193_frJ  n0)) | exact (show ((x193 p v1 v2 v4 v3 J L).2.1) b = J b from x193_frJ  n0)
  | succ c ih =>
    intro  J L n0 n1
    rw [x192_18]
    by_cases h : (x175 p v2 v4 J) ≤ 0
    · rw [if_pos h]
      all_goals first | (dsimp only; exact (show J b = J b from rfl)) | exact (show J b = J b from rfl)
    · rw [if_neg h]
      by_cases h : (x184 p J) = 0
      · rw [if_pos h]
        all_goals first | (dsimp only; exact (show J b = J b from rfl)) | exact (show J b = J b from rfl)
      · rw [if_neg h]
        by_cases h : 0 ≤ ((x193 p v1 v2 v4 v3 J L).1)
        · rw [if_pos h]
          exact (ih _ _ n0 n1).trans ((x185_frJ  n1).trans (x193_frJ  n0))
        · rw [if_neg h]
          all_goals first | (dsimp only; exact (show ((x193 p v1 v2 v4 v3 J L).2.1) b = J b from x193_frJ  n0)) | exact (show ((x193 p v1 v2 v4 v3 J L).2.1) b = J b from x193_frJ  n0)
theorem x192_18_frL {p : Nat → Nat} {v1 : Int32} {v2 : Int32} {v3 : Int32} {v4 : Int32} {b : Nat} : ∀ (c : Nat) (J : Nat → Nat → Int32) (L : Nat → Nat → Int64), b ≠ p 5 → b ≠ p 6 → (x192_18 p v1 v2 v3 v4 c J L).2 b = L b := by
  intro c
  induction c with
  | zero =>
    intro  J L n0 n1
    rw [x192_18]
    by_cases h : (x175 p v2 v4 J) ≤ 0
    · rw [if_pos h]
      all_goals first | (dsimp only; exact (show L b = L b from rfl)) | exact (show L b = L b from rfl)
    · rw [if_neg h]
      by_cases h : (x184 p J) = 0
      · rw [if_pos h]
        all_goals first | (dsimp only; exact (show L b = L b from rfl)) | exact (show L b = L b from rfl)
      · rw [if_neg h]
        by_cases h : 0 ≤ ((x193 p v1 v2 v4 v3 J L).1)
        · rw [if_pos h]
          all_goals first | (dsimp only; exact (show ((x193 p v1 v2 v4 v3 J L).2.2) b = L b from x193_frL n0 n1)) | exact (show ((x193 p v1 v2 v4 v3 J L).2.2) b = L b from x193_frL n0 n1)
        · rw [if_neg h]
          all_goals first | (dsimp only; exact (show ((x193 p v1 v2 v4 v3 J L).2.2) b = L b from x193_frL n0 n1)) | exact (show ((x193 p v1 v2 v4 v3 J L).2.2) b = L b from x193_frL n0 n1)
  | succ c ih =>
    intro  J L n0 n1
    rw [x192_18]
    by_cases h : (x175 p v2 v4 J) ≤ 0
    · rw [if_pos h]
      all_goals first | (dsimp only; exact (show L b = L b from rfl)) | exact (show L b = L b from rfl)
    · rw [if_neg h]
      by_cases h : (x184 p J) = 0
      · rw [if_pos h]
        all_goals first | (dsimp only; exact (show L b = L b from rfl)) | exact (show L b = L b from rfl)
      · rw [if_neg h]
        by_cases h : 0 ≤ ((x193 p v1 v2 v4 v3 J L).1)
        · rw [if_pos h]
          exact (ih _ _ n0 n1).trans (x193_frL n0 n1)
        · rw [if_neg h]
          all_goals first | (dsimp only; exact (show ((x193 p v1 v2 v4 v3 J L).2.2) b = L b from x193_frL n0 n1)) | exact (show ((x193 p v1 v2 v4 v3 J L).2.2) b = L b from x193_frL n0 n1)
def x192_3 (p : Nat → Nat) (v1 : Int32) (v2 : Int32) (v3 : Int32) : Nat → Int32 → (Nat → Nat → Int32) → (Nat → Nat → Int64) → (Nat → Nat → Int32) × (Nat → Nat → Int64)
  | 0, v4, J, L => if (x174 p v2 J) = 0 then (J, L)
    else (nt_u (nt_u (nt_u J (p 4) ((((Int32.ofInt 10) + ((Int32.ofInt 7) * v2)) + (Int32.ofInt 4)).toNatClampNeg) (Int32.ofInt 1)) (p 4) ((((Int32.ofInt 10) + ((Int32.ofInt 7) * v2)) + (Int32.ofInt 5)).toNatClampNeg) v3) (p 4) ((((Int32.ofInt 172) + ((Int32.ofInt 5) * v3)) + (Int32.ofInt 4)).toNatClampNeg) (Int32.ofInt 1), L)
  | c + 1, v4, J, L => if (J (p 4) 0) ≤ v4 then if (x174 p v2 J) = 0 then (J, L)
      else (nt_u (nt_u (nt_u J (p 4) ((((Int32.ofInt 10) + ((Int32.ofInt 7) * v2)) + (Int32.ofInt 4)).toNatClampNeg) (Int32.ofInt 1)) (p 4) ((((Int32.ofInt 10) + ((Int32.ofInt 7) * v2)) + (Int32.ofInt 5)).toNatClampNeg) v3) (p 4) ((((Int32.ofInt 172) + ((Int32.ofInt 5) * v3)) + (Int32.ofInt 4)).toNatClampNeg) (Int32.ofInt 1), L)
    else if v1 < 0 then if (x174 p v2 J) = 0 then (J, L)
        else (nt_u (nt_u (nt_u J (p 4) ((((Int32.ofInt 10) + ((Int32.ofInt 7) * v2)) + (Int32.ofInt 4)).toNatClampNeg) (Int32.ofInt 1)) (p 4) ((((Int32.ofInt 10) + ((Int32.ofInt 7) * v2)) + (Int32.ofInt 5)).toNatClampNeg) v3) (p 4) ((((Int32.ofInt 172) + ((Int32.ofInt 5) * v3)) + (Int32.ofInt 4)).toNatClampNeg) (Int32.ofInt 1), L)
      else (x192_3 p v1 v2 v3 c (v4 + (Int32.ofInt 1)) ((x192_18 p v1 v2 v3 v4 (((J (p 4) 5).toInt - (J (p 4) 6).toInt).toNat) J L).1) ((x192_18 p v1 v2 v3 v4 (((J (p 4) 5).toInt - (J (p 4) 6).toInt).toNat) J L).2))
theorem xt192_3 {X : nt_X} {d : Nat} {M : nt_M} {o : Option Value × nt_M} {p : Nat → Nat} {v1 : Int32} {v2 : Int32} {v3 : Int32} (hp : xs_P M p) (hv : 0 ≤ v2.toInt ∧ v2.toInt ≤ 5) : ∀ (c : Nat) (v4 : Int32) (v5 : Int32) (J : Nat → Nat → Int32) (L : Nat → Nat → Int64), (xr_W (J (p 4)) ∧ 0 ≤ v4.toInt ∧ (J (p 4) 0).toInt - v4.toInt ≤ c) → nt_rn X d 192 (3, [(0, .ref (p 0)), (1, .int v1), (2, .int v2), (3, .int v3), (4, .int v4), (5, .int v5)], [], me_w (lw M L) J) o → o = (none, me_w (lw M ((x192_3 p v1 v2 v3 c v4 J L).2)) ((x192_3 p v1 v2 v3 c v4 J L).1)) := by
  intro c
  induction c with
  | zero =>
    intro v4 v5 J L hc k
    have k := ly_revb 2 (c' := (6, [(0, .ref (p 0)), (1, .int v1), (2, .int v2), (3, .int v3), (4, .int v4), (5, .int v5)], [.ref (p 0), .int v4], me_w (lw M L) J)) rfl k
    have k := lz_get (a := (p 0)) (g := 1127) (M := me_w (lw M L) J) (v := .ref (p 4)) rfl (nt_gfR rfl (hp.1 (0, 27, 4) (by decide))) k
    have k := ly_revb 1 (c' := (10, [(0, .ref (p 0)), (1, .int v1), (2, .int v2), (3, .int v3), (4, .int v4), (5, .int v5)], [.int (Int32.ofInt 0), .ref (p 4), .int v4], me_w (lw M L) J)) rfl k
    have k := mx_iald (v := J (p 4) 0) rfl (hp.2.2.1 4 (by omega)) ((congrArg (J (p 4)) (show (Int32.ofInt 0).toNatClampNeg = 0 from rfl)).trans (rfl)) k
    have k := ly_revb 1 (c' := (if (J (p 4) 0) ≤ v4 then 70 else 14, [(0, .ref (p 0)), (1, .int v1), (2, .int v2), (3, .int v3), (4, .int v4), (5, .int v5)], [], me_w (lw M L) J)) rfl k
    have h11 : (J (p 4) 0) ≤ v4 := lx_end hc.2.2
    rw [if_pos h11] at k
    have k := ly_revb 2 (c' := (72, [(0, .ref (p 0)), (1, .int v1), (2, .int v2), (3, .int v3), (4, .int v4), (5, .int v5)], [.int v2, .ref (p 0)], me_w (lw M L) J)) rfl k
    obtain ⟨d1, o1, ed, kc, k⟩ := lz_c (g := 174) (q := 1) (vs := [.ref (p 0), .int v2]) (rest := []) rfl rfl (by decide) (Or.inr (Or.inl ⟨_, rfl, rfl⟩)) rfl k
    have e1 := xt174 (xs_lp hp) kc
    subst e1
    have k : nt_rn X _ 192 (75, [(0, .ref (p 0)), (1, .int v1), (2, .int v2), (3, .int v3), (4, .int v4), (5, .int v5)], [.int (x174 p v2 J)], me_w (lw M L) J) _ := k
    have k := ly_revb 1 (c' := (if (x174 p v2 J) = 0 then 78 else 79, [(0, .ref (p 0)), (1, .int v1), (2, .int v2), (3, .int v3), (4, .int v4), (5, .int v5)], [], me_w (lw M L) J)) rfl k
    by_cases h75 : (x174 p v2 J) = 0
    · rw [if_pos h75] at k
      have k := lz_rv rfl rfl k
      rw [k, x192_3, if_pos h75]
    · rw [if_neg h75] at k
      have k := ly_revb 1 (c' := (80, [(0, .ref (p 0)), (1, .int v1), (2, .int v2), (3, .int v3), (4, .int v4), (5, .int v5)], [.ref (p 0)], me_w (lw M L) J)) rfl k
      have k := lz_get (a := (p 0)) (g := 1127) (M := me_w (lw M L) J) (v := .ref (p 4)) rfl (nt_gfR rfl (hp.1 (0, 27, 4) (by decide))) k
      have k := ly_revb 8 (c' := (93, [(0, .ref (p 0)), (1, .int v1), (2, .int v2), (3, .int v3), (4, .int v4), (5, .int v5)], [.int (Int32.ofInt 1), .int (((Int32.ofInt 10) + ((Int32.ofInt 7) * v2)) + (Int32.ofInt 4)), .ref (p 4)], me_w (lw M L) J)) rfl k
      have k := mx_iast (q := (((Int32.ofInt 10) + ((Int32.ofInt 7) * v2)) + (Int32.ofInt 4)).toNatClampNeg) rfl rfl k
      have k : nt_rn X _ 192 (94, [(0, .ref (p 0)), (1, .int v1), (2, .int v2), (3, .int v3), (4, .int v4), (5, .int v5)], [], me_w (lw M L) (nt_u J (p 4) ((((Int32.ofInt 10) + ((Int32.ofInt 7) * v2)) + (Int32.ofInt 4)).toNatClampNeg) (Int32.ofInt 1))) _ := k
      have k := ly_revb 1 (c' := (95, [(0, .ref (p 0)), (1, .int v1), (2, .int v2), (3, .int v3), (4, .int v4), (5, .int v5)], [.ref (p 0)], me_w (lw M L) (nt_u J (p 4) ((((Int32.ofInt 10) + ((Int32.ofInt 7) * v2)) + (Int32.ofInt 4)).toNatClampNeg) (Int32.ofInt 1)))) rfl k
      have k := lz_get (a := (p 0)) (g := 1127) (M := me_w (lw M L) (nt_u J (p 4) ((((Int32.ofInt 10) + ((Int32.ofInt 7) * v2)) + (Int32.ofInt 4)).toNatClampNeg) (Int32.ofInt 1))) (v := .ref (p 4)) rfl (nt_gfR rfl (hp.1 (0, 27, 4) (by decide))) k
      have k := ly_revb 8 (c' := (108, [(0, .ref (p 0)), (1, .int v1), (2, .int v2), (3, .int v3), (4, .int v4), (5, .int v5)], [.int v3, .int (((Int32.ofInt 10) + ((Int32.ofInt 7) * v2)) + (Int32.ofInt 5)), .ref (p 4)], me_w (lw M L) (nt_u J (p 4) ((((Int32.ofInt 10) + ((Int32.ofInt 7) * v2)) + (Int32.ofInt 4)).toNatClampNeg) (Int32.ofInt 1)))) rfl k
      have k := mx_iast (q := (((Int32.ofInt 10) + ((Int32.ofInt 7) * v2)) + (Int32.ofInt 5)).toNatClampNeg) rfl rfl k
      have k : nt_rn X _ 192 (109, [(0, .ref (p 0)), (1, .int v1), (2, .int v2), (3, .int v3), (4, .int v4), (5, .int v5)], [], me_w (lw M L) (nt_u (nt_u J (p 4) ((((Int32.ofInt 10) + ((Int32.ofInt 7) * v2)) + (Int32.ofInt 4)).toNatClampNeg) (Int32.ofInt 1)) (p 4) ((((Int32.ofInt 10) + ((Int32.ofInt 7) * v2)) + (Int32.ofInt 5)).toNatClampNeg) v3)) _ := k
      have k := ly_revb 1 (c' := (110, [(0, .ref (p 0)), (1, .int v1), (2, .int v2), (3, .int v3), (4, .int v4), (5, .int v5)], [.ref (p 0)], me_w (lw M L) (nt_u (nt_u J (p 4) ((((Int32.ofInt 10) + ((Int32.ofInt 7) * v2)) + (Int32.ofInt 4)).toNatClampNeg) (Int32.ofInt 1)) (p 4) ((((Int32.ofInt 10) + ((Int32.ofInt 7) * v2)) + (Int32.ofInt 5)).toNatClampNeg) v3))) rfl k
      have k := lz_get (a := (p 0)) (g := 1127) (M := me_w (lw M L) (nt_u (nt_u J (p 4) ((((Int32.ofInt 10) + ((Int32.ofInt 7) * v2)) + (Int32.ofInt 4)).toNatClampNeg) (Int32.ofInt 1)) (p 4) ((((Int32.ofInt 10) + ((Int32.ofInt 7) * v2)) + (Int32.ofInt 5)).toNatClampNeg) v3)) (v := .ref (p 4)) rfl (nt_gfR rfl (hp.1 (0, 27, 4) (by decide))) k
      have k := ly_revb 8 (c' := (123, [(0, .ref (p 0)), (1, .int v1), (2, .int v2), (3, .int v3), (4, .int v4), (5, .int v5)], [.int (Int32.ofInt 1), .int (((Int32.ofInt 172) + ((Int32.ofInt 5) * v3)) + (Int32.ofInt 4)), .ref (p 4)], me_w (lw M L) (nt_u (nt_u J (p 4) ((((Int32.ofInt 10) + ((Int32.ofInt 7) * v2)) + (Int32.ofInt 4)).toNatClampNeg) (Int32.ofInt 1)) (p 4) ((((Int32.ofInt 10) + ((Int32.ofInt 7) * v2)) + (Int32.ofInt 5)).toNatClampNeg) v3))) rfl k
      have k := mx_iast (q := (((Int32.ofInt 172) + ((Int32.ofInt 5) * v3)) + (Int32.ofInt 4)).toNatClampNeg) rfl rfl k
      have k : nt_rn X _ 192 (124, [(0, .ref (p 0)), (1, .int v1), (2, .int v2), (3, .int v3), (4, .int v4), (5, .int v5)], [], me_w (lw M L) (nt_u (nt_u (nt_u J (p 4) ((((Int32.ofInt 10) + ((Int32.ofInt 7) * v2)) + (Int32.ofInt 4)).toNatClampNeg) (Int32.ofInt 1)) (p 4) ((((Int32.ofInt 10) + ((Int32.ofInt 7) * v2)) + (Int32.ofInt 5)).toNatClampNeg) v3) (p 4) ((((Int32.ofInt 172) + ((Int32.ofInt 5) * v3)) + (Int32.ofInt 4)).toNatClampNeg) (Int32.ofInt 1))) _ := k
      have k := lz_rv rfl rfl k
      rw [k, x192_3, if_neg h75]
  | succ c ih =>
    intro v4 v5 J L hc k
    have k := ly_revb 2 (c' := (6, [(0, .ref (p 0)), (1, .int v1), (2, .int v2), (3, .int v3), (4, .int v4), (5, .int v5)], [.ref (p 0), .int v4], me_w (lw M L) J)) rfl k
    have k := lz_get (a := (p 0)) (g := 1127) (M := me_w (lw M L) J) (v := .ref (p 4)) rfl (nt_gfR rfl (hp.1 (0, 27, 4) (by decide))) k
    have k := ly_revb 1 (c' := (10, [(0, .ref (p 0)), (1, .int v1), (2, .int v2), (3, .int v3), (4, .int v4), (5, .int v5)], [.int (Int32.ofInt 0), .ref (p 4), .int v4], me_w (lw M L) J)) rfl k
    have k := mx_iald (v := J (p 4) 0) rfl (hp.2.2.1 4 (by omega)) ((congrArg (J (p 4)) (show (Int32.ofInt 0).toNatClampNeg = 0 from rfl)).trans (rfl)) k
    have k := ly_revb 1 (c' := (if (J (p 4) 0) ≤ v4 then 70 else 14, [(0, .ref (p 0)), (1, .int v1), (2, .int v2), (3, .int v3), (4, .int v4), (5, .int v5)], [], me_w (lw M L) J)) rfl k
    by_cases h11 : (J (p 4) 0) ≤ v4
    · rw [if_pos h11] at k
      have k := ly_revb 2 (c' := (72, [(0, .ref (p 0)), (1, .int v1), (2, .int v2), (3, .int v3), (4, .int v4), (5, .int v5)], [.int v2, .ref (p 0)], me_w (lw M L) J)) rfl k
      obtain ⟨d1, o1, ed, kc, k⟩ := lz_c (g := 174) (q := 1) (vs := [.ref (p 0), .int v2]) (rest := []) rfl rfl (by decide) (Or.inr (Or.inl ⟨_, rfl, rfl⟩)) rfl k
      have e1 := xt174 (xs_lp hp) kc
      subst e1
      have k : nt_rn X _ 192 (75, [(0, .ref (p 0)), (1, .int v1), (2, .int v2), (3, .int v3), (4, .int v4), (5, .int v5)], [.int (x174 p v2 J)], me_w (lw M L) J) _ := k
      have k := ly_revb 1 (c' := (if (x174 p v2 J) = 0 then 78 else 79, [(0, .ref (p 0)), (1, .int v1), (2, .int v2), (3, .int v3), (4, .int v4), (5, .int v5)], [], me_w (lw M L) J)) rfl k
      by_cases h75 : (x174 p v2 J) = 0
      · rw [if_pos h75] at k
        have k := lz_rv rfl rfl k
        rw [k, x192_3, if_pos h11, if_pos h75]
      · rw [if_neg h75] at k
        have k := ly_revb 1 (c' := (80, [(0, .ref (p 0)), (1, .int v1), (2, .int v2), (3, .int v3), (4, .int v4), (5, .int v5)], [.ref (p 0)], me_w (lw M L) J)) rfl k
        have k := lz_get (a := (p 0)) (g := 1127) (M := me_w (lw M L) J) (v := .ref (p 4)) rfl (nt_gfR rfl (hp.1 (0, 27, 4) (by decide))) k
        have k := ly_revb 8 (c' := (93, [(0, .ref (p 0)), (1, .int v1), (2, .int v2), (3, .int v3), (4, .int v4), (5, .int v5)], [.int (Int32.ofInt 1), .int (((Int32.ofInt 10) + ((Int32.ofInt 7) * v2)) + (Int32.ofInt 4)), .ref (p 4)], me_w (lw M L) J)) rfl k
        have k := mx_iast (q := (((Int32.ofInt 10) + ((Int32.ofInt 7) * v2)) + (Int32.ofInt 4)).toNatClampNeg) rfl rfl k
        have k : nt_rn X _ 192 (94, [(0, .ref (p 0)), (1, .int v1), (2, .int v2), (3, .int v3), (4, .int v4), (5, .int v5)], [], me_w (lw M L) (nt_u J (p 4) ((((Int32.ofInt 10) + ((Int32.ofInt 7) * v2)) + (Int32.ofInt 4)).toNatClampNeg) (Int32.ofInt 1))) _ := k
        have k := ly_revb 1 (c' := (95, [(0, .ref (p 0)), (1, .int v1), (2, .int v2), (3, .int v3), (4, .int v4), (5, .int v5)], [.ref (p 0)], me_w (lw M L) (nt_u J (p 4) ((((Int32.ofInt 10) + ((Int32.ofInt 7) * v2)) + (Int32.ofInt 4)).toNatClampNeg) (Int32.ofInt 1)))) rfl k
        have k := lz_get (a := (p 0)) (g := 1127) (M := me_w (lw M L) (nt_u J (p 4) ((((Int32.ofInt 10) + ((Int32.ofInt 7) * v2)) + (Int32.ofInt 4)).toNatClampNeg) (Int32.ofInt 1))) (v := .ref (p 4)) rfl (nt_gfR rfl (hp.1 (0, 27, 4) (by decide))) k
        have k := ly_revb 8 (c' := (108, [(0, .ref (p 0)), (1, .int v1), (2, .int v2), (3, .int v3), (4, .int v4), (5, .int v5)], [.int v3, .int (((Int32.ofInt 10) + ((Int32.ofInt 7) * v2)) + (Int32.ofInt 5)), .ref (p 4)], me_w (lw M L) (nt_u J (p 4) ((((Int32.ofInt 10) + ((Int32.ofInt 7) * v2)) + (Int32.ofInt 4)).toNatClampNeg) (Int32.ofInt 1)))) rfl k
        have k := mx_iast (q := (((Int32.ofInt 10) + ((Int32.ofInt 7) * v2)) + (Int32.ofInt 5)).toNatClampNeg) rfl rfl k
        have k : nt_rn X _ 192 (109, [(0, .ref (p 0)), (1, .int v1), (2, .int v2), (3, .int v3), (4, .int v4), (5, .int v5)], [], me_w (lw M L) (nt_u (nt_u J (p 4) ((((Int32.ofInt 10) + ((Int32.ofInt 7) * v2)) + (Int32.ofInt 4)).toNatClampNeg) (Int32.ofInt 1)) (p 4) ((((Int32.ofInt 10) + ((Int32.ofInt 7) * v2)) + (Int32.ofInt 5)).toNatClampNeg) v3)) _ := k
        have k := ly_revb 1 (c' := (110, [(0, .ref (p 0)), (1, .int v1), (2, .int v2), (3, .int v3), (4, .int v4), (5, .int v5)], [.ref (p 0)], me_w (lw M L) (nt_u (nt_u J (p 4) ((((Int32.ofInt 10) + ((Int32.ofInt 7) * v2)) + (Int32.ofInt 4)).toNatClampNeg) (Int32.ofInt 1)) (p 4) ((((Int32.ofInt 10) + ((Int32.ofInt 7) * v2)) + (Int32.ofInt 5)).toNatClampNeg) v3))) rfl k
        have k := lz_get (a := (p 0)) (g := 1127) (M := me_w (lw M L) (nt_u (nt_u J (p 4) ((((Int32.ofInt 10) + ((Int32.ofInt 7) * v2)) + (Int32.ofInt 4)).toNatClampNeg) (Int32.ofInt 1)) (p 4) ((((Int32.ofInt 10) + ((Int32.ofInt 7) * v2)) + (Int32.ofInt 5)).toNatClampNeg) v3)) (v := .ref (p 4)) rfl (nt_gfR rfl (hp.1 (0, 27, 4) (by decide))) k
        have k := ly_revb 8 (c' := (123, [(0, .ref (p 0)), (1, .int v1), (2, .int v2), (3, .int v3), (4, .int v4), (5, .int v5)], [.int (Int32.ofInt 1), .int (((Int32.ofInt 172) + ((Int32.ofInt 5) * v3)) + (Int32.ofInt 4)), .ref (p 4)], me_w (lw M L) (nt_u (nt_u J (p 4) ((((Int32.ofInt 10) + ((Int32.ofInt 7) * v2)) + (Int32.ofInt 4)).toNatClampNeg) (Int32.ofInt 1)) (p 4) ((((Int32.ofInt 10) + ((Int32.ofInt 7) * v2)) + (Int32.ofInt 5)).toNatClampNeg) v3))) rfl k
        have k := mx_iast (q := (((Int32.ofInt 172) + ((Int32.ofInt 5) * v3)) + (Int32.ofInt 4)).toNatClampNeg) rfl rfl k
        have k : nt_rn X _ 192 (124, [(0, .ref (p 0)), (1, .int v1), (2, .int v2), (3, .int v3), (4, .int v4), (5, .int v5)], [], me_w (lw M L) (nt_u (nt_u (nt_u J (p 4) ((((Int32.ofInt 10) + ((Int32.ofInt 7) * v2)) + (Int32.ofInt 4)).toNatClampNeg) (Int32.ofInt 1)) (p 4) ((((Int32.ofInt 10) + ((Int32.ofInt 7) * v2)) + (Int32.ofInt 5)).toNatClampNeg) v3) (p 4) ((((Int32.ofInt 172) + ((Int32.ofInt 5) * v3)) + (Int32.ofInt 4)).toNatClampNeg) (Int32.ofInt 1))) _ := k
        have k := lz_rv rfl rfl k
        rw [k, x192_3, if_pos h11, if_neg h75]
    · rw [if_neg h11] at k
      have k := ly_revb 2 (c' := (if v1 < 0 then 70 else 18, [(0, .ref (p 0)), (1, .int v1), (2, .int v2), (3, .int v3), (4, .int v4), (5, .int v5)], [], me_w (lw M L) J)) rfl k
      by_cases h15 : v1 < 0
      · rw [if_pos h15] at k
        have k := ly_revb 2 (c' := (72, [(0, .ref (p 0)), (1, .int v1), (2, .int v2), (3, .int v3), (4, .int v4), (5, .int v5)], [.int v2, .ref (p 0)], me_w (lw M L) J)) rfl k
        obtain ⟨d1, o1, ed, kc, k⟩ := lz_c (g := 174) (q := 1) (vs := [.ref (p 0), .int v2]) (rest := []) rfl rfl (by decide) (Or.inr (Or.inl ⟨_, rfl, rfl⟩)) rfl k
        have e1 := xt174 (xs_lp hp) kc
        subst e1
        have k : nt_rn X _ 192 (75, [(0, .ref (p 0)), (1, .int v1), (2, .int v2), (3, .int v3), (4, .int v4), (5, .int v5)], [.int (x174 p v2 J)], me_w (lw M L) J) _ := k
        have k := ly_revb 1 (c' := (if (x174 p v2 J) = 0 then 78 else 79, [(0, .ref (p 0)), (1, .int v1), (2, .int v2), (3, .int v3), (4, .int v4), (5, .int v5)], [], me_w (lw M L) J)) rfl k
        by_cases h75 : (x174 p v2 J) = 0
        · rw [if_pos h75] at k
          have k := lz_rv rfl rfl k
          rw [k, x192_3, if_neg h11, if_pos h15, if_pos h75]
        · rw [if_neg h75] at k
          have k := ly_revb 1 (c' := (80, [(0, .ref (p 0)), (1, .int v1), (2, .int v2), (3, .int v3), (4, .int v4), (5, .int v5)], [.ref (p 0)], me_w (lw M L) J)) rfl k
          have k := lz_get (a := (p 0)) (g := 1127) (M := me_w (lw M L) J) (v := .ref (p 4)) rfl (nt_gfR rfl (hp.1 (0, 27, 4) (by decide))) k
          have k := ly_revb 8 (c' := (93, [(0, .ref (p 0)), (1, .int v1), (2, .int v2), (3, .int v3), (4, .int v4), (5, .int v5)], [.int (Int32.ofInt 1), .int (((Int32.ofInt 10) + ((Int32.ofInt 7) * v2)) + (Int32.ofInt 4)), .ref (p 4)], me_w (lw M L) J)) rfl k
          have k := mx_iast (q := (((Int32.ofInt 10) + ((Int32.ofInt 7) * v2)) + (Int32.ofInt 4)).toNatClampNeg) rfl rfl k
          have k : nt_rn X _ 192 (94, [(0, .ref (p 0)), (1, .int v1), (2, .int v2), (3, .int v3), (4, .int v4), (5, .int v5)], [], me_w (lw M L) (nt_u J (p 4) ((((Int32.ofInt 10) + ((Int32.ofInt 7) * v2)) + (Int32.ofInt 4)).toNatClampNeg) (Int32.ofInt 1))) _ := k
          have k := ly_revb 1 (c' := (95, [(0, .ref (p 0)), (1, .int v1), (2, .int v2), (3, .int v3), (4, .int v4), (5, .int v5)], [.ref (p 0)], me_w (lw M L) (nt_u J (p 4) ((((Int32.ofInt 10) + ((Int32.ofInt 7) * v2)) + (Int32.ofInt 4)).toNatClampNeg) (Int32.ofInt 1)))) rfl k
          have k := lz_get (a := (p 0)) (g := 1127) (M := me_w (lw M L) (nt_u J (p 4) ((((Int32.ofInt 10) + ((Int32.ofInt 7) * v2)) + (Int32.ofInt 4)).toNatClampNeg) (Int32.ofInt 1))) (v := .ref (p 4)) rfl (nt_gfR rfl (hp.1 (0, 27, 4) (by decide))) k
          have k := ly_revb 8 (c' := (108, [(0, .ref (p 0)), (1, .int v1), (2, .int v2), (3, .int v3), (4, .int v4), (5, .int v5)], [.int v3, .int (((Int32.ofInt 10) + ((Int32.ofInt 7) * v2)) + (Int32.ofInt 5)), .ref (p 4)], me_w (lw M L) (nt_u J (p 4) ((((Int32.ofInt 10) + ((Int32.ofInt 7) * v2)) + (Int32.ofInt 4)).toNatClampNeg) (Int32.ofInt 1)))) rfl k
          have k := mx_iast (q := (((Int32.ofInt 10) + ((Int32.ofInt 7) * v2)) + (Int32.ofInt 5)).toNatClampNeg) rfl rfl k
          have k : nt_rn X _ 192 (109, [(0, .ref (p 0)), (1, .int v1), (2, .int v2), (3, .int v3), (4, .int v4), (5, .int v5)], [], me_w (lw M L) (nt_u (nt_u J (p 4) ((((Int32.ofInt 10) + ((Int32.ofInt 7) * v2)) + (Int32.ofInt 4)).toNatClampNeg) (Int32.ofInt 1)) (p 4) ((((Int32.ofInt 10) + ((Int32.ofInt 7) * v2)) + (Int32.ofInt 5)).toNatClampNeg) v3)) _ := k
          have k := ly_revb 1 (c' := (110, [(0, .ref (p 0)), (1, .int v1), (2, .int v2), (3, .int v3), (4, .int v4), (5, .int v5)], [.ref (p 0)], me_w (lw M L) (nt_u (nt_u J (p 4) ((((Int32.ofInt 10) + ((Int32.ofInt 7) * v2)) + (Int32.ofInt 4)).toNatClampNeg) (Int32.ofInt 1)) (p 4) ((((Int32.ofInt 10) + ((Int32.ofInt 7) * v2)) + (Int32.ofInt 5)).toNatClampNeg) v3))) rfl k
          have k := lz_get (a := (p 0)) (g := 1127) (M := me_w (lw M L) (nt_u (nt_u J (p 4) ((((Int32.ofInt 10) + ((Int32.ofInt 7) * v2)) + (Int32.ofInt 4)).toNatClampNeg) (Int32.ofInt 1)) (p 4) ((((Int32.ofInt 10) + ((Int32.ofInt 7) * v2)) + (Int32.ofInt 5)).toNatClampNeg) v3)) (v := .ref (p 4)) rfl (nt_gfR rfl (hp.1 (0, 27, 4) (by decide))) k
          have k := ly_revb 8 (c' := (123, [(0, .ref (p 0)), (1, .int v1), (2, .int v2), (3, .int v3), (4, .int v4), (5, .int v5)], [.int (Int32.ofInt 1), .int (((Int32.ofInt 172) + ((Int32.ofInt 5) * v3)) + (Int32.ofInt 4)), .ref (p 4)], me_w (lw M L) (nt_u (nt_u J (p 4) ((((Int32.ofInt 10) + ((Int32.ofInt 7) * v2)) + (Int32.ofInt 4)).toNatClampNeg) (Int32.ofInt 1)) (p 4) ((((Int32.ofInt 10) + ((Int32.ofInt 7) * v2)) + (Int32.ofInt 5)).toNatClampNeg) v3))) rfl k
          have k := mx_iast (q := (((Int32.ofInt 172) + ((Int32.ofInt 5) * v3)) + (Int32.ofInt 4)).toNatClampNeg) rfl rfl k
          have k : nt_rn X _ 192 (124, [(0, .ref (p 0)), (1, .int v1), (2, .int v2), (3, .int v3), (4, .int v4), (5, .int v5)], [], me_w (lw M L) (nt_u (nt_u (nt_u J (p 4) ((((Int32.ofInt 10) + ((Int32.ofInt 7) * v2)) + (Int32.ofInt 4)).toNatClampNeg) (Int32.ofInt 1)) (p 4) ((((Int32.ofInt 10) + ((Int32.ofInt 7) * v2)) + (Int32.ofInt 5)).toNatClampNeg) v3) (p 4) ((((Int32.ofInt 172) + ((Int32.ofInt 5) * v3)) + (Int32.ofInt 4)).toNatClampNeg) (Int32.ofInt 1))) _ := k
          have k := lz_rv rfl rfl k
          rw [k, x192_3, if_neg h11, if_pos h15, if_neg h75]
      · rw [if_neg h15] at k
        have k := nt_rn_w (a := [(0, .ref (p 0)), (1, .int v1), (2, .int v2), (3, .int v3), (4, .int v4), (5, .int v5)]) (b := [(0, .ref (p 0)), (1, .int v1), (2, .int v2), (3, .int v3), (4, .int v4), (5, .int v5)]) ⟨rfl, rfl, rfl, rfl, rfl, rfl, trivial⟩ rfl k
        have k := xt192_18 hp hv  (((J (p 4) 5).toInt - (J (p 4) 6).toInt).toNat) v5 J L (⟨hc.1, lx_bg2⟩) k
        obtain ⟨w5, k⟩ := k
        have k : nt_rn X _ 192 (64, [(0, .ref (p 0)), (1, .int v1), (2, .int v2), (3, .int v3), (4, .int v4), (5, .int w5)], [], me_w (lw M ((x192_18 p v1 v2 v3 v4 (((J (p 4) 5).toInt - (J (p 4) 6).toInt).toNat) J L).2)) ((x192_18 p v1 v2 v3 v4 (((J (p 4) 5).toInt - (J (p 4) 6).toInt).toNat) J L).1)) _ := k
        have k := ly_revb 2 (c' := (3, [(4, .int (v4 + (Int32.ofInt 1))), (0, .ref (p 0)), (1, .int v1), (2, .int v2), (3, .int v3), (5, .int w5)], [], me_w (lw M ((x192_18 p v1 v2 v3 v4 (((J (p 4) 5).toInt - (J (p 4) 6).toInt).toNat) J L).2)) ((x192_18 p v1 v2 v3 v4 (((J (p 4) 5).toInt - (J (p 4) 6).toInt).toNat) J L).1))) rfl k
        have k := nt_rn_w (a := [(4, .int (v4 + (Int32.ofInt 1))), (0, .ref (p 0)), (1, .int v1), (2, .int v2), (3, .int v3), (5, .int w5)]) (b := [(0, .ref (p 0)), (1, .int v1), (2, .int v2), (3, .int v3), (4, .int (v4 + (Int32.ofInt 1))), (5, .int w5)]) ⟨rfl, rfl, rfl, rfl, rfl, rfl, trivial⟩ rfl k
        have k := ih (v4 + (Int32.ofInt 1)) w5 ((x192_18 p v1 v2 v3 v4 (((J (p 4) 5).toInt - (J (p 4) 6).toInt).toNat) J L).1) ((x192_18 p v1 v2 v3 v4 (((J (p 4) 5).toInt - (J (p 4) 6).toInt).toNat) J L).2) (by have z := xw_192i (v1 := v1) (v3 := v3) (v4 := v4) (c := ((J (p 4) 5).toInt - (J (p 4) 6).toInt).toNat) (L := L) (hp.2.1 4 0 (by omega) (by omega) (by decide)) hv (xk_r hc.1); exact ⟨z.1, xi_nn h11 hc.2.1, by rw [z.2 0 (by omega)]; exact lx_dec h11 hc.2.2⟩) k
        rw [k, x192_3, if_neg h11, if_neg h15]
theorem x192_3_rule {p : Nat → Nat} {v1 : Int32} {v2 : Int32} {v3 : Int32} {I : Nat → Int32 → (Nat → Nat → Int32) → (Nat → Nat → Int64) → Prop} {Q : (Nat → Nat → Int32) × (Nat → Nat → Int64) → Prop} (h0 : ∀ (v4 : Int32) (J : Nat → Nat → Int32) (L : Nat → Nat → Int64), I 0 v4 J L → Q (if (x174 p v2 J) = 0 then (J, L)
    else (nt_u (nt_u (nt_u J (p 4) ((((Int32.ofInt 10) + ((Int32.ofInt 7) * v2)) + (Int32.ofInt 4)).toNatClampNeg) (Int32.ofInt 1)) (p 4) ((((Int32.ofInt 10) + ((Int32.ofInt 7) * v2)) + (Int32.ofInt 5)).toNatClampNeg) v3) (p 4) ((((Int32.ofInt 172) + ((Int32.ofInt 5) * v3)) + (Int32.ofInt 4)).toNatClampNeg) (Int32.ofInt 1), L))) (h1 : ∀ (c : Nat) (v4 : Int32) (J : Nat → Nat → Int32) (L : Nat → Nat → Int64), I (c + 1) v4 J L →
    if (J (p 4) 0) ≤ v4 then if (x174 p v2 J) = 0 then (Q (J, L))
      else (Q (nt_u (nt_u (nt_u J (p 4) ((((Int32.ofInt 10) + ((Int32.ofInt 7) * v2)) + (Int32.ofInt 4)).toNatClampNeg) (Int32.ofInt 1)) (p 4) ((((Int32.ofInt 10) + ((Int32.ofInt 7) * v2)) + (Int32.ofInt 5)).toNatClampNeg) v3) (p 4) ((((Int32.ofInt 172) + ((Int32.ofInt 5) * v3)) + (Int32.ofInt 4)).toNatClampNeg) (Int32.ofInt 1), L))
    else if v1 < 0 then if (x174 p v2 J) = 0 then (Q (J, L))
        else (Q (nt_u (nt_u (nt_u J (p 4) ((((Int32.ofInt 10) + ((Int32.ofInt 7) * v2)) + (Int32.ofInt 4)).toNatClampNeg) (Int32.ofInt 1)) (p 4) ((((Int32.ofInt 10) + ((Int32.ofInt 7) * v2)) + (Int32.ofInt 5)).toNatClampNeg) v3) (p 4) ((((Int32.ofInt 172) + ((Int32.ofInt 5) * v3)) + (Int32.ofInt 4)).toNatClampNeg) (Int32.ofInt 1), L))
      else (I c (v4 + (Int32.ofInt 1)) ((x192_18 p v1 v2 v3 v4 (((J (p 4) 5).toInt - (J (p 4) 6).toInt).toNat) J L).1) ((x192_18 p v1 v2 v3 v4 (((J (p 4) 5).toInt - (J (p 4) 6).toInt).toNat) J L).2))) : ∀ (c : Nat) (v4 : Int32) (J : Nat → Nat → Int32) (L : Nat → Nat → Int64), I c v4 J L → Q (x192_3 p v1 v2 v3 c v4 J L) := by
  intro c
  induction c with
  | zero =>
    intro v4 J L hi
    rw [x192_3]
    exact h0 v4 J L hi
  | succ c ih =>
    intro v4 J L hi
    have hi := h1 c v4 J L hi
    rw [x192_3]
    by_cases h : (J (p 4) 0) ≤ v4
    · rw [if_pos h] at hi ⊢
      by_cases h : (x174 p v2 J) = 0
      · rw [if_pos h] at hi ⊢
        exact hi
      · rw [if_neg h] at hi ⊢
        exact hi
    · rw [if_neg h] at hi ⊢
      by_cases h : v1 < 0
      · rw [if_pos h] at hi ⊢
        by_cases h : (x174 p v2 J) = 0
        · rw [if_pos h] at hi ⊢
          exact hi
        · rw [if_neg h] at hi ⊢
          exact hi
      · rw [if_neg h] at hi ⊢
        exact ih _ _ _ hi
def x192 (p : Nat → Nat) (v1 : Int32) (v2 : Int32) (v3 : Int32) (J : Nat → Nat → Int32) (L : Nat → Nat → Int64) : (Nat → Nat → Int32) × (Nat → Nat → Int64) := (x192_3 p v1 v2 v3 ((J (p 4) 0).toNatClampNeg) (Int32.ofInt 0) J L)
theorem xt192 {X : nt_X} {d : Nat} {M : nt_M} {o : Option Value × nt_M} {p : Nat → Nat} {v1 : Int32} {v2 : Int32} {v3 : Int32} {J : Nat → Nat → Int32} {L : Nat → Nat → Int64} (hp : xs_P M p) (hw : xr_W (J (p 4))) (hv : 0 ≤ v2.toInt ∧ v2.toInt ≤ 5) (k : nt_ev X d 192 [.ref (p 0), .int v1, .int v2, .int v3] (me_w (lw M L) J) o) : o = (none, me_w (lw M ((x192 p v1 v2 v3 J L).2)) ((x192 p v1 v2 v3 J L).1)) := by
  have k : nt_rn X d 192 (0, [(0, .ref (p 0)), (1, .int v1), (2, .int v2), (3, .int v3)], [], me_w (lw M L) J) o := k
  have k := ly_revb 2 (c' := (3, [(4, .int (Int32.ofInt 0)), (0, .ref (p 0)), (1, .int v1), (2, .int v2), (3, .int v3)], [], me_w (lw M L) J)) rfl k
  have k := nt_rn_w (a := [(4, .int (Int32.ofInt 0)), (0, .ref (p 0)), (1, .int v1), (2, .int v2), (3, .int v3)]) (b := [(0, .ref (p 0)), (1, .int v1), (2, .int v2), (3, .int v3), (4, .int (Int32.ofInt 0)), (5, .int (Int32.ofInt 0))]) ⟨rfl, rfl, rfl, rfl, rfl, trivial⟩ rfl k
  have k := xt192_3 hp hv  ((J (p 4) 0).toNatClampNeg) (Int32.ofInt 0) (Int32.ofInt 0) J L (⟨hw, by decide, lx_beg (by decide)⟩) k
  rw [k, x192]
theorem x192_3_frJ {p : Nat → Nat} {v1 : Int32} {v2 : Int32} {v3 : Int32} {b : Nat} : ∀ (c : Nat) (v4 : Int32) (J : Nat → Nat → Int32) (L : Nat → Nat → Int64), b ≠ p 0 → b ≠ p 4 → (x192_3 p v1 v2 v3 c v4 J L).1 b = J b := by
  intro c
  induction c with
  | zero =>
    intro v4 J L n0 n1
    rw [x192_3]
    by_cases h : (x174 p v2 J) = 0
    · rw [if_pos h]
      all_goals first | (dsimp only; exact (show J b = J b from rfl)) | exact (show J b = J b from rfl)
    · rw [if_neg h]
      all_goals first | (dsimp only; exact (show (nt_u (nt_u (nt_u J (p 4) ((((Int32.ofInt 10) + ((Int32.ofInt 7) * v2)) + (Int32.ofInt 4)).toNatClampNeg) (Int32.ofInt 1)) (p 4) ((((Int32.ofInt 10) + ((Int32.ofInt 7) * v2)) + (Int32.ofInt 5)).toNatClampNeg) v3) (p 4) ((((Int32.ofInt 172) + ((Int32.ofInt 5) * v3)) + (Int32.ofInt 4)).toNatClampNeg) (Int32.ofInt 1)) b = J b from (mu_o n1).trans ((mu_o n1).trans (mu_o n1)))) | exact (show (nt_u (nt_u (nt_u J (p 4) ((((Int32.ofInt 10) + ((Int32.ofInt 7) * v2)) + (Int32.ofInt 4)).toNatClampNeg) (Int32.ofInt 1)) (p 4) ((((Int32.ofInt 10) + ((Int32.ofInt 7) * v2)) + (Int32.ofInt 5)).toNatClampNeg) v3) (p 4) ((((Int32.ofInt 172) + ((Int32.ofInt 5) * v3)) + (Int32.ofInt 4)).toNatClampNeg) (Int32.ofInt 1)) b = J b from (mu_o n1).trans ((mu_o n1).trans (mu_o n1)))
  | succ c ih =>
    intro v4 J L n0 n1
    rw [x192_3]
    by_cases h : (J (p 4) 0) ≤ v4
    · rw [if_pos h]
      by_cases h : (x174 p v2 J) = 0
      · rw [if_pos h]
        all_goals first | (dsimp only; exact (show J b = J b from rfl)) | exact (show J b = J b from rfl)
      · rw [if_neg h]
        all_goals first | (dsimp only; exact (show (nt_u (nt_u (nt_u J (p 4) ((((Int32.ofInt 10) + ((Int32.ofInt 7) * v2)) + (Int32.ofInt 4)).toNatClampNeg) (Int32.ofInt 1)) (p 4) ((((Int32.ofInt 10) + ((Int32.ofInt 7) * v2)) + (Int32.ofInt 5)).toNatClampNeg) v3) (p 4) ((((Int32.ofInt 172) + ((Int32.ofInt 5) * v3)) + (Int32.ofInt 4)).toNatClampNeg) (Int32.ofInt 1)) b = J b from (mu_o n1).trans ((mu_o n1).trans (mu_o n1)))) | exact (show (nt_u (nt_u (nt_u J (p 4) ((((Int32.ofInt 10) + ((Int32.ofInt 7) * v2)) + (Int32.ofInt 4)).toNatClampNeg) (Int32.ofInt 1)) (p 4) ((((Int32.ofInt 10) + ((Int32.ofInt 7) * v2)) + (Int32.ofInt 5)).toNatClampNeg) v3) (p 4) ((((Int32.ofInt 172) + ((Int32.ofInt 5) * v3)) + (Int32.ofInt 4)).toNatClampNeg) (Int32.ofInt 1)) b = J b from (mu_o n1).trans ((mu_o n1).trans (mu_o n1)))
    · rw [if_neg h]
      by_cases h : v1 < 0
      · rw [if_pos h]
        by_cases h : (x174 p v2 J) = 0
        · rw [if_pos h]
          all_goals first | (dsimp only; exact (show J b = J b from rfl)) | exact (show J b = J b from rfl)
        · rw [if_neg h]
          all_goals first | (dsimp only; exact (show (nt_u (nt_u (nt_u J (p 4) ((((Int32.ofInt 10) + ((Int32.ofInt 7) * v2)) + (Int32.ofInt 4)).toNatClampNeg) (Int32.ofInt 1)) (p 4) ((((Int32.ofInt 10) + ((Int32.ofInt 7) * v2)) + (Int32.ofInt 5)).toNatClampNeg) v3) (p 4) ((((Int32.ofInt 172) + ((Int32.ofInt 5) * v3)) + (Int32.ofInt 4)).toNatClampNeg) (Int32.ofInt 1)) b = J b from (mu_o n1).trans ((mu_o n1).trans (mu_o n1)))) | exact (show (nt_u (nt_u (nt_u J (p 4) ((((Int32.ofInt 10) + ((Int32.ofInt 7) * v2)) + (Int32.ofInt 4)).toNatClampNeg) (Int32.ofInt 1)) (p 4) ((((Int32.ofInt 10) + ((Int32.ofInt 7) * v2)) + (Int32.ofInt 5)).toNatClampNeg) v3) (p 4) ((((Int32.ofInt 172) + ((Int32.ofInt 5) * v3)) + (Int32.ofInt 4)).toNatClampNeg) (Int32.ofInt 1)) b = J b from (mu_o n1).trans ((mu_o n1).trans (mu_o n1)))
      · rw [if_neg h]
        exact (ih _ _ _ n0 n1).trans (x192_18_frJ _ _ _ n0 n1)
theorem x192_frJ {p : Nat → Nat} {v1 : Int32} {v2 : Int32} {v3 : Int32} {J : Nat → Nat → Int32} {L : Nat → Nat → Int64} {b : Nat} (n0 : b ≠ p 0) (n1 : b ≠ p 4) : (x192 p v1 v2 v3 J L).1 b = J b := by
  unfold x192
  exact (x192_3_frJ _ _ _ _ n0 n1).trans (rfl)
theorem x192_3_frL {p : Nat → Nat} {v1 : Int32} {v2 : Int32} {v3 : Int32} {b : Nat} : ∀ (c : Nat) (v4 : Int32) (J : Nat → Nat → Int32) (L : Nat → Nat → Int64), b ≠ p 5 → b ≠ p 6 → (x192_3 p v1 v2 v3 c v4 J L).2 b = L b := by
  intro c
  induction c with
  | zero =>
    intro v4 J L n0 n1
    rw [x192_3]
    by_cases h : (x174 p v2 J) = 0
    · rw [if_pos h]
      all_goals first | (dsimp only; exact (show L b = L b from rfl)) | exact (show L b = L b from rfl)
    · rw [if_neg h]
      all_goals first | (dsimp only; exact (show L b = L b from rfl)) | exact (show L b = L b from rfl)
  | succ c ih =>
    intro v4 J L n0 n1
    rw [x192_3]
    by_cases h : (J (p 4) 0) ≤ v4
    · rw [if_pos h]
      by_cases h : (x174 p v2 J) = 0
      · rw [if_pos h]
        all_goals first | (dsimp only; exact (show L b = L b from rfl)) | exact (show L b = L b from rfl)
      · rw [if_neg h]
        all_goals first | (dsimp only; exact (show L b = L b from rfl)) | exact (show L b = L b from rfl)
    · rw [if_neg h]
      by_cases h : v1 < 0
      · rw [if_pos h]
        by_cases h : (x174 p v2 J) = 0
        · rw [if_pos h]
          all_goals first | (dsimp only; exact (show L b = L b from rfl)) | exact (show L b = L b from rfl)
        · rw [if_neg h]
          all_goals first | (dsimp only; exact (show L b = L b from rfl)) | exact (show L b = L b from rfl)
      · rw [if_neg h]
        exact (ih _ _ _ n0 n1).trans (x192_18_frL _ _ _ n0 n1)
theorem x192_frL {p : Nat → Nat} {v1 : Int32} {v2 : Int32} {v3 : Int32} {J : Nat → Nat → Int32} {L : Nat → Nat → Int64} {b : Nat} (n0 : b ≠ p 5) (n1 : b ≠ p 6) : (x192 p v1 v2 v3 J L).2 b = L b := by
  unfold x192
  exact (x192_3_frL _ _ _ _ n0 n1).trans (rfl)
theorem xw_192 {p : Nat → Nat} {v1 v2 v3 : Int32} (hd : p 4 ≠ p 0) (h2 : 0 ≤ v2.toInt ∧ v2.toInt ≤ 5) (h3 : 0 ≤ v3.toInt ∧ v3.toInt ≤ 7) {J : Nat → Nat → Int32} {L : Nat → Nat → Int64} (hW : xr_W (J (p 4))) : xk_K (J (p 4)) ((x192 p v1 v2 v3 J L).1 (p 4)) := by
  have fin : ∀ (J1 : Nat → Nat → Int32), xk_K (J (p 4)) (J1 (p 4)) → xk_K (J (p 4)) ((nt_u (nt_u (nt_u J1 (p 4) ((((Int32.ofInt 10) + ((Int32.ofInt 7) * v2)) + (Int32.ofInt 4)).toNatClampNeg) (Int32.ofInt 1)) (p 4) ((((Int32.ofInt 10) + ((Int32.ofInt 7) * v2)) + (Int32.ofInt 5)).toNatClampNeg) v3) (p 4) ((((Int32.ofInt 172) + ((Int32.ofInt 5) * v3)) + (Int32.ofInt 4)).toNatClampNeg) (Int32.ofInt 1)) (p 4)) := fun J1 h =>
    xk_ua (xk_ub (xk_ua h (xi_s4 h2.1 (by omega)) (by omega) (xr_bs (by omega) (by omega) (by omega))) (xi_s5 h2.1 (by omega)) (by omega) (xr_b5 (by omega)) (by omega)) (xi_v4 h3.1 (by omega)) (by omega) (xr_bv (by omega) (by omega) (by omega))
  unfold x192
  refine x192_3_rule (I := fun _ _ J1 _ => xk_K (J (p 4)) (J1 (p 4))) (Q := fun r => xk_K (J (p 4)) (r.1 (p 4))) ?_ ?_ _ _ _ _ (xk_r hW)
  · intro v4 J1 L1 h
    by_cases h1 : (x174 p v2 J1) = 0
    · rw [if_pos h1]
      exact h
    · rw [if_neg h1]
      exact fin J1 h
  · intro c v4 J1 L1 h
    by_cases ha : (J1 (p 4) 0) ≤ v4
    · rw [if_pos ha]
      by_cases h1 : (x174 p v2 J1) = 0
      · rw [if_pos h1]
        exact h
      · rw [if_neg h1]
        exact fin J1 h
    · rw [if_neg ha]
      by_cases hb : v1 < 0
      · rw [if_pos hb]
        by_cases h1 : (x174 p v2 J1) = 0
        · rw [if_pos h1]
          exact h
        · rw [if_neg h1]
          exact fin J1 h
      · rw [if_neg hb]
        exact xw_192i hd h2 h
theorem xk_pa {p : Nat → Nat} {J J1 : Nat → Nat → Int32} {k c : Nat} {i : Int32} (hk : k < 6) (z : xk_K (J (p 4)) (J1 (p 4))) (n : ¬ J (p 4) k ≤ i) (h0 : 0 ≤ i.toInt) (hc : (J (p 4) k).toInt - i.toInt ≤ (c + 1 : Nat)) : xr_W (J1 (p 4)) ∧ 0 ≤ (i + Int32.ofInt 1).toInt ∧ (J1 (p 4) k).toInt - (i + Int32.ofInt 1).toInt ≤ c := ⟨z.1, xi_nn n h0, by rw [z.2 k hk]; exact lx_dec n hc⟩
theorem xi_l7 {e : Nat → Int32} {i : Int32} (hW : xr_W e) (n : ¬ e 3 ≤ i) (h0 : 0 ≤ i.toInt) : 0 ≤ i.toInt ∧ i.toInt ≤ 7 := ⟨h0, by have := xi_lt n (xr_3 hW).2; omega⟩
theorem xi_l5 {e : Nat → Int32} {i : Int32} (hW : xr_W e) (n : ¬ e 1 ≤ i) (h0 : 0 ≤ i.toInt) : 0 ≤ i.toInt ∧ i.toInt ≤ 5 := ⟨h0, by have := xi_lt n (xr_1 hW).2; omega⟩
/-! Model.passes -/
def x190_108 (p : Nat → Nat) (L : Nat → Nat → Int64) : Nat → Int32 → (Nat → Nat → Int32) → (Nat → Nat → Int32) × (Nat → Nat → Int64)
  | 0, v2, J => (nt_u (nt_u J (p 4) 4 ((J (p 4) 4) + (Int32.ofInt 1))) (p 4) 6 (Int32.ofInt 0), L)
  | c + 1, v2, J => if (J (p 4) 1) ≤ v2 then (nt_u (nt_u J (p 4) 4 ((J (p 4) 4) + (Int32.ofInt 1))) (p 4) 6 (Int32.ofInt 0), L)
    else if (x169 p v2 (Int32.ofInt 4) J) = (Int32.ofInt 1) then (x190_108 p L c (v2 + (Int32.ofInt 1)) (x202 p v2 J))
      else (x190_108 p L c (v2 + (Int32.ofInt 1)) J)
theorem xt190_108 {X : nt_X} {d : Nat} {M : nt_M} {o : Option Value × nt_M} {p : Nat → Nat} {v1 : Int32} {L : Nat → Nat → Int64} (hp : xs_P M p) : ∀ (c : Nat) (v2 : Int32) (J : Nat → Nat → Int32), (xr_W (J (p 4)) ∧ 0 ≤ v2.toInt ∧ (J (p 4) 1).toInt - v2.toInt ≤ c) → nt_rn X d 190 (108, [(0, .ref (p 0)), (1, .int v1), (2, .int v2)], [], me_w (lw M L) J) o → o = (none, me_w (lw M ((x190_108 p L c v2 J).2)) ((x190_108 p L c v2 J).1)) := by
  intro c
  induction c with
  | zero =>
    intro v2 J hc k
    have k := ly_revb 2 (c' := (110, [(0, .ref (p 0)), (1, .int v1), (2, .int v2)], [.ref (p 0), .int v2], me_w (lw M L) J)) rfl k
    have k := lz_get (a := (p 0)) (g := 1127) (M := me_w (lw M L) J) (v := .ref (p 4)) rfl (nt_gfR rfl (hp.1 (0, 27, 4) (by decide))) k
    have k := ly_revb 1 (c' := (114, [(0, .ref (p 0)), (1, .int v1), (2, .int v2)], [.int (Int32.ofInt 1), .ref (p 4), .int v2], me_w (lw M L) J)) rfl k
    have k := mx_iald (v := J (p 4) 1) rfl (hp.2.2.1 4 (by omega)) ((congrArg (J (p 4)) (show (Int32.ofInt 1).toNatClampNeg = 1 from rfl)).trans (rfl)) k
    have k := ly_revb 1 (c' := (if (J (p 4) 1) ≤ v2 then 139 else 118, [(0, .ref (p 0)), (1, .int v1), (2, .int v2)], [], me_w (lw M L) J)) rfl k
    have h115 : (J (p 4) 1) ≤ v2 := lx_end hc.2.2
    rw [if_pos h115] at k
    have k := ly_revb 1 (c' := (140, [(0, .ref (p 0)), (1, .int v1), (2, .int v2)], [.ref (p 0)], me_w (lw M L) J)) rfl k
    have k := lz_get (a := (p 0)) (g := 1127) (M := me_w (lw M L) J) (v := .ref (p 4)) rfl (nt_gfR rfl (hp.1 (0, 27, 4) (by decide))) k
    have k := ly_revb 2 (c' := (145, [(0, .ref (p 0)), (1, .int v1), (2, .int v2)], [.int (Int32.ofInt 4), .ref (p 4), .int (Int32.ofInt 4), .ref (p 4)], me_w (lw M L) J)) rfl k
    have k := mx_iald (v := J (p 4) 4) rfl (hp.2.2.1 4 (by omega)) ((congrArg (J (p 4)) (show (Int32.ofInt 4).toNatClampNeg = 4 from rfl)).trans (rfl)) k
    have k := ly_revb 2 (c' := (148, [(0, .ref (p 0)), (1, .int v1), (2, .int v2)], [.int ((J (p 4) 4) + (Int32.ofInt 1)), .int (Int32.ofInt 4), .ref (p 4)], me_w (lw M L) J)) rfl k
    have k := mx_iast (q := 4) rfl (show (Int32.ofInt 4).toNatClampNeg = 4 from rfl) k
    have k : nt_rn X _ 190 (149, [(0, .ref (p 0)), (1, .int v1), (2, .int v2)], [], me_w (lw M L) (nt_u J (p 4) 4 ((J (p 4) 4) + (Int32.ofInt 1)))) _ := k
    have k := ly_revb 1 (c' := (150, [(0, .ref (p 0)), (1, .int v1), (2, .int v2)], [.ref (p 0)], me_w (lw M L) (nt_u J (p 4) 4 ((J (p 4) 4) + (Int32.ofInt 1))))) rfl k
    have k := lz_get (a := (p 0)) (g := 1127) (M := me_w (lw M L) (nt_u J (p 4) 4 ((J (p 4) 4) + (Int32.ofInt 1)))) (v := .ref (p 4)) rfl (nt_gfR rfl (hp.1 (0, 27, 4) (by decide))) k
    have k := ly_revb 2 (c' := (156, [(0, .ref (p 0)), (1, .int v1), (2, .int v2)], [.int (Int32.ofInt 0), .int (Int32.ofInt 6), .ref (p 4)], me_w (lw M L) (nt_u J (p 4) 4 ((J (p 4) 4) + (Int32.ofInt 1))))) rfl k
    have k := mx_iast (q := 6) rfl (show (Int32.ofInt 6).toNatClampNeg = 6 from rfl) k
    have k : nt_rn X _ 190 (157, [(0, .ref (p 0)), (1, .int v1), (2, .int v2)], [], me_w (lw M L) (nt_u (nt_u J (p 4) 4 ((J (p 4) 4) + (Int32.ofInt 1))) (p 4) 6 (Int32.ofInt 0))) _ := k
    have k := lz_rv rfl rfl k
    rw [k, x190_108]
  | succ c ih =>
    intro v2 J hc k
    have k := ly_revb 2 (c' := (110, [(0, .ref (p 0)), (1, .int v1), (2, .int v2)], [.ref (p 0), .int v2], me_w (lw M L) J)) rfl k
    have k := lz_get (a := (p 0)) (g := 1127) (M := me_w (lw M L) J) (v := .ref (p 4)) rfl (nt_gfR rfl (hp.1 (0, 27, 4) (by decide))) k
    have k := ly_revb 1 (c' := (114, [(0, .ref (p 0)), (1, .int v1), (2, .int v2)], [.int (Int32.ofInt 1), .ref (p 4), .int v2], me_w (lw M L) J)) rfl k
    have k := mx_iald (v := J (p 4) 1) rfl (hp.2.2.1 4 (by omega)) ((congrArg (J (p 4)) (show (Int32.ofInt 1).toNatClampNeg = 1 from rfl)).trans (rfl)) k
    have k := ly_revb 1 (c' := (if (J (p 4) 1) ≤ v2 then 139 else 118, [(0, .ref (p 0)), (1, .int v1), (2, .int v2)], [], me_w (lw M L) J)) rfl k
    by_cases h115 : (J (p 4) 1) ≤ v2
    · rw [if_pos h115] at k
      have k := ly_revb 1 (c' := (140, [(0, .ref (p 0)), (1, .int v1), (2, .int v2)], [.ref (p 0)], me_w (lw M L) J)) rfl k
      have k := lz_get (a := (p 0)) (g := 1127) (M := me_w (lw M L) J) (v := .ref (p 4)) rfl (nt_gfR rfl (hp.1 (0, 27, 4) (by decide))) k
      have k := ly_revb 2 (c' := (145, [(0, .ref (p 0)), (1, .int v1), (2, .int v2)], [.int (Int32.ofInt 4), .ref (p 4), .int (Int32.ofInt 4), .ref (p 4)], me_w (lw M L) J)) rfl k
      have k := mx_iald (v := J (p 4) 4) rfl (hp.2.2.1 4 (by omega)) ((congrArg (J (p 4)) (show (Int32.ofInt 4).toNatClampNeg = 4 from rfl)).trans (rfl)) k
      have k := ly_revb 2 (c' := (148, [(0, .ref (p 0)), (1, .int v1), (2, .int v2)], [.int ((J (p 4) 4) + (Int32.ofInt 1)), .int (Int32.ofInt 4), .ref (p 4)], me_w (lw M L) J)) rfl k
      have k := mx_iast (q := 4) rfl (show (Int32.ofInt 4).toNatClampNeg = 4 from rfl) k
      have k : nt_rn X _ 190 (149, [(0, .ref (p 0)), (1, .int v1), (2, .int v2)], [], me_w (lw M L) (nt_u J (p 4) 4 ((J (p 4) 4) + (Int32.ofInt 1)))) _ := k
      have k := ly_revb 1 (c' := (150, [(0, .ref (p 0)), (1, .int v1), (2, .int v2)], [.ref (p 0)], me_w (lw M L) (nt_u J (p 4) 4 ((J (p 4) 4) + (Int32.ofInt 1))))) rfl k
      have k := lz_get (a := (p 0)) (g := 1127) (M := me_w (lw M L) (nt_u J (p 4) 4 ((J (p 4) 4) + (Int32.ofInt 1)))) (v := .ref (p 4)) rfl (nt_gfR rfl (hp.1 (0, 27, 4) (by decide))) k
      have k := ly_revb 2 (c' := (156, [(0, .ref (p 0)), (1, .int v1), (2, .int v2)], [.int (Int32.ofInt 0), .int (Int32.ofInt 6), .ref (p 4)], me_w (lw M L) (nt_u J (p 4) 4 ((J (p 4) 4) + (Int32.ofInt 1))))) rfl k
      have k := mx_iast (q := 6) rfl (show (Int32.ofInt 6).toNatClampNeg = 6 from rfl) k
      have k : nt_rn X _ 190 (157, [(0, .ref (p 0)), (1, .int v1), (2, .int v2)], [], me_w (lw M L) (nt_u (nt_u J (p 4) 4 ((J (p 4) 4) + (Int32.ofInt 1))) (p 4) 6 (Int32.ofInt 0))) _ := k
      have k := lz_rv rfl rfl k
      rw [k, x190_108, if_pos h115]
    · rw [if_neg h115] at k
      have k := ly_revb 3 (c' := (121, [(0, .ref (p 0)), (1, .int v1), (2, .int v2)], [.int (Int32.ofInt 4), .int v2, .ref (p 0)], me_w (lw M L) J)) rfl k
      obtain ⟨d1, o1, ed, kc, k⟩ := lz_c (g := 169) (q := 1) (vs := [.ref (p 0), .int v2, .int (Int32.ofInt 4)]) (rest := []) rfl rfl (by decide) (Or.inr (Or.inl ⟨_, rfl, rfl⟩)) rfl k
      have e1 := xt169 (xs_lp hp) kc
      subst e1
      have k : nt_rn X _ 190 (124, [(0, .ref (p 0)), (1, .int v1), (2, .int v2)], [.int (x169 p v2 (Int32.ofInt 4) J)], me_w (lw M L) J) _ := k
      have k := ly_revb 2 (c' := (if (x169 p v2 (Int32.ofInt 4) J) = (Int32.ofInt 1) then 128 else 133, [(0, .ref (p 0)), (1, .int v1), (2, .int v2)], [], me_w (lw M L) J)) rfl k
      by_cases h125 : (x169 p v2 (Int32.ofInt 4) J) = (Int32.ofInt 1)
      · rw [if_pos h125] at k
        have k := ly_revb 2 (c' := (130, [(0, .ref (p 0)), (1, .int v1), (2, .int v2)], [.int v2, .ref (p 0)], me_w (lw M L) J)) rfl k
        obtain ⟨d1, o1, ed, kc, k⟩ := lz_c (g := 202) (q := 1) (vs := [.ref (p 0), .int v2]) (rest := []) rfl rfl (by decide) (Or.inr (Or.inl ⟨_, rfl, rfl⟩)) rfl k
        have e1 := xt202 (xs_lp hp) hc.1 (xi_l5 hc.1 h115 hc.2.1) kc
        subst e1
        have k : nt_rn X _ 190 (133, [(0, .ref (p 0)), (1, .int v1), (2, .int v2)], [], me_w (lw M L) (x202 p v2 J)) _ := k
        have k := ly_revb 2 (c' := (108, [(2, .int (v2 + (Int32.ofInt 1))), (0, .ref (p 0)), (1, .int v1)], [], me_w (lw M L) (x202 p v2 J))) rfl k
        have k := nt_rn_w (a := [(2, .int (v2 + (Int32.ofInt 1))), (0, .ref (p 0)), (1, .int v1)]) (b := [(0, .ref (p 0)), (1, .int v1), (2, .int (v2 + (Int32.ofInt 1)))]) ⟨rfl, rfl, rfl, trivial⟩ rfl k
        have k := ih (v2 + (Int32.ofInt 1)) (x202 p v2 J) (xk_pa (by omega) (xw_202 hc.1 (xi_l5 hc.1 h115 hc.2.1)) h115 hc.2.1 hc.2.2) k
        rw [k, x190_108, if_neg h115, if_pos h125]
      · rw [if_neg h125] at k
        have k := ly_revb 2 (c' := (108, [(2, .int (v2 + (Int32.ofInt 1))), (0, .ref (p 0)), (1, .int v1)], [], me_w (lw M L) J)) rfl k
        have k := nt_rn_w (a := [(2, .int (v2 + (Int32.ofInt 1))), (0, .ref (p 0)), (1, .int v1)]) (b := [(0, .ref (p 0)), (1, .int v1), (2, .int (v2 + (Int32.ofInt 1)))]) ⟨rfl, rfl, rfl, trivial⟩ rfl k
        have k := ih (v2 + (Int32.ofInt 1)) J (xk_dec hc.1 h115 hc.2.1 hc.2.2) k
        rw [k, x190_108, if_neg h115, if_neg h125]
theorem x190_108_rule {p : Nat → Nat} {L : Nat → Nat → Int64} {I : Nat → Int32 → (Nat → Nat → Int32) → Prop} {Q : (Nat → Nat → Int32) × (Nat → Nat → Int64) → Prop} (h0 : ∀ (v2 : Int32) (J : Nat → Nat → Int32), I 0 v2 J → Q (nt_u (nt_u J (p 4) 4 ((J (p 4) 4) + (Int32.ofInt 1))) (p 4) 6 (Int32.ofInt 0), L)) (h1 : ∀ (c : Nat) (v2 : Int32) (J : Nat → Nat → Int32), I (c + 1) v2 J →
    if (J (p 4) 1) ≤ v2 then (Q (nt_u (nt_u J (p 4) 4 ((J (p 4) 4) + (Int32.ofInt 1))) (p 4) 6 (Int32.ofInt 0), L))
    else if (x169 p v2 (Int32.ofInt 4) J) = (Int32.ofInt 1) then (I c (v2 + (Int32.ofInt 1)) (x202 p v2 J))
      else (I c (v2 + (Int32.ofInt 1)) J)) : ∀ (c : Nat) (v2 : Int32) (J : Nat → Nat → Int32), I c v2 J → Q (x190_108 p L c v2 J) := by
  intro c
  induction c with
  | zero =>
    intro v2 J hi
    rw [x190_108]
    exact h0 v2 J hi
  | succ c ih =>
    intro v2 J hi
    have hi := h1 c v2 J hi
    rw [x190_108]
    by_cases h : (J (p 4) 1) ≤ v2
    · rw [if_pos h] at hi ⊢
      exact hi
    · rw [if_neg h] at hi ⊢
      by_cases h : (x169 p v2 (Int32.ofInt 4) J) = (Int32.ofInt 1)
      · rw [if_pos h] at hi ⊢
        exact ih _ _ hi
      · rw [if_neg h] at hi ⊢
        exact ih _ _ hi
def x190_50 (p : Nat → Nat) (v1 : Int32) : Nat → Int32 → (Nat → Nat → Int32) → (Nat → Nat → Int64) → (Nat → Nat → Int32) × (Nat → Nat → Int64)
  | 0, v2, J, L => (x190_108 p L ((J (p 4) 1).toNatClampNeg) (Int32.ofInt 0) J)
  | c + 1, v2, J, L => if (J (p 4) 3) ≤ v2 then (x190_108 p L ((J (p 4) 1).toNatClampNeg) (Int32.ofInt 0) J)
    else if (x180 p v2 (Int32.ofInt 1) J) = (J (p 4) 4) then if (x182 p (x180 p v2 (Int32.ofInt 0) J) J) = 0 then (x190_50 p v1 c (v2 + (Int32.ofInt 1)) J L)
        else (x190_50 p v1 c (v2 + (Int32.ofInt 1)) ((x192 p v1 (x180 p v2 (Int32.ofInt 0) J) v2 J L).1) ((x192 p v1 (x180 p v2 (Int32.ofInt 0) J) v2 J L).2))
      else (x190_50 p v1 c (v2 + (Int32.ofInt 1)) J L)
theorem xt190_50 {X : nt_X} {d : Nat} {M : nt_M} {o : Option Value × nt_M} {p : Nat → Nat} {v1 : Int32} (hp : xs_P M p) : ∀ (c : Nat) (v2 : Int32) (J : Nat → Nat → Int32) (L : Nat → Nat → Int64), (xr_W (J (p 4)) ∧ 0 ≤ v2.toInt ∧ (J (p 4) 3).toInt - v2.toInt ≤ c) → nt_rn X d 190 (50, [(0, .ref (p 0)), (1, .int v1), (2, .int v2)], [], me_w (lw M L) J) o → o = (none, me_w (lw M ((x190_50 p v1 c v2 J L).2)) ((x190_50 p v1 c v2 J L).1)) := by
  intro c
  induction c with
  | zero =>
    intro v2 J L hc k
    have k := ly_revb 2 (c' := (52, [(0, .ref (p 0)), (1, .int v1), (2, .int v2)], [.ref (p 0), .int v2], me_w (lw M L) J)) rfl k
    have k := lz_get (a := (p 0)) (g := 1127) (M := me_w (lw M L) J) (v := .ref (p 4)) rfl (nt_gfR rfl (hp.1 (0, 27, 4) (by decide))) k
    have k := ly_revb 1 (c' := (56, [(0, .ref (p 0)), (1, .int v1), (2, .int v2)], [.int (Int32.ofInt 3), .ref (p 4), .int v2], me_w (lw M L) J)) rfl k
    have k := mx_iald (v := J (p 4) 3) rfl (hp.2.2.1 4 (by omega)) ((congrArg (J (p 4)) (show (Int32.ofInt 3).toNatClampNeg = 3 from rfl)).trans (rfl)) k
    have k := ly_revb 1 (c' := (if (J (p 4) 3) ≤ v2 then 106 else 60, [(0, .ref (p 0)), (1, .int v1), (2, .int v2)], [], me_w (lw M L) J)) rfl k
    have h57 : (J (p 4) 3) ≤ v2 := lx_end hc.2.2
    rw [if_pos h57] at k
    have k := ly_revb 2 (c' := (108, [(2, .int (Int32.ofInt 0)), (0, .ref (p 0)), (1, .int v1)], [], me_w (lw M L) J)) rfl k
    have k := nt_rn_w (a := [(2, .int (Int32.ofInt 0)), (0, .ref (p 0)), (1, .int v1)]) (b := [(0, .ref (p 0)), (1, .int v1), (2, .int (Int32.ofInt 0))]) ⟨rfl, rfl, rfl, trivial⟩ rfl k
    have k := xt190_108 hp  ((J (p 4) 1).toNatClampNeg) (Int32.ofInt 0) J (⟨hc.1, by decide, lx_beg (by decide)⟩) k
    rw [k, x190_50]
  | succ c ih =>
    intro v2 J L hc k
    have k := ly_revb 2 (c' := (52, [(0, .ref (p 0)), (1, .int v1), (2, .int v2)], [.ref (p 0), .int v2], me_w (lw M L) J)) rfl k
    have k := lz_get (a := (p 0)) (g := 1127) (M := me_w (lw M L) J) (v := .ref (p 4)) rfl (nt_gfR rfl (hp.1 (0, 27, 4) (by decide))) k
    have k := ly_revb 1 (c' := (56, [(0, .ref (p 0)), (1, .int v1), (2, .int v2)], [.int (Int32.ofInt 3), .ref (p 4), .int v2], me_w (lw M L) J)) rfl k
    have k := mx_iald (v := J (p 4) 3) rfl (hp.2.2.1 4 (by omega)) ((congrArg (J (p 4)) (show (Int32.ofInt 3).toNatClampNeg = 3 from rfl)).trans (rfl)) k
    have k := ly_revb 1 (c' := (if (J (p 4) 3) ≤ v2 then 106 else 60, [(0, .ref (p 0)), (1, .int v1), (2, .int v2)], [], me_w (lw M L) J)) rfl k
    by_cases h57 : (J (p 4) 3) ≤ v2
    · rw [if_pos h57] at k
      have k := ly_revb 2 (c' := (108, [(2, .int (Int32.ofInt 0)), (0, .ref (p 0)), (1, .int v1)], [], me_w (lw M L) J)) rfl k
      have k := nt_rn_w (a := [(2, .int (Int32.ofInt 0)), (0, .ref (p 0)), (1, .int v1)]) (b := [(0, .ref (p 0)), (1, .int v1), (2, .int (Int32.ofInt 0))]) ⟨rfl, rfl, rfl, trivial⟩ rfl k
      have k := xt190_108 hp  ((J (p 4) 1).toNatClampNeg) (Int32.ofInt 0) J (⟨hc.1, by decide, lx_beg (by decide)⟩) k
      rw [k, x190_50, if_pos h57]
    · rw [if_neg h57] at k
      have k := ly_revb 3 (c' := (63, [(0, .ref (p 0)), (1, .int v1), (2, .int v2)], [.int (Int32.ofInt 1), .int v2, .ref (p 0)], me_w (lw M L) J)) rfl k
      obtain ⟨d1, o1, ed, kc, k⟩ := lz_c (g := 180) (q := 1) (vs := [.ref (p 0), .int v2, .int (Int32.ofInt 1)]) (rest := []) rfl rfl (by decide) (Or.inr (Or.inl ⟨_, rfl, rfl⟩)) rfl k
      have e1 := xt180 (xs_lp hp) kc
      subst e1
      have k : nt_rn X _ 190 (66, [(0, .ref (p 0)), (1, .int v1), (2, .int v2)], [.int (x180 p v2 (Int32.ofInt 1) J)], me_w (lw M L) J) _ := k
      have k := ly_revb 1 (c' := (67, [(0, .ref (p 0)), (1, .int v1), (2, .int v2)], [.ref (p 0), .int (x180 p v2 (Int32.ofInt 1) J)], me_w (lw M L) J)) rfl k
      have k := lz_get (a := (p 0)) (g := 1127) (M := me_w (lw M L) J) (v := .ref (p 4)) rfl (nt_gfR rfl (hp.1 (0, 27, 4) (by decide))) k
      have k := ly_revb 1 (c' := (71, [(0, .ref (p 0)), (1, .int v1), (2, .int v2)], [.int (Int32.ofInt 4), .ref (p 4), .int (x180 p v2 (Int32.ofInt 1) J)], me_w (lw M L) J)) rfl k
      have k := mx_iald (v := J (p 4) 4) rfl (hp.2.2.1 4 (by omega)) ((congrArg (J (p 4)) (show (Int32.ofInt 4).toNatClampNeg = 4 from rfl)).trans (rfl)) k
      have k := ly_revb 1 (c' := (if (x180 p v2 (Int32.ofInt 1) J) = (J (p 4) 4) then 75 else 100, [(0, .ref (p 0)), (1, .int v1), (2, .int v2)], [], me_w (lw M L) J)) rfl k
      by_cases h72 : (x180 p v2 (Int32.ofInt 1) J) = (J (p 4) 4)
      · rw [if_pos h72] at k
        have k := ly_revb 4 (c' := (79, [(0, .ref (p 0)), (1, .int v1), (2, .int v2)], [.int (Int32.ofInt 0), .int v2, .ref (p 0), .ref (p 0)], me_w (lw M L) J)) rfl k
        obtain ⟨d1, o1, ed, kc, k⟩ := lz_c (g := 180) (q := 1) (vs := [.ref (p 0), .int v2, .int (Int32.ofInt 0)]) (rest := [.ref (p 0)]) rfl rfl (by decide) (Or.inr (Or.inl ⟨_, rfl, rfl⟩)) rfl k
        have e1 := xt180 (xs_lp hp) kc
        subst e1
        have k : nt_rn X _ 190 (82, [(0, .ref (p 0)), (1, .int v1), (2, .int v2)], [.int (x180 p v2 (Int32.ofInt 0) J), .ref (p 0)], me_w (lw M L) J) _ := k
        obtain ⟨d1, o1, ed, kc, k⟩ := lz_c (g := 182) (q := 1) (vs := [.ref (p 0), .int (x180 p v2 (Int32.ofInt 0) J)]) (rest := []) rfl rfl (by decide) (Or.inr (Or.inl ⟨_, rfl, rfl⟩)) rfl k
        have e1 := xt182 (xs_lp hp) kc
        subst e1
        have k : nt_rn X _ 190 (85, [(0, .ref (p 0)), (1, .int v1), (2, .int v2)], [.int (x182 p (x180 p v2 (Int32.ofInt 0) J) J)], me_w (lw M L) J) _ := k
        have k := ly_revb 1 (c' := (if (x182 p (x180 p v2 (Int32.ofInt 0) J) J) = 0 then 100 else 88, [(0, .ref (p 0)), (1, .int v1), (2, .int v2)], [], me_w (lw M L) J)) rfl k
        by_cases h85 : (x182 p (x180 p v2 (Int32.ofInt 0) J) J) = 0
        · rw [if_pos h85] at k
          have k := ly_revb 2 (c' := (50, [(2, .int (v2 + (Int32.ofInt 1))), (0, .ref (p 0)), (1, .int v1)], [], me_w (lw M L) J)) rfl k
          have k := nt_rn_w (a := [(2, .int (v2 + (Int32.ofInt 1))), (0, .ref (p 0)), (1, .int v1)]) (b := [(0, .ref (p 0)), (1, .int v1), (2, .int (v2 + (Int32.ofInt 1)))]) ⟨rfl, rfl, rfl, trivial⟩ rfl k
          have k := ih (v2 + (Int32.ofInt 1)) J L (xk_dec hc.1 h57 hc.2.1 hc.2.2) k
          rw [k, x190_50, if_neg h57, if_pos h72, if_pos h85]
        · rw [if_neg h85] at k
          have k := ly_revb 5 (c' := (93, [(0, .ref (p 0)), (1, .int v1), (2, .int v2)], [.int (Int32.ofInt 0), .int v2, .ref (p 0), .int v1, .ref (p 0)], me_w (lw M L) J)) rfl k
          obtain ⟨d1, o1, ed, kc, k⟩ := lz_c (g := 180) (q := 1) (vs := [.ref (p 0), .int v2, .int (Int32.ofInt 0)]) (rest := [.int v1, .ref (p 0)]) rfl rfl (by decide) (Or.inr (Or.inl ⟨_, rfl, rfl⟩)) rfl k
          have e1 := xt180 (xs_lp hp) kc
          subst e1
          have k : nt_rn X _ 190 (96, [(0, .ref (p 0)), (1, .int v1), (2, .int v2)], [.int (x180 p v2 (Int32.ofInt 0) J), .int v1, .ref (p 0)], me_w (lw M L) J) _ := k
          have k := ly_revb 1 (c' := (97, [(0, .ref (p 0)), (1, .int v1), (2, .int v2)], [.int v2, .int (x180 p v2 (Int32.ofInt 0) J), .int v1, .ref (p 0)], me_w (lw M L) J)) rfl k
          obtain ⟨d1, o1, ed, kc, k⟩ := lz_c (g := 192) (q := 1) (vs := [.ref (p 0), .int v1, .int (x180 p v2 (Int32.ofInt 0) J), .int v2]) (rest := []) rfl rfl (by decide) (Or.inr (Or.inl ⟨_, rfl, rfl⟩)) rfl k
          have e1 := xt192 hp hc.1 (xi_va hc.1 (xi_l7 hc.1 h57 hc.2.1)) kc
          subst e1
          have k : nt_rn X _ 190 (100, [(0, .ref (p 0)), (1, .int v1), (2, .int v2)], [], me_w (lw M ((x192 p v1 (x180 p v2 (Int32.ofInt 0) J) v2 J L).2)) ((x192 p v1 (x180 p v2 (Int32.ofInt 0) J) v2 J L).1)) _ := k
          have k := ly_revb 2 (c' := (50, [(2, .int (v2 + (Int32.ofInt 1))), (0, .ref (p 0)), (1, .int v1)], [], me_w (lw M ((x192 p v1 (x180 p v2 (Int32.ofInt 0) J) v2 J L).2)) ((x192 p v1 (x180 p v2 (Int32.ofInt 0) J) v2 J L).1))) rfl k
          have k := nt_rn_w (a := [(2, .int (v2 + (Int32.ofInt 1))), (0, .ref (p 0)), (1, .int v1)]) (b := [(0, .ref (p 0)), (1, .int v1), (2, .int (v2 + (Int32.ofInt 1)))]) ⟨rfl, rfl, rfl, trivial⟩ rfl k
          have k := ih (v2 + (Int32.ofInt 1)) ((x192 p v1 (x180 p v2 (Int32.ofInt 0) J) v2 J L).1) ((x192 p v1 (x180 p v2 (Int32.ofInt 0) J) v2 J L).2) (xk_pa (by omega) (xw_192 (hp.2.1 4 0 (by omega) (by omega) (by decide)) (xi_va hc.1 (xi_l7 hc.1 h57 hc.2.1)) (xi_l7 hc.1 h57 hc.2.1) hc.1) h57 hc.2.1 hc.2.2) k
          rw [k, x190_50, if_neg h57, if_pos h72, if_neg h85]
      · rw [if_neg h72] at k
        have k := ly_revb 2 (c' := (50, [(2, .int (v2 + (Int32.ofInt 1))), (0, .ref (p 0)), (1, .int v1)], [], me_w (lw M L) J)) rfl k
        have k := nt_rn_w (a := [(2, .int (v2 + (Int32.ofInt 1))), (0, .ref (p 0)), (1, .int v1)]) (b := [(0, .ref (p 0)), (1, .int v1), (2, .int (v2 + (Int32.ofInt 1)))]) ⟨rfl, rfl, rfl, trivial⟩ rfl k
        have k := ih (v2 + (Int32.ofInt 1)) J L (xk_dec hc.1 h57 hc.2.1 hc.2.2) k
        rw [k, x190_50, if_neg h57, if_neg h72]
theorem x190_50_rule {p : Nat → Nat} {v1 : Int32} {I : Nat → Int32 → (Nat → Nat → Int32) → (Nat → Nat → Int64) → Prop} {Q : (Nat → Nat → Int32) × (Nat → Nat → Int64) → Prop} (h0 : ∀ (v2 : Int32) (J : Nat → Nat → Int32) (L : Nat → Nat → Int64), I 0 v2 J L → Q (x190_108 p L ((J (p 4) 1).toNatClampNeg) (Int32.ofInt 0) J)) (h1 : ∀ (c : Nat) (v2 : Int32) (J : Nat → Nat → Int32) (L : Nat → Nat → Int64), I (c + 1) v2 J L →
    if (J (p 4) 3) ≤ v2 then (Q (x190_108 p L ((J (p 4) 1).toNatClampNeg) (Int32.ofInt 0) J))
    else if (x180 p v2 (Int32.ofInt 1) J) = (J (p 4) 4) then if (x182 p (x180 p v2 (Int32.ofInt 0) J) J) = 0 then (I c (v2 + (Int32.ofInt 1)) J L)
        else (I c (v2 + (Int32.ofInt 1)) ((x192 p v1 (x180 p v2 (Int32.ofInt 0) J) v2 J L).1) ((x192 p v1 (x180 p v2 (Int32.ofInt 0) J) v2 J L).2))
      else (I c (v2 + (Int32.ofInt 1)) J L)) : ∀ (c : Nat) (v2 : Int32) (J : Nat → Nat → Int32) (L : Nat → Nat → Int64), I c v2 J L → Q (x190_50 p v1 c v2 J L) := by
  intro c
  induction c with
  | zero =>
    intro v2 J L hi
    rw [x190_50]
    exact h0 v2 J L hi
  | succ c ih =>
    intro v2 J L hi
    have hi := h1 c v2 J L hi
    rw [x190_50]
    by_cases h : (J (p 4) 3) ≤ v2
    · rw [if_pos h] at hi ⊢
      exact hi
    · rw [if_neg h] at hi ⊢
      by_cases h : (x180 p v2 (Int32.ofInt 1) J) = (J (p 4) 4)
      · rw [if_pos h] at hi ⊢
        by_cases h : (x182 p (x180 p v2 (Int32.ofInt 0) J) J) = 0
        · rw [if_pos h] at hi ⊢
          exact ih _ _ _ hi
        · rw [if_neg h] at hi ⊢
          exact ih _ _ _ hi
      · rw [if_neg h] at hi ⊢
        exact ih _ _ _ hi
def x190_2 (p : Nat → Nat) (v1 : Int32) (L : Nat → Nat → Int64) : Nat → Int32 → (Nat → Nat → Int32) → (Nat → Nat → Int32) × (Nat → Nat → Int64)
  | 0, v2, J => (x190_50 p v1 ((J (p 4) 3).toNatClampNeg) (Int32.ofInt 0) J L)
  | c + 1, v2, J => if (J (p 4) 3) ≤ v2 then (x190_50 p v1 ((J (p 4) 3).toNatClampNeg) (Int32.ofInt 0) J L)
    else if (x180 p v2 (Int32.ofInt 4) J) = (Int32.ofInt 1) then if (x180 p v2 (Int32.ofInt 2) J) = (J (p 4) 4) then (x190_2 p v1 L c (v2 + (Int32.ofInt 1)) (x191 p v2 J))
        else (x190_2 p v1 L c (v2 + (Int32.ofInt 1)) J)
      else (x190_2 p v1 L c (v2 + (Int32.ofInt 1)) J)
theorem xt190_2 {X : nt_X} {d : Nat} {M : nt_M} {o : Option Value × nt_M} {p : Nat → Nat} {v1 : Int32} {L : Nat → Nat → Int64} (hp : xs_P M p) : ∀ (c : Nat) (v2 : Int32) (J : Nat → Nat → Int32), (xr_W (J (p 4)) ∧ 0 ≤ v2.toInt ∧ (J (p 4) 3).toInt - v2.toInt ≤ c) → nt_rn X d 190 (2, [(0, .ref (p 0)), (1, .int v1), (2, .int v2)], [], me_w (lw M L) J) o → o = (none, me_w (lw M ((x190_2 p v1 L c v2 J).2)) ((x190_2 p v1 L c v2 J).1)) := by
  intro c
  induction c with
  | zero =>
    intro v2 J hc k
    have k := ly_revb 2 (c' := (4, [(0, .ref (p 0)), (1, .int v1), (2, .int v2)], [.ref (p 0), .int v2], me_w (lw M L) J)) rfl k
    have k := lz_get (a := (p 0)) (g := 1127) (M := me_w (lw M L) J) (v := .ref (p 4)) rfl (nt_gfR rfl (hp.1 (0, 27, 4) (by decide))) k
    have k := ly_revb 1 (c' := (8, [(0, .ref (p 0)), (1, .int v1), (2, .int v2)], [.int (Int32.ofInt 3), .ref (p 4), .int v2], me_w (lw M L) J)) rfl k
    have k := mx_iald (v := J (p 4) 3) rfl (hp.2.2.1 4 (by omega)) ((congrArg (J (p 4)) (show (Int32.ofInt 3).toNatClampNeg = 3 from rfl)).trans (rfl)) k
    have k := ly_revb 1 (c' := (if (J (p 4) 3) ≤ v2 then 48 else 12, [(0, .ref (p 0)), (1, .int v1), (2, .int v2)], [], me_w (lw M L) J)) rfl k
    have h9 : (J (p 4) 3) ≤ v2 := lx_end hc.2.2
    rw [if_pos h9] at k
    have k := ly_revb 2 (c' := (50, [(2, .int (Int32.ofInt 0)), (0, .ref (p 0)), (1, .int v1)], [], me_w (lw M L) J)) rfl k
    have k := nt_rn_w (a := [(2, .int (Int32.ofInt 0)), (0, .ref (p 0)), (1, .int v1)]) (b := [(0, .ref (p 0)), (1, .int v1), (2, .int (Int32.ofInt 0))]) ⟨rfl, rfl, rfl, trivial⟩ rfl k
    have k := xt190_50 hp  ((J (p 4) 3).toNatClampNeg) (Int32.ofInt 0) J L (⟨hc.1, by decide, lx_beg (by decide)⟩) k
    rw [k, x190_2]
  | succ c ih =>
    intro v2 J hc k
    have k := ly_revb 2 (c' := (4, [(0, .ref (p 0)), (1, .int v1), (2, .int v2)], [.ref (p 0), .int v2], me_w (lw M L) J)) rfl k
    have k := lz_get (a := (p 0)) (g := 1127) (M := me_w (lw M L) J) (v := .ref (p 4)) rfl (nt_gfR rfl (hp.1 (0, 27, 4) (by decide))) k
    have k := ly_revb 1 (c' := (8, [(0, .ref (p 0)), (1, .int v1), (2, .int v2)], [.int (Int32.ofInt 3), .ref (p 4), .int v2], me_w (lw M L) J)) rfl k
    have k := mx_iald (v := J (p 4) 3) rfl (hp.2.2.1 4 (by omega)) ((congrArg (J (p 4)) (show (Int32.ofInt 3).toNatClampNeg = 3 from rfl)).trans (rfl)) k
    have k := ly_revb 1 (c' := (if (J (p 4) 3) ≤ v2 then 48 else 12, [(0, .ref (p 0)), (1, .int v1), (2, .int v2)], [], me_w (lw M L) J)) rfl k
    by_cases h9 : (J (p 4) 3) ≤ v2
    · rw [if_pos h9] at k
      have k := ly_revb 2 (c' := (50, [(2, .int (Int32.ofInt 0)), (0, .ref (p 0)), (1, .int v1)], [], me_w (lw M L) J)) rfl k
      have k := nt_rn_w (a := [(2, .int (Int32.ofInt 0)), (0, .ref (p 0)), (1, .int v1)]) (b := [(0, .ref (p 0)), (1, .int v1), (2, .int (Int32.ofInt 0))]) ⟨rfl, rfl, rfl, trivial⟩ rfl k
      have k := xt190_50 hp  ((J (p 4) 3).toNatClampNeg) (Int32.ofInt 0) J L (⟨hc.1, by decide, lx_beg (by decide)⟩) k
      rw [k, x190_2, if_pos h9]
    · rw [if_neg h9] at k
      have k := ly_revb 3 (c' := (15, [(0, .ref (p 0)), (1, .int v1), (2, .int v2)], [.int (Int32.ofInt 4), .int v2, .ref (p 0)], me_w (lw M L) J)) rfl k
      obtain ⟨d1, o1, ed, kc, k⟩ := lz_c (g := 180) (q := 1) (vs := [.ref (p 0), .int v2, .int (Int32.ofInt 4)]) (rest := []) rfl rfl (by decide) (Or.inr (Or.inl ⟨_, rfl, rfl⟩)) rfl k
      have e1 := xt180 (xs_lp hp) kc
      subst e1
      have k : nt_rn X _ 190 (18, [(0, .ref (p 0)), (1, .int v1), (2, .int v2)], [.int (x180 p v2 (Int32.ofInt 4) J)], me_w (lw M L) J) _ := k
      have k := ly_revb 2 (c' := (if (x180 p v2 (Int32.ofInt 4) J) = (Int32.ofInt 1) then 22 else 42, [(0, .ref (p 0)), (1, .int v1), (2, .int v2)], [], me_w (lw M L) J)) rfl k
      by_cases h19 : (x180 p v2 (Int32.ofInt 4) J) = (Int32.ofInt 1)
      · rw [if_pos h19] at k
        have k := ly_revb 3 (c' := (25, [(0, .ref (p 0)), (1, .int v1), (2, .int v2)], [.int (Int32.ofInt 2), .int v2, .ref (p 0)], me_w (lw M L) J)) rfl k
        obtain ⟨d1, o1, ed, kc, k⟩ := lz_c (g := 180) (q := 1) (vs := [.ref (p 0), .int v2, .int (Int32.ofInt 2)]) (rest := []) rfl rfl (by decide) (Or.inr (Or.inl ⟨_, rfl, rfl⟩)) rfl k
        have e1 := xt180 (xs_lp hp) kc
        subst e1
        have k : nt_rn X _ 190 (28, [(0, .ref (p 0)), (1, .int v1), (2, .int v2)], [.int (x180 p v2 (Int32.ofInt 2) J)], me_w (lw M L) J) _ := k
        have k := ly_revb 1 (c' := (29, [(0, .ref (p 0)), (1, .int v1), (2, .int v2)], [.ref (p 0), .int (x180 p v2 (Int32.ofInt 2) J)], me_w (lw M L) J)) rfl k
        have k := lz_get (a := (p 0)) (g := 1127) (M := me_w (lw M L) J) (v := .ref (p 4)) rfl (nt_gfR rfl (hp.1 (0, 27, 4) (by decide))) k
        have k := ly_revb 1 (c' := (33, [(0, .ref (p 0)), (1, .int v1), (2, .int v2)], [.int (Int32.ofInt 4), .ref (p 4), .int (x180 p v2 (Int32.ofInt 2) J)], me_w (lw M L) J)) rfl k
        have k := mx_iald (v := J (p 4) 4) rfl (hp.2.2.1 4 (by omega)) ((congrArg (J (p 4)) (show (Int32.ofInt 4).toNatClampNeg = 4 from rfl)).trans (rfl)) k
        have k := ly_revb 1 (c' := (if (x180 p v2 (Int32.ofInt 2) J) = (J (p 4) 4) then 37 else 42, [(0, .ref (p 0)), (1, .int v1), (2, .int v2)], [], me_w (lw M L) J)) rfl k
        by_cases h34 : (x180 p v2 (Int32.ofInt 2) J) = (J (p 4) 4)
        · rw [if_pos h34] at k
          have k := ly_revb 2 (c' := (39, [(0, .ref (p 0)), (1, .int v1), (2, .int v2)], [.int v2, .ref (p 0)], me_w (lw M L) J)) rfl k
          obtain ⟨d1, o1, ed, kc, k⟩ := lz_c (g := 191) (q := 1) (vs := [.ref (p 0), .int v2]) (rest := []) rfl rfl (by decide) (Or.inr (Or.inl ⟨_, rfl, rfl⟩)) rfl k
          have e1 := xt191 (xs_lp hp) hc.1 kc
          subst e1
          have k : nt_rn X _ 190 (42, [(0, .ref (p 0)), (1, .int v1), (2, .int v2)], [], me_w (lw M L) (x191 p v2 J)) _ := k
          have k := ly_revb 2 (c' := (2, [(2, .int (v2 + (Int32.ofInt 1))), (0, .ref (p 0)), (1, .int v1)], [], me_w (lw M L) (x191 p v2 J))) rfl k
          have k := nt_rn_w (a := [(2, .int (v2 + (Int32.ofInt 1))), (0, .ref (p 0)), (1, .int v1)]) (b := [(0, .ref (p 0)), (1, .int v1), (2, .int (v2 + (Int32.ofInt 1)))]) ⟨rfl, rfl, rfl, trivial⟩ rfl k
          have k := ih (v2 + (Int32.ofInt 1)) (x191 p v2 J) (xk_pa (by omega) (xw_191 hc.1 (xi_l7 hc.1 h9 hc.2.1)) h9 hc.2.1 hc.2.2) k
          rw [k, x190_2, if_neg h9, if_pos h19, if_pos h34]
        · rw [if_neg h34] at k
          have k := ly_revb 2 (c' := (2, [(2, .int (v2 + (Int32.ofInt 1))), (0, .ref (p 0)), (1, .int v1)], [], me_w (lw M L) J)) rfl k
          have k := nt_rn_w (a := [(2, .int (v2 + (Int32.ofInt 1))), (0, .ref (p 0)), (1, .int v1)]) (b := [(0, .ref (p 0)), (1, .int v1), (2, .int (v2 + (Int32.ofInt 1)))]) ⟨rfl, rfl, rfl, trivial⟩ rfl k
          have k := ih (v2 + (Int32.ofInt 1)) J (xk_dec hc.1 h9 hc.2.1 hc.2.2) k
          rw [k, x190_2, if_neg h9, if_pos h19, if_neg h34]
      · rw [if_neg h19] at k
        have k := ly_revb 2 (c' := (2, [(2, .int (v2 + (Int32.ofInt 1))), (0, .ref (p 0)), (1, .int v1)], [], me_w (lw M L) J)) rfl k
        have k := nt_rn_w (a := [(2, .int (v2 + (Int32.ofInt 1))), (0, .ref (p 0)), (1, .int v1)]) (b := [(0, .ref (p 0)), (1, .int v1), (2, .int (v2 + (Int32.ofInt 1)))]) ⟨rfl, rfl, rfl, trivial⟩ rfl k
        have k := ih (v2 + (Int32.ofInt 1)) J (xk_dec hc.1 h9 hc.2.1 hc.2.2) k
        rw [k, x190_2, if_neg h9, if_neg h19]
theorem x190_2_rule {p : Nat → Nat} {v1 : Int32} {L : Nat → Nat → Int64} {I : Nat → Int32 → (Nat → Nat → Int32) → Prop} {Q : (Nat → Nat → Int32) × (Nat → Nat → Int64) → Prop} (h0 : ∀ (v2 : Int32) (J : Nat → Nat → Int32), I 0 v2 J → Q (x190_50 p v1 ((J (p 4) 3).toNatClampNeg) (Int32.ofInt 0) J L)) (h1 : ∀ (c : Nat) (v2 : Int32) (J : Nat → Nat → Int32), I (c + 1) v2 J →
    if (J (p 4) 3) ≤ v2 then (Q (x190_50 p v1 ((J (p 4) 3).toNatClampNeg) (Int32.ofInt 0) J L))
    else if (x180 p v2 (Int32.ofInt 4) J) = (Int32.ofInt 1) then if (x180 p v2 (Int32.ofInt 2) J) = (J (p 4) 4) then (I c (v2 + (Int32.ofInt 1)) (x191 p v2 J))
        else (I c (v2 + (Int32.ofInt 1)) J)
      else (I c (v2 + (Int32.ofInt 1)) J)) : ∀ (c : Nat) (v2 : Int32) (J : Nat → Nat → Int32), I c v2 J → Q (x190_2 p v1 L c v2 J) := by
  intro c
  induction c with
  | zero =>
    intro v2 J hi
    rw [x190_2]
    exact h0 v2 J hi
  | succ c ih =>
    intro v2 J hi
    have hi := h1 c v2 J hi
    rw [x190_2]
    by_cases h : (J (p 4) 3) ≤ v2
    · rw [if_pos h] at hi ⊢
      exact hi
    · rw [if_neg h] at hi ⊢
      by_cases h : (x180 p v2 (Int32.ofInt 4) J) = (Int32.ofInt 1)
      · rw [if_pos h] at hi ⊢
        by_cases h : (x180 p v2 (Int32.ofInt 2) J) = (J (p 4) 4)
        · rw [if_pos h] at hi ⊢
          exact ih _ _ hi
        · rw [if_neg h] at hi ⊢
          exact ih _ _ hi
      · rw [if_neg h] at hi ⊢
        exact ih _ _ hi
def x190 (p : Nat → Nat) (v1 : Int32) (J : Nat → Nat → Int32) (L : Nat → Nat → Int64) : (Nat → Nat → Int32) × (Nat → Nat → Int64) := (x190_2 p v1 L ((J (p 4) 3).toNatClampNeg) (Int32.ofInt 0) J)
theorem xt190 {X : nt_X} {d : Nat} {M : nt_M} {o : Option Value × nt_M} {p : Nat → Nat} {v1 : Int32} {J : Nat → Nat → Int32} {L : Nat → Nat → Int64} (hp : xs_P M p) (hw : xr_W (J (p 4))) (k : nt_ev X d 190 [.ref (p 0), .int v1] (me_w (lw M L) J) o) : o = (none, me_w (lw M ((x190 p v1 J L).2)) ((x190 p v1 J L).1)) := by
  have k : nt_rn X d 190 (0, [(0, .ref (p 0)), (1, .int v1)], [], me_w (lw M L) J) o := k
  have k := ly_revb 2 (c' := (2, [(2, .int (Int32.ofInt 0)), (0, .ref (p 0)), (1, .int v1)], [], me_w (lw M L) J)) rfl k
  have k := nt_rn_w (a := [(2, .int (Int32.ofInt 0)), (0, .ref (p 0)), (1, .int v1)]) (b := [(0, .ref (p 0)), (1, .int v1), (2, .int (Int32.ofInt 0))]) ⟨rfl, rfl, rfl, trivial⟩ rfl k
  have k := xt190_2 hp  ((J (p 4) 3).toNatClampNeg) (Int32.ofInt 0) J (⟨hw, by decide, lx_beg (by decide)⟩) k
  rw [k, x190]
theorem x190_108_frJ {p : Nat → Nat} {L : Nat → Nat → Int64} {b : Nat} : ∀ (c : Nat) (v2 : Int32) (J : Nat → Nat → Int32), b ≠ p 0 → b ≠ p 4 → (x190_108 p L c v2 J).1 b = J b := by
  intro c
  induction c with
  | zero =>
    intro v2 J n0 n1
    rw [x190_108]
    all_goals first | (dsimp only; exact (show (nt_u (nt_u J (p 4) 4 ((J (p 4) 4) + (Int32.ofInt 1))) (p 4) 6 (Int32.ofInt 0)) b = J b from (mu_o n1).trans (mu_o n1))) | exact (show (nt_u (nt_u J (p 4) 4 ((J (p 4) 4) + (Int32.ofInt 1))) (p 4) 6 (Int32.ofInt 0)) b = J b from (mu_o n1).trans (mu_o n1))
  | succ c ih =>
    intro v2 J n0 n1
    rw [x190_108]
    by_cases h : (J (p 4) 1) ≤ v2
    · rw [if_pos h]
      all_goals first | (dsimp only; exact (show (nt_u (nt_u J (p 4) 4 ((J (p 4) 4) + (Int32.ofInt 1))) (p 4) 6 (Int32.ofInt 0)) b = J b from (mu_o n1).trans (mu_o n1))) | exact (show (nt_u (nt_u J (p 4) 4 ((J (p 4) 4) + (Int32.ofInt 1))) (p 4) 6 (Int32.ofInt 0)) b = J b from (mu_o n1).trans (mu_o n1))
    · rw [if_neg h]
      by_cases h : (x169 p v2 (Int32.ofInt 4) J) = (Int32.ofInt 1)
      · rw [if_pos h]
        exact (ih _ _ n0 n1).trans (x202_frJ  n1)
      · rw [if_neg h]
        exact (ih _ _ n0 n1).trans (rfl)
theorem x190_50_frJ {p : Nat → Nat} {v1 : Int32} {b : Nat} : ∀ (c : Nat) (v2 : Int32) (J : Nat → Nat → Int32) (L : Nat → Nat → Int64), b ≠ p 0 → b ≠ p 4 → (x190_50 p v1 c v2 J L).1 b = J b := by
  intro c
  induction c with
  | zero =>
    intro v2 J L n0 n1
    rw [x190_50]
    exact (x190_108_frJ _ _ _ n0 n1).trans (rfl)
  | succ c ih =>
    intro v2 J L n0 n1
    rw [x190_50]
    by_cases h : (J (p 4) 3) ≤ v2
    · rw [if_pos h]
      exact (x190_108_frJ _ _ _ n0 n1).trans (rfl)
    · rw [if_neg h]
      by_cases h : (x180 p v2 (Int32.ofInt 1) J) = (J (p 4) 4)
      · rw [if_pos h]
        by_cases h : (x182 p (x180 p v2 (Int32.ofInt 0) J) J) = 0
        · rw [if_pos h]
          exact (ih _ _ _ n0 n1).trans (rfl)
        · rw [if_neg h]
          exact (ih _ _ _ n0 n1).trans (x192_frJ  n0 n1)
      · rw [if_neg h]
        exact (ih _ _ _ n0 n1).trans (rfl)
theorem x190_2_frJ {p : Nat → Nat} {v1 : Int32} {L : Nat → Nat → Int64} {b : Nat} : ∀ (c : Nat) (v2 : Int32) (J : Nat → Nat → Int32), b ≠ p 0 → b ≠ p 4 → (x190_2 p v1 L c v2 J).1 b = J b := by
  intro c
  induction c with
  | zero =>
    intro v2 J n0 n1
    rw [x190_2]
    exact (x190_50_frJ _ _ _ _ n0 n1).trans (rfl)
  | succ c ih =>
    intro v2 J n0 n1
    rw [x190_2]
    by_cases h : (J (p 4) 3) ≤ v2
    · rw [if_pos h]
      exact (x190_50_frJ _ _ _ _ n0 n1).trans (rfl)
    · rw [if_neg h]
      by_cases h : (x180 p v2 (Int32.ofInt 4) J) = (Int32.ofInt 1)
      · rw [if_pos h]
        by_cases h : (x180 p v2 (Int32.ofInt 2) J) = (J (p 4) 4)
        · rw [if_pos h]
          exact (ih _ _ n0 n1).trans (x191_frJ  n1)
        · rw [if_neg h]
          exact (ih _ _ n0 n1).trans (rfl)
      · rw [if_neg h]
        exact (ih _ _ n0 n1).trans (rfl)
theorem x190_frJ {p : Nat → Nat} {v1 : Int32} {J : Nat → Nat → Int32} {L : Nat → Nat → Int64} {b : Nat} (n0 : b ≠ p 0) (n1 : b ≠ p 4) : (x190 p v1 J L).1 b = J b := by
  unfold x190
  exact (x190_2_frJ _ _ _ n0 n1).trans (rfl)
theorem x190_108_frL {p : Nat → Nat} {L : Nat → Nat → Int64} {b : Nat} : ∀ (c : Nat) (v2 : Int32) (J : Nat → Nat → Int32), b ≠ p 5 → b ≠ p 6 → (x190_108 p L c v2 J).2 b = L b := by
  intro c
  induction c with
  | zero =>
    intro v2 J n0 n1
    rw [x190_108]
    all_goals first | (dsimp only; exact (show L b = L b from rfl)) | exact (show L b = L b from rfl)
  | succ c ih =>
    intro v2 J n0 n1
    rw [x190_108]
    by_cases h : (J (p 4) 1) ≤ v2
    · rw [if_pos h]
      all_goals first | (dsimp only; exact (show L b = L b from rfl)) | exact (show L b = L b from rfl)
    · rw [if_neg h]
      by_cases h : (x169 p v2 (Int32.ofInt 4) J) = (Int32.ofInt 1)
      · rw [if_pos h]
        exact (ih _ _ n0 n1).trans (rfl)
      · rw [if_neg h]
        exact (ih _ _ n0 n1).trans (rfl)
theorem x190_50_frL {p : Nat → Nat} {v1 : Int32} {b : Nat} : ∀ (c : Nat) (v2 : Int32) (J : Nat → Nat → Int32) (L : Nat → Nat → Int64), b ≠ p 5 → b ≠ p 6 → (x190_50 p v1 c v2 J L).2 b = L b := by
  intro c
  induction c with
  | zero =>
    intro v2 J L n0 n1
    rw [x190_50]
    exact (x190_108_frL _ _ _ n0 n1).trans (rfl)
  | succ c ih =>
    intro v2 J L n0 n1
    rw [x190_50]
    by_cases h : (J (p 4) 3) ≤ v2
    · rw [if_pos h]
      exact (x190_108_frL _ _ _ n0 n1).trans (rfl)
    · rw [if_neg h]
      by_cases h : (x180 p v2 (Int32.ofInt 1) J) = (J (p 4) 4)
      · rw [if_pos h]
        by_cases h : (x182 p (x180 p v2 (Int32.ofInt 0) J) J) = 0
        · rw [if_pos h]
          exact (ih _ _ _ n0 n1).trans (rfl)
        · rw [if_neg h]
          exact (ih _ _ _ n0 n1).trans (x192_frL n0 n1)
      · rw [if_neg h]
        exact (ih _ _ _ n0 n1).trans (rfl)
theorem x190_2_frL {p : Nat → Nat} {v1 : Int32} {L : Nat → Nat → Int64} {b : Nat} : ∀ (c : Nat) (v2 : Int32) (J : Nat → Nat → Int32), b ≠ p 5 → b ≠ p 6 → (x190_2 p v1 L c v2 J).2 b = L b := by
  intro c
  induction c with
  | zero =>
    intro v2 J n0 n1
    rw [x190_2]
    exact (x190_50_frL _ _ _ _ n0 n1).trans (rfl)
  | succ c ih =>
    intro v2 J n0 n1
    rw [x190_2]
    by_cases h : (J (p 4) 3) ≤ v2
    · rw [if_pos h]
      exact (x190_50_frL _ _ _ _ n0 n1).trans (rfl)
    · rw [if_neg h]
      by_cases h : (x180 p v2 (Int32.ofInt 4) J) = (Int32.ofInt 1)
      · rw [if_pos h]
        by_cases h : (x180 p v2 (Int32.ofInt 2) J) = (J (p 4) 4)
        · rw [if_pos h]
          exact (ih _ _ n0 n1).trans (rfl)
        · rw [if_neg h]
          exact (ih _ _ n0 n1).trans (rfl)
      · rw [if_neg h]
        exact (ih _ _ n0 n1).trans (rfl)
theorem x190_frL {p : Nat → Nat} {v1 : Int32} {J : Nat → Nat → Int32} {L : Nat → Nat → Int64} {b : Nat} (n0 : b ≠ p 5) (n1 : b ≠ p 6) : (x190 p v1 J L).2 b = L b := by
  unfold x190
  exact (x190_2_frL _ _ _ n0 n1).trans (rfl)
end
section
/-! calls of one state -/
theorem xs_x31 {M : nt_M} {p : Nat → Nat} (hp : xs_P M p) : xs_X p (fun i => p (31 + i)) := fun i j hi hj => hp.2.1 (31 + i) j (by omega) (by omega) (by omega)
theorem xs_x48 {M : nt_M} {p : Nat → Nat} (hp : xs_P M p) : xs_X p (fun i => p (48 + i)) := fun i j hi hj => hp.2.1 (48 + i) j (by omega) (by omega) (by omega)
/-! Model.in -/
def x145 (v0 : Int64) (v2 : Int64) (v4 : Int64) : Int32 := if (lg_cmp v0 v2) < 0 then (Int32.ofInt 0)
  else if 0 < (lg_cmp v0 v4) then (Int32.ofInt 0)
    else (Int32.ofInt 1)
theorem xt145 {X : nt_X} {d : Nat} {M : nt_M} {o : Option Value × nt_M} {v0 : Int64} {v2 : Int64} {v4 : Int64} {J : Nat → Nat → Int32}  (k : nt_ev X d 145 [.long v0, .long v2, .long v4] (me_w M J) o) : o = (some (.int (x145 v0 v2 v4)), me_w M J) := by
  have k : nt_rn X d 145 (0, [(0, .long v0), (2, .long v2), (4, .long v4)], [], me_w M J) o := k
  have k := ly_revb 4 (c' := (if (lg_cmp v0 v2) < 0 then 17 else 6, [(0, .long v0), (2, .long v2), (4, .long v4)], [], me_w M J)) rfl k
  by_cases h3 : (lg_cmp v0 v2) < 0
  · rw [if_pos h3] at k
    have k := ly_revb 1 (c' := (18, [(0, .long v0), (2, .long v2), (4, .long v4)], [.int (Int32.ofInt 0)], me_w M J)) rfl k
    have k := lz_ri rfl (by decide) k
    rw [k, x145, if_pos h3]
  · rw [if_neg h3] at k
    have k := ly_revb 4 (c' := (if 0 < (lg_cmp v0 v4) then 17 else 13, [(0, .long v0), (2, .long v2), (4, .long v4)], [], me_w M J)) rfl k
    by_cases h10 : 0 < (lg_cmp v0 v4)
    · rw [if_pos h10] at k
      have k := ly_revb 1 (c' := (18, [(0, .long v0), (2, .long v2), (4, .long v4)], [.int (Int32.ofInt 0)], me_w M J)) rfl k
      have k := lz_ri rfl (by decide) k
      rw [k, x145, if_neg h3, if_pos h10]
    · rw [if_neg h10] at k
      have k := ly_revb 2 (c' := (18, [(0, .long v0), (2, .long v2), (4, .long v4)], [.int (Int32.ofInt 1)], me_w M J)) rfl k
      have k := lz_ri rfl (by decide) k
      rw [k, x145, if_neg h3, if_neg h10]
/-! Model.isPlank -/
def x177 (p : Nat → Nat) (v1 : Int32) (J : Nat → Nat → Int32) : Int32 := if v1 < 0 then (Int32.ofInt 0)
  else if (J (p 4) 2) ≤ v1 then (Int32.ofInt 0)
    else (Int32.ofInt 1)
theorem xt177 {X : nt_X} {d : Nat} {M : nt_M} {o : Option Value × nt_M} {p : Nat → Nat} {v1 : Int32} {J : Nat → Nat → Int32} (hp : xs_P M p) (k : nt_ev X d 177 [.ref (p 0), .int v1] (me_w M J) o) : o = (some (.int (x177 p v1 J)), me_w M J) := by
  have k : nt_rn X d 177 (0, [(0, .ref (p 0)), (1, .int v1)], [], me_w M J) o := k
  have k := ly_revb 2 (c' := (if v1 < 0 then 18 else 4, [(0, .ref (p 0)), (1, .int v1)], [], me_w M J)) rfl k
  by_cases h1 : v1 < 0
  · rw [if_pos h1] at k
    have k := ly_revb 1 (c' := (19, [(0, .ref (p 0)), (1, .int v1)], [.int (Int32.ofInt 0)], me_w M J)) rfl k
    have k := lz_ri rfl (by decide) k
    rw [k, x177, if_pos h1]
  · rw [if_neg h1] at k
    have k := ly_revb 2 (c' := (6, [(0, .ref (p 0)), (1, .int v1)], [.ref (p 0), .int v1], me_w M J)) rfl k
    have k := lz_get (a := (p 0)) (g := 1127) (M := me_w M J) (v := .ref (p 4)) rfl (nt_gfR rfl (hp.1 (0, 27, 4) (by decide))) k
    have k := ly_revb 1 (c' := (10, [(0, .ref (p 0)), (1, .int v1)], [.int (Int32.ofInt 2), .ref (p 4), .int v1], me_w M J)) rfl k
    have k := mx_iald (v := J (p 4) 2) rfl (hp.2.2.1 4 (by omega)) ((congrArg (J (p 4)) (show (Int32.ofInt 2).toNatClampNeg = 2 from rfl)).trans (rfl)) k
    have k := ly_revb 1 (c' := (if (J (p 4) 2) ≤ v1 then 18 else 14, [(0, .ref (p 0)), (1, .int v1)], [], me_w M J)) rfl k
    by_cases h11 : (J (p 4) 2) ≤ v1
    · rw [if_pos h11] at k
      have k := ly_revb 1 (c' := (19, [(0, .ref (p 0)), (1, .int v1)], [.int (Int32.ofInt 0)], me_w M J)) rfl k
      have k := lz_ri rfl (by decide) k
      rw [k, x177, if_neg h1, if_pos h11]
    · rw [if_neg h11] at k
      have k := ly_revb 2 (c' := (19, [(0, .ref (p 0)), (1, .int v1)], [.int (Int32.ofInt 1)], me_w M J)) rfl k
      have k := lz_ri rfl (by decide) k
      rw [k, x177, if_neg h1, if_neg h11]
/-! Model.isVoyage -/
def x179 (p : Nat → Nat) (v1 : Int32) (J : Nat → Nat → Int32) : Int32 := if v1 < 0 then (Int32.ofInt 0)
  else if (J (p 4) 3) ≤ v1 then (Int32.ofInt 0)
    else (Int32.ofInt 1)
theorem xt179 {X : nt_X} {d : Nat} {M : nt_M} {o : Option Value × nt_M} {p : Nat → Nat} {v1 : Int32} {J : Nat → Nat → Int32} (hp : xs_P M p) (k : nt_ev X d 179 [.ref (p 0), .int v1] (me_w M J) o) : o = (some (.int (x179 p v1 J)), me_w M J) := by
  have k : nt_rn X d 179 (0, [(0, .ref (p 0)), (1, .int v1)], [], me_w M J) o := k
  have k := ly_revb 2 (c' := (if v1 < 0 then 18 else 4, [(0, .ref (p 0)), (1, .int v1)], [], me_w M J)) rfl k
  by_cases h1 : v1 < 0
  · rw [if_pos h1] at k
    have k := ly_revb 1 (c' := (19, [(0, .ref (p 0)), (1, .int v1)], [.int (Int32.ofInt 0)], me_w M J)) rfl k
    have k := lz_ri rfl (by decide) k
    rw [k, x179, if_pos h1]
  · rw [if_neg h1] at k
    have k := ly_revb 2 (c' := (6, [(0, .ref (p 0)), (1, .int v1)], [.ref (p 0), .int v1], me_w M J)) rfl k
    have k := lz_get (a := (p 0)) (g := 1127) (M := me_w M J) (v := .ref (p 4)) rfl (nt_gfR rfl (hp.1 (0, 27, 4) (by decide))) k
    have k := ly_revb 1 (c' := (10, [(0, .ref (p 0)), (1, .int v1)], [.int (Int32.ofInt 3), .ref (p 4), .int v1], me_w M J)) rfl k
    have k := mx_iald (v := J (p 4) 3) rfl (hp.2.2.1 4 (by omega)) ((congrArg (J (p 4)) (show (Int32.ofInt 3).toNatClampNeg = 3 from rfl)).trans (rfl)) k
    have k := ly_revb 1 (c' := (if (J (p 4) 3) ≤ v1 then 18 else 14, [(0, .ref (p 0)), (1, .int v1)], [], me_w M J)) rfl k
    by_cases h11 : (J (p 4) 3) ≤ v1
    · rw [if_pos h11] at k
      have k := ly_revb 1 (c' := (19, [(0, .ref (p 0)), (1, .int v1)], [.int (Int32.ofInt 0)], me_w M J)) rfl k
      have k := lz_ri rfl (by decide) k
      rw [k, x179, if_neg h1, if_pos h11]
    · rw [if_neg h11] at k
      have k := ly_revb 2 (c' := (19, [(0, .ref (p 0)), (1, .int v1)], [.int (Int32.ofInt 1)], me_w M J)) rfl k
      have k := lz_ri rfl (by decide) k
      rw [k, x179, if_neg h1, if_neg h11]
/-! Model.isShip -/
def x168 (p : Nat → Nat) (v1 : Int32) (J : Nat → Nat → Int32) : Int32 := if v1 < 0 then (Int32.ofInt 0)
  else if (J (p 4) 1) ≤ v1 then (Int32.ofInt 0)
    else (Int32.ofInt 1)
theorem xt168 {X : nt_X} {d : Nat} {M : nt_M} {o : Option Value × nt_M} {p : Nat → Nat} {v1 : Int32} {J : Nat → Nat → Int32} (hp : xs_P M p) (k : nt_ev X d 168 [.ref (p 0), .int v1] (me_w M J) o) : o = (some (.int (x168 p v1 J)), me_w M J) := by
  have k : nt_rn X d 168 (0, [(0, .ref (p 0)), (1, .int v1)], [], me_w M J) o := k
  have k := ly_revb 2 (c' := (if v1 < 0 then 18 else 4, [(0, .ref (p 0)), (1, .int v1)], [], me_w M J)) rfl k
  by_cases h1 : v1 < 0
  · rw [if_pos h1] at k
    have k := ly_revb 1 (c' := (19, [(0, .ref (p 0)), (1, .int v1)], [.int (Int32.ofInt 0)], me_w M J)) rfl k
    have k := lz_ri rfl (by decide) k
    rw [k, x168, if_pos h1]
  · rw [if_neg h1] at k
    have k := ly_revb 2 (c' := (6, [(0, .ref (p 0)), (1, .int v1)], [.ref (p 0), .int v1], me_w M J)) rfl k
    have k := lz_get (a := (p 0)) (g := 1127) (M := me_w M J) (v := .ref (p 4)) rfl (nt_gfR rfl (hp.1 (0, 27, 4) (by decide))) k
    have k := ly_revb 1 (c' := (10, [(0, .ref (p 0)), (1, .int v1)], [.int (Int32.ofInt 1), .ref (p 4), .int v1], me_w M J)) rfl k
    have k := mx_iald (v := J (p 4) 1) rfl (hp.2.2.1 4 (by omega)) ((congrArg (J (p 4)) (show (Int32.ofInt 1).toNatClampNeg = 1 from rfl)).trans (rfl)) k
    have k := ly_revb 1 (c' := (if (J (p 4) 1) ≤ v1 then 18 else 14, [(0, .ref (p 0)), (1, .int v1)], [], me_w M J)) rfl k
    by_cases h11 : (J (p 4) 1) ≤ v1
    · rw [if_pos h11] at k
      have k := ly_revb 1 (c' := (19, [(0, .ref (p 0)), (1, .int v1)], [.int (Int32.ofInt 0)], me_w M J)) rfl k
      have k := lz_ri rfl (by decide) k
      rw [k, x168, if_neg h1, if_pos h11]
    · rw [if_neg h11] at k
      have k := ly_revb 2 (c' := (19, [(0, .ref (p 0)), (1, .int v1)], [.int (Int32.ofInt 1)], me_w M J)) rfl k
      have k := lz_ri rfl (by decide) k
      rw [k, x168, if_neg h1, if_neg h11]
/-! Model.plank -/
def x176 (p : Nat → Nat) (v1 : Int32) (v2 : Int32) (J : Nat → Nat → Int32) : Int32 := if (x177 p v1 J) = 0 then (Int32.ofInt (-2))
  else if (x145 v2.toInt64 (Int64.ofNat 0) 4) = 0 then (Int32.ofInt (-2))
    else (x173 p v1 v2 J)
theorem xt176 {X : nt_X} {d : Nat} {M : nt_M} {o : Option Value × nt_M} {p : Nat → Nat} {v1 : Int32} {v2 : Int32} {J : Nat → Nat → Int32} (hp : xs_P M p) (k : nt_ev X d 176 [.ref (p 0), .int v1, .int v2] (me_w M J) o) : o = (some (.int (x176 p v1 v2 J)), me_w M J) := by
  have k : nt_rn X d 176 (0, [(0, .ref (p 0)), (1, .int v1), (2, .int v2)], [], me_w M J) o := k
  have k := ly_revb 2 (c' := (2, [(0, .ref (p 0)), (1, .int v1), (2, .int v2)], [.int v1, .ref (p 0)], me_w M J)) rfl k
  obtain ⟨d1, o1, ed, kc, k⟩ := lz_c (g := 177) (q := 1) (vs := [.ref (p 0), .int v1]) (rest := []) rfl rfl (by decide) (Or.inr (Or.inl ⟨_, rfl, rfl⟩)) rfl k
  have e1 := xt177 hp kc
  subst e1
  have k : nt_rn X _ 176 (5, [(0, .ref (p 0)), (1, .int v1), (2, .int v2)], [.int (x177 p v1 J)], me_w M J) _ := k
  have k := ly_revb 1 (c' := (if (x177 p v1 J) = 0 then 29 else 8, [(0, .ref (p 0)), (1, .int v1), (2, .int v2)], [], me_w M J)) rfl k
  by_cases h5 : (x177 p v1 J) = 0
  · rw [if_pos h5] at k
    have k := ly_revb 1 (c' := (31, [(0, .ref (p 0)), (1, .int v1), (2, .int v2)], [.int (Int32.ofInt (-2))], me_w M J)) rfl k
    have k := lz_ri rfl (by decide) k
    rw [k, x176, if_pos h5]
  · rw [if_neg h5] at k
    have k := ly_revb 4 (c' := (14, [(0, .ref (p 0)), (1, .int v1), (2, .int v2)], [.long 4, .long (Int64.ofNat 0), .long v2.toInt64], me_w M J)) rfl k
    obtain ⟨d1, o1, ed, kc, k⟩ := lz_c (g := 145) (q := 0) (vs := [.long v2.toInt64, .long (Int64.ofNat 0), .long 4]) (rest := []) rfl rfl (by decide) (Or.inl ⟨_, rfl, rfl⟩) rfl k
    have e1 := xt145  kc
    subst e1
    have k : nt_rn X _ 176 (17, [(0, .ref (p 0)), (1, .int v1), (2, .int v2)], [.int (x145 v2.toInt64 (Int64.ofNat 0) 4)], me_w M J) _ := k
    have k := ly_revb 1 (c' := (if (x145 v2.toInt64 (Int64.ofNat 0) 4) = 0 then 29 else 20, [(0, .ref (p 0)), (1, .int v1), (2, .int v2)], [], me_w M J)) rfl k
    by_cases h17 : (x145 v2.toInt64 (Int64.ofNat 0) 4) = 0
    · rw [if_pos h17] at k
      have k := ly_revb 1 (c' := (31, [(0, .ref (p 0)), (1, .int v1), (2, .int v2)], [.int (Int32.ofInt (-2))], me_w M J)) rfl k
      have k := lz_ri rfl (by decide) k
      rw [k, x176, if_neg h5, if_pos h17]
    · rw [if_neg h17] at k
      have k := ly_revb 3 (c' := (23, [(0, .ref (p 0)), (1, .int v1), (2, .int v2)], [.int v2, .int v1, .ref (p 0)], me_w M J)) rfl k
      obtain ⟨d1, o1, ed, kc, k⟩ := lz_c (g := 173) (q := 1) (vs := [.ref (p 0), .int v1, .int v2]) (rest := []) rfl rfl (by decide) (Or.inr (Or.inl ⟨_, rfl, rfl⟩)) rfl k
      have e1 := xt173 hp kc
      subst e1
      have k : nt_rn X _ 176 (26, [(0, .ref (p 0)), (1, .int v1), (2, .int v2)], [.int (x173 p v1 v2 J)], me_w M J) _ := k
      have k := ly_revb 1 (c' := (31, [(0, .ref (p 0)), (1, .int v1), (2, .int v2)], [.int (x173 p v1 v2 J)], me_w M J)) rfl k
      have k := lz_ri rfl (by decide) k
      rw [k, x176, if_neg h5, if_neg h17]
/-! Model.voyage -/
def x178 (p : Nat → Nat) (v1 : Int32) (v2 : Int32) (J : Nat → Nat → Int32) : Int32 := if (x179 p v1 J) = 0 then (Int32.ofInt (-1))
  else if (x145 v2.toInt64 (Int64.ofNat 0) 4) = 0 then (Int32.ofInt (-1))
    else (x180 p v1 v2 J)
theorem xt178 {X : nt_X} {d : Nat} {M : nt_M} {o : Option Value × nt_M} {p : Nat → Nat} {v1 : Int32} {v2 : Int32} {J : Nat → Nat → Int32} (hp : xs_P M p) (k : nt_ev X d 178 [.ref (p 0), .int v1, .int v2] (me_w M J) o) : o = (some (.int (x178 p v1 v2 J)), me_w M J) := by
  have k : nt_rn X d 178 (0, [(0, .ref (p 0)), (1, .int v1), (2, .int v2)], [], me_w M J) o := k
  have k := ly_revb 2 (c' := (2, [(0, .ref (p 0)), (1, .int v1), (2, .int v2)], [.int v1, .ref (p 0)], me_w M J)) rfl k
  obtain ⟨d1, o1, ed, kc, k⟩ := lz_c (g := 179) (q := 1) (vs := [.ref (p 0), .int v1]) (rest := []) rfl rfl (by decide) (Or.inr (Or.inl ⟨_, rfl, rfl⟩)) rfl k
  have e1 := xt179 hp kc
  subst e1
  have k : nt_rn X _ 178 (5, [(0, .ref (p 0)), (1, .int v1), (2, .int v2)], [.int (x179 p v1 J)], me_w M J) _ := k
  have k := ly_revb 1 (c' := (if (x179 p v1 J) = 0 then 29 else 8, [(0, .ref (p 0)), (1, .int v1), (2, .int v2)], [], me_w M J)) rfl k
  by_cases h5 : (x179 p v1 J) = 0
  · rw [if_pos h5] at k
    have k := ly_revb 1 (c' := (30, [(0, .ref (p 0)), (1, .int v1), (2, .int v2)], [.int (Int32.ofInt (-1))], me_w M J)) rfl k
    have k := lz_ri rfl (by decide) k
    rw [k, x178, if_pos h5]
  · rw [if_neg h5] at k
    have k := ly_revb 4 (c' := (14, [(0, .ref (p 0)), (1, .int v1), (2, .int v2)], [.long 4, .long (Int64.ofNat 0), .long v2.toInt64], me_w M J)) rfl k
    obtain ⟨d1, o1, ed, kc, k⟩ := lz_c (g := 145) (q := 0) (vs := [.long v2.toInt64, .long (Int64.ofNat 0), .long 4]) (rest := []) rfl rfl (by decide) (Or.inl ⟨_, rfl, rfl⟩) rfl k
    have e1 := xt145  kc
    subst e1
    have k : nt_rn X _ 178 (17, [(0, .ref (p 0)), (1, .int v1), (2, .int v2)], [.int (x145 v2.toInt64 (Int64.ofNat 0) 4)], me_w M J) _ := k
    have k := ly_revb 1 (c' := (if (x145 v2.toInt64 (Int64.ofNat 0) 4) = 0 then 29 else 20, [(0, .ref (p 0)), (1, .int v1), (2, .int v2)], [], me_w M J)) rfl k
    by_cases h17 : (x145 v2.toInt64 (Int64.ofNat 0) 4) = 0
    · rw [if_pos h17] at k
      have k := ly_revb 1 (c' := (30, [(0, .ref (p 0)), (1, .int v1), (2, .int v2)], [.int (Int32.ofInt (-1))], me_w M J)) rfl k
      have k := lz_ri rfl (by decide) k
      rw [k, x178, if_neg h5, if_pos h17]
    · rw [if_neg h17] at k
      have k := ly_revb 3 (c' := (23, [(0, .ref (p 0)), (1, .int v1), (2, .int v2)], [.int v2, .int v1, .ref (p 0)], me_w M J)) rfl k
      obtain ⟨d1, o1, ed, kc, k⟩ := lz_c (g := 180) (q := 1) (vs := [.ref (p 0), .int v1, .int v2]) (rest := []) rfl rfl (by decide) (Or.inr (Or.inl ⟨_, rfl, rfl⟩)) rfl k
      have e1 := xt180 hp kc
      subst e1
      have k : nt_rn X _ 178 (26, [(0, .ref (p 0)), (1, .int v1), (2, .int v2)], [.int (x180 p v1 v2 J)], me_w M J) _ := k
      have k := ly_revb 1 (c' := (30, [(0, .ref (p 0)), (1, .int v1), (2, .int v2)], [.int (x180 p v1 v2 J)], me_w M J)) rfl k
      have k := lz_ri rfl (by decide) k
      rw [k, x178, if_neg h5, if_neg h17]
/-! Model.move -/
def x181 (p : Nat → Nat) (v1 : Int32) (v2 : Int32) (J : Nat → Nat → Int32) : Int32 × (Nat → Nat → Int32) := if (x177 p v1 J) = 0 then (Int32.ofInt 0, J)
  else if v2 = (Int32.ofInt (-1)) then if (x183 p v1 J) = 0 then (Int32.ofInt 0, J)
      else if (x173 p v1 (Int32.ofInt 3) J) = v2 then (Int32.ofInt 0, J)
        else if (x184 p J) = 0 then (Int32.ofInt 0, J)
          else (Int32.ofInt 1, x185 p v1 v2 J)
    else if (x168 p v2 J) = 0 then (Int32.ofInt 0, J)
      else if (x182 p v2 J) = 0 then (Int32.ofInt 0, J)
        else if (x183 p v1 J) = 0 then (Int32.ofInt 0, J)
          else if (x173 p v1 (Int32.ofInt 3) J) = v2 then (Int32.ofInt 0, J)
            else if (x184 p J) = 0 then (Int32.ofInt 0, J)
              else (Int32.ofInt 1, x185 p v1 v2 J)
theorem xt181 {X : nt_X} {d : Nat} {M : nt_M} {o : Option Value × nt_M} {p : Nat → Nat} {v1 : Int32} {v2 : Int32} {J : Nat → Nat → Int32} (hp : xs_P M p) (k : nt_ev X d 181 [.ref (p 0), .int v1, .int v2] (me_w M J) o) : o = (some (.int ((x181 p v1 v2 J).1)), me_w M ((x181 p v1 v2 J).2)) := by
  have k : nt_rn X d 181 (0, [(0, .ref (p 0)), (1, .int v1), (2, .int v2)], [], me_w M J) o := k
  have k := ly_revb 2 (c' := (2, [(0, .ref (p 0)), (1, .int v1), (2, .int v2)], [.int v1, .ref (p 0)], me_w M J)) rfl k
  obtain ⟨d1, o1, ed, kc, k⟩ := lz_c (g := 177) (q := 1) (vs := [.ref (p 0), .int v1]) (rest := []) rfl rfl (by decide) (Or.inr (Or.inl ⟨_, rfl, rfl⟩)) rfl k
  have e1 := xt177 hp kc
  subst e1
  have k : nt_rn X _ 181 (5, [(0, .ref (p 0)), (1, .int v1), (2, .int v2)], [.int (x177 p v1 J)], me_w M J) _ := k
  have k := ly_revb 1 (c' := (if (x177 p v1 J) = 0 then 54 else 8, [(0, .ref (p 0)), (1, .int v1), (2, .int v2)], [], me_w M J)) rfl k
  by_cases h5 : (x177 p v1 J) = 0
  · rw [if_pos h5] at k
    have k := ly_revb 1 (c' := (55, [(0, .ref (p 0)), (1, .int v1), (2, .int v2)], [.int (Int32.ofInt 0)], me_w M J)) rfl k
    have k := lz_ri rfl (by decide) k
    rw [k, x181, if_pos h5]
  · rw [if_neg h5] at k
    have k := ly_revb 3 (c' := (if v2 = (Int32.ofInt (-1)) then 29 else 13, [(0, .ref (p 0)), (1, .int v1), (2, .int v2)], [], me_w M J)) rfl k
    by_cases h10 : v2 = (Int32.ofInt (-1))
    · rw [if_pos h10] at k
      have k := ly_revb 2 (c' := (31, [(0, .ref (p 0)), (1, .int v1), (2, .int v2)], [.int v1, .ref (p 0)], me_w M J)) rfl k
      obtain ⟨d1, o1, ed, kc, k⟩ := lz_c (g := 183) (q := 1) (vs := [.ref (p 0), .int v1]) (rest := []) rfl rfl (by decide) (Or.inr (Or.inl ⟨_, rfl, rfl⟩)) rfl k
      have e1 := xt183 hp kc
      subst e1
      have k : nt_rn X _ 181 (34, [(0, .ref (p 0)), (1, .int v1), (2, .int v2)], [.int (x183 p v1 J)], me_w M J) _ := k
      have k := ly_revb 1 (c' := (if (x183 p v1 J) = 0 then 54 else 37, [(0, .ref (p 0)), (1, .int v1), (2, .int v2)], [], me_w M J)) rfl k
      by_cases h34 : (x183 p v1 J) = 0
      · rw [if_pos h34] at k
        have k := ly_revb 1 (c' := (55, [(0, .ref (p 0)), (1, .int v1), (2, .int v2)], [.int (Int32.ofInt 0)], me_w M J)) rfl k
        have k := lz_ri rfl (by decide) k
        rw [k, x181, if_neg h5, if_pos h10, if_pos h34]
      · rw [if_neg h34] at k
        have k := ly_revb 3 (c' := (40, [(0, .ref (p 0)), (1, .int v1), (2, .int v2)], [.int (Int32.ofInt 3), .int v1, .ref (p 0)], me_w M J)) rfl k
        obtain ⟨d1, o1, ed, kc, k⟩ := lz_c (g := 173) (q := 1) (vs := [.ref (p 0), .int v1, .int (Int32.ofInt 3)]) (rest := []) rfl rfl (by decide) (Or.inr (Or.inl ⟨_, rfl, rfl⟩)) rfl k
        have e1 := xt173 hp kc
        subst e1
        have k : nt_rn X _ 181 (43, [(0, .ref (p 0)), (1, .int v1), (2, .int v2)], [.int (x173 p v1 (Int32.ofInt 3) J)], me_w M J) _ := k
        have k := ly_revb 2 (c' := (if (x173 p v1 (Int32.ofInt 3) J) = v2 then 54 else 47, [(0, .ref (p 0)), (1, .int v1), (2, .int v2)], [], me_w M J)) rfl k
        by_cases h44 : (x173 p v1 (Int32.ofInt 3) J) = v2
        · rw [if_pos h44] at k
          have k := ly_revb 1 (c' := (55, [(0, .ref (p 0)), (1, .int v1), (2, .int v2)], [.int (Int32.ofInt 0)], me_w M J)) rfl k
          have k := lz_ri rfl (by decide) k
          rw [k, x181, if_neg h5, if_pos h10, if_neg h34, if_pos h44]
        · rw [if_neg h44] at k
          have k := ly_revb 1 (c' := (48, [(0, .ref (p 0)), (1, .int v1), (2, .int v2)], [.ref (p 0)], me_w M J)) rfl k
          obtain ⟨d1, o1, ed, kc, k⟩ := lz_c (g := 184) (q := 1) (vs := [.ref (p 0)]) (rest := []) rfl rfl (by decide) (Or.inr (Or.inl ⟨_, rfl, rfl⟩)) rfl k
          have e1 := xt184 hp kc
          subst e1
          have k : nt_rn X _ 181 (51, [(0, .ref (p 0)), (1, .int v1), (2, .int v2)], [.int (x184 p J)], me_w M J) _ := k
          have k := ly_revb 1 (c' := (if (x184 p J) = 0 then 54 else 56, [(0, .ref (p 0)), (1, .int v1), (2, .int v2)], [], me_w M J)) rfl k
          by_cases h51 : (x184 p J) = 0
          · rw [if_pos h51] at k
            have k := ly_revb 1 (c' := (55, [(0, .ref (p 0)), (1, .int v1), (2, .int v2)], [.int (Int32.ofInt 0)], me_w M J)) rfl k
            have k := lz_ri rfl (by decide) k
            rw [k, x181, if_neg h5, if_pos h10, if_neg h34, if_neg h44, if_pos h51]
          · rw [if_neg h51] at k
            have k := ly_revb 3 (c' := (59, [(0, .ref (p 0)), (1, .int v1), (2, .int v2)], [.int v2, .int v1, .ref (p 0)], me_w M J)) rfl k
            obtain ⟨d1, o1, ed, kc, k⟩ := lz_c (g := 185) (q := 1) (vs := [.ref (p 0), .int v1, .int v2]) (rest := []) rfl rfl (by decide) (Or.inr (Or.inl ⟨_, rfl, rfl⟩)) rfl k
            have e1 := xt185 hp kc
            subst e1
            have k : nt_rn X _ 181 (62, [(0, .ref (p 0)), (1, .int v1), (2, .int v2)], [], me_w M (x185 p v1 v2 J)) _ := k
            have k := ly_revb 1 (c' := (63, [(0, .ref (p 0)), (1, .int v1), (2, .int v2)], [.int (Int32.ofInt 1)], me_w M (x185 p v1 v2 J))) rfl k
            have k := lz_ri rfl (by decide) k
            rw [k, x181, if_neg h5, if_pos h10, if_neg h34, if_neg h44, if_neg h51]
    · rw [if_neg h10] at k
      have k := ly_revb 2 (c' := (15, [(0, .ref (p 0)), (1, .int v1), (2, .int v2)], [.int v2, .ref (p 0)], me_w M J)) rfl k
      obtain ⟨d1, o1, ed, kc, k⟩ := lz_c (g := 168) (q := 1) (vs := [.ref (p 0), .int v2]) (rest := []) rfl rfl (by decide) (Or.inr (Or.inl ⟨_, rfl, rfl⟩)) rfl k
      have e1 := xt168 hp kc
      subst e1
      have k : nt_rn X _ 181 (18, [(0, .ref (p 0)), (1, .int v1), (2, .int v2)], [.int (x168 p v2 J)], me_w M J) _ := k
      have k := ly_revb 1 (c' := (if (x168 p v2 J) = 0 then 54 else 21, [(0, .ref (p 0)), (1, .int v1), (2, .int v2)], [], me_w M J)) rfl k
      by_cases h18 : (x168 p v2 J) = 0
      · rw [if_pos h18] at k
        have k := ly_revb 1 (c' := (55, [(0, .ref (p 0)), (1, .int v1), (2, .int v2)], [.int (Int32.ofInt 0)], me_w M J)) rfl k
        have k := lz_ri rfl (by decide) k
        rw [k, x181, if_neg h5, if_neg h10, if_pos h18]
      · rw [if_neg h18] at k
        have k := ly_revb 2 (c' := (23, [(0, .ref (p 0)), (1, .int v1), (2, .int v2)], [.int v2, .ref (p 0)], me_w M J)) rfl k
        obtain ⟨d1, o1, ed, kc, k⟩ := lz_c (g := 182) (q := 1) (vs := [.ref (p 0), .int v2]) (rest := []) rfl rfl (by decide) (Or.inr (Or.inl ⟨_, rfl, rfl⟩)) rfl k
        have e1 := xt182 hp kc
        subst e1
        have k : nt_rn X _ 181 (26, [(0, .ref (p 0)), (1, .int v1), (2, .int v2)], [.int (x182 p v2 J)], me_w M J) _ := k
        have k := ly_revb 1 (c' := (if (x182 p v2 J) = 0 then 54 else 29, [(0, .ref (p 0)), (1, .int v1), (2, .int v2)], [], me_w M J)) rfl k
        by_cases h26 : (x182 p v2 J) = 0
        · rw [if_pos h26] at k
          have k := ly_revb 1 (c' := (55, [(0, .ref (p 0)), (1, .int v1), (2, .int v2)], [.int (Int32.ofInt 0)], me_w M J)) rfl k
          have k := lz_ri rfl (by decide) k
          rw [k, x181, if_neg h5, if_neg h10, if_neg h18, if_pos h26]
        · rw [if_neg h26] at k
          have k := ly_revb 2 (c' := (31, [(0, .ref (p 0)), (1, .int v1), (2, .int v2)], [.int v1, .ref (p 0)], me_w M J)) rfl k
          obtain ⟨d1, o1, ed, kc, k⟩ := lz_c (g := 183) (q := 1) (vs := [.ref (p 0), .int v1]) (rest := []) rfl rfl (by decide) (Or.inr (Or.inl ⟨_, rfl, rfl⟩)) rfl k
          have e1 := xt183 hp kc
          subst e1
          have k : nt_rn X _ 181 (34, [(0, .ref (p 0)), (1, .int v1), (2, .int v2)], [.int (x183 p v1 J)], me_w M J) _ := k
          have k := ly_revb 1 (c' := (if (x183 p v1 J) = 0 then 54 else 37, [(0, .ref (p 0)), (1, .int v1), (2, .int v2)], [], me_w M J)) rfl k
          by_cases h34 : (x183 p v1 J) = 0
          · rw [if_pos h34] at k
            have k := ly_revb 1 (c' := (55, [(0, .ref (p 0)), (1, .int v1), (2, .int v2)], [.int (Int32.ofInt 0)], me_w M J)) rfl k
            have k := lz_ri rfl (by decide) k
            rw [k, x181, if_neg h5, if_neg h10, if_neg h18, if_neg h26, if_pos h34]
          · rw [if_neg h34] at k
            have k := ly_revb 3 (c' := (40, [(0, .ref (p 0)), (1, .int v1), (2, .int v2)], [.int (Int32.ofInt 3), .int v1, .ref (p 0)], me_w M J)) rfl k
            obtain ⟨d1, o1, ed, kc, k⟩ := lz_c (g := 173) (q := 1) (vs := [.ref (p 0), .int v1, .int (Int32.ofInt 3)]) (rest := []) rfl rfl (by decide) (Or.inr (Or.inl ⟨_, rfl, rfl⟩)) rfl k
            have e1 := xt173 hp kc
            subst e1
            have k : nt_rn X _ 181 (43, [(0, .ref (p 0)), (1, .int v1), (2, .int v2)], [.int (x173 p v1 (Int32.ofInt 3) J)], me_w M J) _ := k
            have k := ly_revb 2 (c' := (if (x173 p v1 (Int32.ofInt 3) J) = v2 then 54 else 47, [(0, .ref (p 0)), (1, .int v1), (2, .int v2)], [], me_w M J)) rfl k
            by_cases h44 : (x173 p v1 (Int32.ofInt 3) J) = v2
            · rw [if_pos h44] at k
              have k := ly_revb 1 (c' := (55, [(0, .ref (p 0)), (1, .int v1), (2, .int v2)], [.int (Int32.ofInt 0)], me_w M J)) rfl k
              have k := lz_ri rfl (by decide) k
              rw [k, x181, if_neg h5, if_neg h10, if_neg h18, if_neg h26, if_neg h34, if_pos h44]
            · rw [if_neg h44] at k
              have k := ly_revb 1 (c' := (48, [(0, .ref (p 0)), (1, .int v1), (2, .int v2)], [.ref (p 0)], me_w M J)) rfl k
              obtain ⟨d1, o1, ed, kc, k⟩ := lz_c (g := 184) (q := 1) (vs := [.ref (p 0)]) (rest := []) rfl rfl (by decide) (Or.inr (Or.inl ⟨_, rfl, rfl⟩)) rfl k
              have e1 := xt184 hp kc
              subst e1
              have k : nt_rn X _ 181 (51, [(0, .ref (p 0)), (1, .int v1), (2, .int v2)], [.int (x184 p J)], me_w M J) _ := k
              have k := ly_revb 1 (c' := (if (x184 p J) = 0 then 54 else 56, [(0, .ref (p 0)), (1, .int v1), (2, .int v2)], [], me_w M J)) rfl k
              by_cases h51 : (x184 p J) = 0
              · rw [if_pos h51] at k
                have k := ly_revb 1 (c' := (55, [(0, .ref (p 0)), (1, .int v1), (2, .int v2)], [.int (Int32.ofInt 0)], me_w M J)) rfl k
                have k := lz_ri rfl (by decide) k
                rw [k, x181, if_neg h5, if_neg h10, if_neg h18, if_neg h26, if_neg h34, if_neg h44, if_pos h51]
              · rw [if_neg h51] at k
                have k := ly_revb 3 (c' := (59, [(0, .ref (p 0)), (1, .int v1), (2, .int v2)], [.int v2, .int v1, .ref (p 0)], me_w M J)) rfl k
                obtain ⟨d1, o1, ed, kc, k⟩ := lz_c (g := 185) (q := 1) (vs := [.ref (p 0), .int v1, .int v2]) (rest := []) rfl rfl (by decide) (Or.inr (Or.inl ⟨_, rfl, rfl⟩)) rfl k
                have e1 := xt185 hp kc
                subst e1
                have k : nt_rn X _ 181 (62, [(0, .ref (p 0)), (1, .int v1), (2, .int v2)], [], me_w M (x185 p v1 v2 J)) _ := k
                have k := ly_revb 1 (c' := (63, [(0, .ref (p 0)), (1, .int v1), (2, .int v2)], [.int (Int32.ofInt 1)], me_w M (x185 p v1 v2 J))) rfl k
                have k := lz_ri rfl (by decide) k
                rw [k, x181, if_neg h5, if_neg h10, if_neg h18, if_neg h26, if_neg h34, if_neg h44, if_neg h51]
theorem x181_frJ {p : Nat → Nat} {v1 : Int32} {v2 : Int32} {J : Nat → Nat → Int32} {b : Nat} (n0 : b ≠ p 4) : (x181 p v1 v2 J).2 b = J b := by
  unfold x181
  by_cases h : (x177 p v1 J) = 0
  · rw [if_pos h]
    all_goals first | (dsimp only; exact (show J b = J b from rfl)) | exact (show J b = J b from rfl)
  · rw [if_neg h]
    by_cases h : v2 = (Int32.ofInt (-1))
    · rw [if_pos h]
      by_cases h : (x183 p v1 J) = 0
      · rw [if_pos h]
        all_goals first | (dsimp only; exact (show J b = J b from rfl)) | exact (show J b = J b from rfl)
      · rw [if_neg h]
        by_cases h : (x173 p v1 (Int32.ofInt 3) J) = v2
        · rw [if_pos h]
          all_goals first | (dsimp only; exact (show J b = J b from rfl)) | exact (show J b = J b from rfl)
        · rw [if_neg h]
          by_cases h : (x184 p J) = 0
          · rw [if_pos h]
            all_goals first | (dsimp only; exact (show J b = J b from rfl)) | exact (show J b = J b from rfl)
          · rw [if_neg h]
            all_goals first | (dsimp only; exact (show (x185 p v1 v2 J) b = J b from x185_frJ  n0)) | exact (show (x185 p v1 v2 J) b = J b from x185_frJ  n0)
    · rw [if_neg h]
      by_cases h : (x168 p v2 J) = 0
      · rw [if_pos h]
        all_goals first | (dsimp only; exact (show J b = J b from rfl)) | exact (show J b = J b from rfl)
      · rw [if_neg h]
        by_cases h : (x182 p v2 J) = 0
        · rw [if_pos h]
          all_goals first | (dsimp only; exact (show J b = J b from rfl)) | exact (show J b = J b from rfl)
        · rw [if_neg h]
          by_cases h : (x183 p v1 J) = 0
          · rw [if_pos h]
            all_goals first | (dsimp only; exact (show J b = J b from rfl)) | exact (show J b = J b from rfl)
          · rw [if_neg h]
            by_cases h : (x173 p v1 (Int32.ofInt 3) J) = v2
            · rw [if_pos h]
              all_goals first | (dsimp only; exact (show J b = J b from rfl)) | exact (show J b = J b from rfl)
            · rw [if_neg h]
              by_cases h : (x184 p J) = 0
              · rw [if_pos h]
                all_goals first | (dsimp only; exact (show J b = J b from rfl)) | exact (show J b = J b from rfl)
              · rw [if_neg h]
                all_goals first | (dsimp only; exact (show (x185 p v1 v2 J) b = J b from x185_frJ  n0)) | exact (show (x185 p v1 v2 J) b = J b from x185_frJ  n0)
/-! Model.isYard -/
def x188 (p : Nat → Nat) (J : Nat → Nat → Int32) : Int32 := if (J (p 4) 0) ≤ 0 then (Int32.ofInt 0)
  else (Int32.ofInt 1)
theorem xt188 {X : nt_X} {d : Nat} {M : nt_M} {o : Option Value × nt_M} {p : Nat → Nat} {J : Nat → Nat → Int32} (hp : xs_P M p) (k : nt_ev X d 188 [.ref (p 0)] (me_w M J) o) : o = (some (.int (x188 p J)), me_w M J) := by
  have k : nt_rn X d 188 (0, [(0, .ref (p 0))], [], me_w M J) o := k
  have k := ly_revb 1 (c' := (1, [(0, .ref (p 0))], [.ref (p 0)], me_w M J)) rfl k
  have k := lz_get (a := (p 0)) (g := 1127) (M := me_w M J) (v := .ref (p 4)) rfl (nt_gfR rfl (hp.1 (0, 27, 4) (by decide))) k
  have k := ly_revb 1 (c' := (5, [(0, .ref (p 0))], [.int (Int32.ofInt 0), .ref (p 4)], me_w M J)) rfl k
  have k := mx_iald (v := J (p 4) 0) rfl (hp.2.2.1 4 (by omega)) ((congrArg (J (p 4)) (show (Int32.ofInt 0).toNatClampNeg = 0 from rfl)).trans (rfl)) k
  have k := ly_revb 1 (c' := (if (J (p 4) 0) ≤ 0 then 13 else 9, [(0, .ref (p 0))], [], me_w M J)) rfl k
  by_cases h6 : (J (p 4) 0) ≤ 0
  · rw [if_pos h6] at k
    have k := ly_revb 1 (c' := (14, [(0, .ref (p 0))], [.int (Int32.ofInt 0)], me_w M J)) rfl k
    have k := lz_ri rfl (by decide) k
    rw [k, x188, if_pos h6]
  · rw [if_neg h6] at k
    have k := ly_revb 2 (c' := (14, [(0, .ref (p 0))], [.int (Int32.ofInt 1)], me_w M J)) rfl k
    have k := lz_ri rfl (by decide) k
    rw [k, x188, if_neg h6]
/-! Model.isRule -/
def x189 (p : Nat → Nat) (v1 : Int32) (J : Nat → Nat → Int32) : Int32 := if v1 < 0 then (Int32.ofInt 0)
  else if (J (p 0) 2) ≤ v1 then (Int32.ofInt 0)
    else (Int32.ofInt 1)
theorem xt189 {X : nt_X} {d : Nat} {M : nt_M} {o : Option Value × nt_M} {p : Nat → Nat} {v1 : Int32} {J : Nat → Nat → Int32} (hp : xs_P M p) (k : nt_ev X d 189 [.ref (p 0), .int v1] (me_w M J) o) : o = (some (.int (x189 p v1 J)), me_w M J) := by
  have k : nt_rn X d 189 (0, [(0, .ref (p 0)), (1, .int v1)], [], me_w M J) o := k
  have k := ly_revb 2 (c' := (if v1 < 0 then 16 else 4, [(0, .ref (p 0)), (1, .int v1)], [], me_w M J)) rfl k
  by_cases h1 : v1 < 0
  · rw [if_pos h1] at k
    have k := ly_revb 1 (c' := (17, [(0, .ref (p 0)), (1, .int v1)], [.int (Int32.ofInt 0)], me_w M J)) rfl k
    have k := lz_ri rfl (by decide) k
    rw [k, x189, if_pos h1]
  · rw [if_neg h1] at k
    have k := ly_revb 2 (c' := (6, [(0, .ref (p 0)), (1, .int v1)], [.ref (p 0), .int v1], me_w M J)) rfl k
    have k := lz_get (a := (p 0)) (g := 1102) (M := me_w M J) (v := .int (J (p 0) 2)) rfl (congrArg Value.int (rfl)) k
    have k := ly_revb 1 (c' := (if (J (p 0) 2) ≤ v1 then 16 else 12, [(0, .ref (p 0)), (1, .int v1)], [], me_w M J)) rfl k
    by_cases h9 : (J (p 0) 2) ≤ v1
    · rw [if_pos h9] at k
      have k := ly_revb 1 (c' := (17, [(0, .ref (p 0)), (1, .int v1)], [.int (Int32.ofInt 0)], me_w M J)) rfl k
      have k := lz_ri rfl (by decide) k
      rw [k, x189, if_neg h1, if_pos h9]
    · rw [if_neg h9] at k
      have k := ly_revb 2 (c' := (17, [(0, .ref (p 0)), (1, .int v1)], [.int (Int32.ofInt 1)], me_w M J)) rfl k
      have k := lz_ri rfl (by decide) k
      rw [k, x189, if_neg h1, if_neg h9]
/-! Model.mayBe -/
def x187 (p : Nat → Nat) (v1 : Int32) (J : Nat → Nat → Int32) : Int32 := if (x188 p J) = 0 then (Int32.ofInt 0)
  else if v1 = (Int32.ofInt (-1)) then (Int32.ofInt 1)
    else if (x189 p v1 J) = 0 then (Int32.ofInt 0)
      else (Int32.ofInt 1)
theorem xt187 {X : nt_X} {d : Nat} {M : nt_M} {o : Option Value × nt_M} {p : Nat → Nat} {v1 : Int32} {J : Nat → Nat → Int32} (hp : xs_P M p) (k : nt_ev X d 187 [.ref (p 0), .int v1] (me_w M J) o) : o = (some (.int (x187 p v1 J)), me_w M J) := by
  have k : nt_rn X d 187 (0, [(0, .ref (p 0)), (1, .int v1)], [], me_w M J) o := k
  have k := ly_revb 1 (c' := (1, [(0, .ref (p 0)), (1, .int v1)], [.ref (p 0)], me_w M J)) rfl k
  obtain ⟨d1, o1, ed, kc, k⟩ := lz_c (g := 188) (q := 1) (vs := [.ref (p 0)]) (rest := []) rfl rfl (by decide) (Or.inr (Or.inl ⟨_, rfl, rfl⟩)) rfl k
  have e1 := xt188 hp kc
  subst e1
  have k : nt_rn X _ 187 (4, [(0, .ref (p 0)), (1, .int v1)], [.int (x188 p J)], me_w M J) _ := k
  have k := ly_revb 1 (c' := (if (x188 p J) = 0 then 24 else 7, [(0, .ref (p 0)), (1, .int v1)], [], me_w M J)) rfl k
  by_cases h4 : (x188 p J) = 0
  · rw [if_pos h4] at k
    have k := ly_revb 1 (c' := (25, [(0, .ref (p 0)), (1, .int v1)], [.int (Int32.ofInt 0)], me_w M J)) rfl k
    have k := lz_ri rfl (by decide) k
    rw [k, x187, if_pos h4]
  · rw [if_neg h4] at k
    have k := ly_revb 3 (c' := (if v1 = (Int32.ofInt (-1)) then 20 else 12, [(0, .ref (p 0)), (1, .int v1)], [], me_w M J)) rfl k
    by_cases h9 : v1 = (Int32.ofInt (-1))
    · rw [if_pos h9] at k
      have k := ly_revb 2 (c' := (25, [(0, .ref (p 0)), (1, .int v1)], [.int (Int32.ofInt 1)], me_w M J)) rfl k
      have k := lz_ri rfl (by decide) k
      rw [k, x187, if_neg h4, if_pos h9]
    · rw [if_neg h9] at k
      have k := ly_revb 2 (c' := (14, [(0, .ref (p 0)), (1, .int v1)], [.int v1, .ref (p 0)], me_w M J)) rfl k
      obtain ⟨d1, o1, ed, kc, k⟩ := lz_c (g := 189) (q := 1) (vs := [.ref (p 0), .int v1]) (rest := []) rfl rfl (by decide) (Or.inr (Or.inl ⟨_, rfl, rfl⟩)) rfl k
      have e1 := xt189 hp kc
      subst e1
      have k : nt_rn X _ 187 (17, [(0, .ref (p 0)), (1, .int v1)], [.int (x189 p v1 J)], me_w M J) _ := k
      have k := ly_revb 1 (c' := (if (x189 p v1 J) = 0 then 24 else 20, [(0, .ref (p 0)), (1, .int v1)], [], me_w M J)) rfl k
      by_cases h17 : (x189 p v1 J) = 0
      · rw [if_pos h17] at k
        have k := ly_revb 1 (c' := (25, [(0, .ref (p 0)), (1, .int v1)], [.int (Int32.ofInt 0)], me_w M J)) rfl k
        have k := lz_ri rfl (by decide) k
        rw [k, x187, if_neg h4, if_neg h9, if_pos h17]
      · rw [if_neg h17] at k
        have k := ly_revb 2 (c' := (25, [(0, .ref (p 0)), (1, .int v1)], [.int (Int32.ofInt 1)], me_w M J)) rfl k
        have k := lz_ri rfl (by decide) k
        rw [k, x187, if_neg h4, if_neg h9, if_neg h17]
/-! Model.seed -/
def x230 (p : Nat → Nat) (v1 : Int32) (J : Nat → Nat → Int32) : Int32 × (Nat → Nat → Int32) := if 0 ≤ v1 then (J (p 4) 9, nt_u J (p 4) 9 v1)
  else (Int32.ofInt (-1), J)
theorem xt230 {X : nt_X} {d : Nat} {M : nt_M} {o : Option Value × nt_M} {p : Nat → Nat} {v1 : Int32} {J : Nat → Nat → Int32} (hp : xs_P M p) (k : nt_ev X d 230 [.ref (p 0), .int v1] (me_w M J) o) : o = (some (.int ((x230 p v1 J).1)), me_w M ((x230 p v1 J).2)) := by
  have k : nt_rn X d 230 (0, [(0, .ref (p 0)), (1, .int v1)], [], me_w M J) o := k
  have k := ly_revb 2 (c' := (if 0 ≤ v1 then 6 else 4, [(0, .ref (p 0)), (1, .int v1)], [], me_w M J)) rfl k
  by_cases h1 : 0 ≤ v1
  · rw [if_pos h1] at k
    have k := ly_revb 1 (c' := (7, [(0, .ref (p 0)), (1, .int v1)], [.ref (p 0)], me_w M J)) rfl k
    have k := lz_get (a := (p 0)) (g := 1127) (M := me_w M J) (v := .ref (p 4)) rfl (nt_gfR rfl (hp.1 (0, 27, 4) (by decide))) k
    have k := ly_revb 1 (c' := (12, [(0, .ref (p 0)), (1, .int v1)], [.int (Int32.ofInt 9), .ref (p 4)], me_w M J)) rfl k
    have k := mx_iald (v := J (p 4) 9) rfl (hp.2.2.1 4 (by omega)) ((congrArg (J (p 4)) (show (Int32.ofInt 9).toNatClampNeg = 9 from rfl)).trans (rfl)) k
    have k := ly_revb 2 (c' := (15, [(2, .int (J (p 4) 9)), (0, .ref (p 0)), (1, .int v1)], [.ref (p 0)], me_w M J)) rfl k
    have k := lz_get (a := (p 0)) (g := 1127) (M := me_w M J) (v := .ref (p 4)) rfl (nt_gfR rfl (hp.1 (0, 27, 4) (by decide))) k
    have k := ly_revb 2 (c' := (21, [(2, .int (J (p 4) 9)), (0, .ref (p 0)), (1, .int v1)], [.int v1, .int (Int32.ofInt 9), .ref (p 4)], me_w M J)) rfl k
    have k := mx_iast (q := 9) rfl (show (Int32.ofInt 9).toNatClampNeg = 9 from rfl) k
    have k : nt_rn X _ 230 (22, [(2, .int (J (p 4) 9)), (0, .ref (p 0)), (1, .int v1)], [], me_w M (nt_u J (p 4) 9 v1)) _ := k
    have k := ly_revb 1 (c' := (23, [(2, .int (J (p 4) 9)), (0, .ref (p 0)), (1, .int v1)], [.int (J (p 4) 9)], me_w M (nt_u J (p 4) 9 v1))) rfl k
    have k := lz_ri rfl (by decide) k
    rw [k, x230, if_pos h1]
  · rw [if_neg h1] at k
    have k := ly_revb 1 (c' := (5, [(0, .ref (p 0)), (1, .int v1)], [.int (Int32.ofInt (-1))], me_w M J)) rfl k
    have k := lz_ri rfl (by decide) k
    rw [k, x230, if_neg h1]
theorem x230_frJ {p : Nat → Nat} {v1 : Int32} {J : Nat → Nat → Int32} {b : Nat} (n0 : b ≠ p 4) : (x230 p v1 J).2 b = J b := by
  unfold x230
  by_cases h : 0 ≤ v1
  · rw [if_pos h]
    all_goals first | (dsimp only; exact (show (nt_u J (p 4) 9 v1) b = J b from mu_o n0)) | exact (show (nt_u J (p 4) 9 v1) b = J b from mu_o n0)
  · rw [if_neg h]
    all_goals first | (dsimp only; exact (show J b = J b from rfl)) | exact (show J b = J b from rfl)
/-! Model.count -/
def x233_108 (p : Nat → Nat) (J : Nat → Nat → Int32) : Nat → Int32 → Int32 → Int32
  | 0, v2, v3 => v2
  | c + 1, v2, v3 => if (J (p 4) 2) ≤ v3 then v2
    else if (x171 p v3 (Int32.ofInt (-1)) J) = 0 then (x233_108 p J c (v2 + (Int32.ofInt 0)) (v3 + (Int32.ofInt 1)))
      else (x233_108 p J c (v2 + (Int32.ofInt 1)) (v3 + (Int32.ofInt 1)))
theorem xt233_108 {X : nt_X} {d : Nat} {M : nt_M} {o : Option Value × nt_M} {p : Nat → Nat} {v1 : Int32} {J : Nat → Nat → Int32} (hp : xs_P M p) : ∀ (c : Nat) (v2 : Int32) (v3 : Int32), (J (p 4) 2).toInt - v3.toInt ≤ c → nt_rn X d 233 (108, [(0, .ref (p 0)), (1, .int v1), (2, .int v2), (3, .int v3)], [], me_w M J) o → o = (some (.int (x233_108 p J c v2 v3)), me_w M J) := by
  intro c
  induction c with
  | zero =>
    intro v2 v3 hc k
    have k := ly_revb 2 (c' := (110, [(0, .ref (p 0)), (1, .int v1), (2, .int v2), (3, .int v3)], [.ref (p 0), .int v3], me_w M J)) rfl k
    have k := lz_get (a := (p 0)) (g := 1127) (M := me_w M J) (v := .ref (p 4)) rfl (nt_gfR rfl (hp.1 (0, 27, 4) (by decide))) k
    have k := ly_revb 1 (c' := (114, [(0, .ref (p 0)), (1, .int v1), (2, .int v2), (3, .int v3)], [.int (Int32.ofInt 2), .ref (p 4), .int v3], me_w M J)) rfl k
    have k := mx_iald (v := J (p 4) 2) rfl (hp.2.2.1 4 (by omega)) ((congrArg (J (p 4)) (show (Int32.ofInt 2).toNatClampNeg = 2 from rfl)).trans (rfl)) k
    have k := ly_revb 1 (c' := (if (J (p 4) 2) ≤ v3 then 141 else 118, [(0, .ref (p 0)), (1, .int v1), (2, .int v2), (3, .int v3)], [], me_w M J)) rfl k
    have h115 : (J (p 4) 2) ≤ v3 := lx_end hc
    rw [if_pos h115] at k
    have k := ly_revb 1 (c' := (142, [(0, .ref (p 0)), (1, .int v1), (2, .int v2), (3, .int v3)], [.int v2], me_w M J)) rfl k
    have k := lz_ri rfl (by decide) k
    rw [k, x233_108]
  | succ c ih =>
    intro v2 v3 hc k
    have k := ly_revb 2 (c' := (110, [(0, .ref (p 0)), (1, .int v1), (2, .int v2), (3, .int v3)], [.ref (p 0), .int v3], me_w M J)) rfl k
    have k := lz_get (a := (p 0)) (g := 1127) (M := me_w M J) (v := .ref (p 4)) rfl (nt_gfR rfl (hp.1 (0, 27, 4) (by decide))) k
    have k := ly_revb 1 (c' := (114, [(0, .ref (p 0)), (1, .int v1), (2, .int v2), (3, .int v3)], [.int (Int32.ofInt 2), .ref (p 4), .int v3], me_w M J)) rfl k
    have k := mx_iald (v := J (p 4) 2) rfl (hp.2.2.1 4 (by omega)) ((congrArg (J (p 4)) (show (Int32.ofInt 2).toNatClampNeg = 2 from rfl)).trans (rfl)) k
    have k := ly_revb 1 (c' := (if (J (p 4) 2) ≤ v3 then 141 else 118, [(0, .ref (p 0)), (1, .int v1), (2, .int v2), (3, .int v3)], [], me_w M J)) rfl k
    by_cases h115 : (J (p 4) 2) ≤ v3
    · rw [if_pos h115] at k
      have k := ly_revb 1 (c' := (142, [(0, .ref (p 0)), (1, .int v1), (2, .int v2), (3, .int v3)], [.int v2], me_w M J)) rfl k
      have k := lz_ri rfl (by decide) k
      rw [k, x233_108, if_pos h115]
    · rw [if_neg h115] at k
      have k := ly_revb 4 (c' := (122, [(0, .ref (p 0)), (1, .int v1), (2, .int v2), (3, .int v3)], [.int (Int32.ofInt (-1)), .int v3, .ref (p 0), .int v2], me_w M J)) rfl k
      obtain ⟨d1, o1, ed, kc, k⟩ := lz_c (g := 171) (q := 1) (vs := [.ref (p 0), .int v3, .int (Int32.ofInt (-1))]) (rest := [.int v2]) rfl rfl (by decide) (Or.inr (Or.inl ⟨_, rfl, rfl⟩)) rfl k
      have e1 := xt171 hp kc
      subst e1
      have k : nt_rn X _ 233 (125, [(0, .ref (p 0)), (1, .int v1), (2, .int v2), (3, .int v3)], [.int (x171 p v3 (Int32.ofInt (-1)) J), .int v2], me_w M J) _ := k
      have k := ly_revb 1 (c' := (if (x171 p v3 (Int32.ofInt (-1)) J) = 0 then 132 else 128, [(0, .ref (p 0)), (1, .int v1), (2, .int v2), (3, .int v3)], [.int v2], me_w M J)) rfl k
      by_cases h125 : (x171 p v3 (Int32.ofInt (-1)) J) = 0
      · rw [if_pos h125] at k
        have k := ly_revb 5 (c' := (108, [(3, .int (v3 + (Int32.ofInt 1))), (2, .int (v2 + (Int32.ofInt 0))), (0, .ref (p 0)), (1, .int v1)], [], me_w M J)) rfl k
        have k := nt_rn_w (a := [(3, .int (v3 + (Int32.ofInt 1))), (2, .int (v2 + (Int32.ofInt 0))), (0, .ref (p 0)), (1, .int v1)]) (b := [(0, .ref (p 0)), (1, .int v1), (2, .int (v2 + (Int32.ofInt 0))), (3, .int (v3 + (Int32.ofInt 1)))]) ⟨rfl, rfl, rfl, rfl, trivial⟩ rfl k
        have k := ih (v2 + (Int32.ofInt 0)) (v3 + (Int32.ofInt 1)) (lx_dec h115 hc) k
        rw [k, x233_108, if_neg h115, if_pos h125]
      · rw [if_neg h125] at k
        have k := ly_revb 6 (c' := (108, [(3, .int (v3 + (Int32.ofInt 1))), (2, .int (v2 + (Int32.ofInt 1))), (0, .ref (p 0)), (1, .int v1)], [], me_w M J)) rfl k
        have k := nt_rn_w (a := [(3, .int (v3 + (Int32.ofInt 1))), (2, .int (v2 + (Int32.ofInt 1))), (0, .ref (p 0)), (1, .int v1)]) (b := [(0, .ref (p 0)), (1, .int v1), (2, .int (v2 + (Int32.ofInt 1))), (3, .int (v3 + (Int32.ofInt 1)))]) ⟨rfl, rfl, rfl, rfl, trivial⟩ rfl k
        have k := ih (v2 + (Int32.ofInt 1)) (v3 + (Int32.ofInt 1)) (lx_dec h115 hc) k
        rw [k, x233_108, if_neg h115, if_neg h125]
theorem x233_108_rule {p : Nat → Nat} {J : Nat → Nat → Int32} {I : Nat → Int32 → Int32 → Prop} {Q : Int32 → Prop} (h0 : ∀ (v2 : Int32) (v3 : Int32), I 0 v2 v3 → Q v2) (h1 : ∀ (c : Nat) (v2 : Int32) (v3 : Int32), I (c + 1) v2 v3 →
    if (J (p 4) 2) ≤ v3 then (Q v2)
    else if (x171 p v3 (Int32.ofInt (-1)) J) = 0 then (I c (v2 + (Int32.ofInt 0)) (v3 + (Int32.ofInt 1)))
      else (I c (v2 + (Int32.ofInt 1)) (v3 + (Int32.ofInt 1)))) : ∀ (c : Nat) (v2 : Int32) (v3 : Int32), I c v2 v3 → Q (x233_108 p J c v2 v3) := by
  intro c
  induction c with
  | zero =>
    intro v2 v3 hi
    rw [x233_108]
    exact h0 v2 v3 hi
  | succ c ih =>
    intro v2 v3 hi
    have hi := h1 c v2 v3 hi
    rw [x233_108]
    by_cases h : (J (p 4) 2) ≤ v3
    · rw [if_pos h] at hi ⊢
      exact hi
    · rw [if_neg h] at hi ⊢
      by_cases h : (x171 p v3 (Int32.ofInt (-1)) J) = 0
      · rw [if_pos h] at hi ⊢
        exact ih _ _ hi
      · rw [if_neg h] at hi ⊢
        exact ih _ _ hi
def x233 (p : Nat → Nat) (v1 : Int32) (J : Nat → Nat → Int32) : Int32 := if v1.toInt < 0 ∨ 11 < v1.toInt then (Int32.ofInt (-1))
  else if v1 = Int32.ofInt 0 then (J (p 4) v1.toNatClampNeg)
    else if v1 = Int32.ofInt 1 then (J (p 4) v1.toNatClampNeg)
      else if v1 = Int32.ofInt 2 then (J (p 4) v1.toNatClampNeg)
        else if v1 = Int32.ofInt 3 then (J (p 4) v1.toNatClampNeg)
          else if v1 = Int32.ofInt 4 then (J (p 0) 2)
            else if v1 = Int32.ofInt 5 then (J (p 4) 4)
              else if v1 = Int32.ofInt 6 then ((J (p 4) 5) - (J (p 4) 6))
                else if v1 = Int32.ofInt 7 then (J (p 4) 7)
                  else if v1 = Int32.ofInt 8 then (x233_108 p J ((J (p 4) 2).toNatClampNeg) (Int32.ofInt 0) (Int32.ofInt 0))
                    else if v1 = Int32.ofInt 9 then (J (p 4) 8)
                      else if v1 = Int32.ofInt 10 then (J (p 4) 9)
                        else (J (p 0) 1)
theorem xt233 {X : nt_X} {d : Nat} {M : nt_M} {o : Option Value × nt_M} {p : Nat → Nat} {v1 : Int32} {J : Nat → Nat → Int32} (hp : xs_P M p) (k : nt_ev X d 233 [.ref (p 0), .int v1] (me_w M J) o) : o = (some (.int (x233 p v1 J)), me_w M J) := by
  have k : nt_rn X d 233 (0, [(0, .ref (p 0)), (1, .int v1)], [], me_w M J) o := k
  have k := ly_revb 3 (c' := (3, [(2, .int (Int32.ofInt 0)), (0, .ref (p 0)), (1, .int v1)], [.int v1], me_w M J)) rfl k
  by_cases h3 : v1.toInt < 0 ∨ 11 < v1.toInt
  · have k := mx_tsd (q := 164) rfl h3 (by decide) k
    have k : nt_rn X _ 233 (164, [(2, .int (Int32.ofInt 0)), (0, .ref (p 0)), (1, .int v1)], [], me_w M J) _ := k
    have k := ly_revb 1 (c' := (165, [(2, .int (Int32.ofInt 0)), (0, .ref (p 0)), (1, .int v1)], [.int (Int32.ofInt (-1))], me_w M J)) rfl k
    have k := lz_ri rfl (by decide) k
    rw [k, x233, if_pos h3]
  · by_cases h3_0 : v1 = Int32.ofInt 0
    · have k := mx_tsc (q := 64) (off := 61) rfl h3 (by rw [h3_0]; rfl) (by decide) k
      have k : nt_rn X _ 233 (64, [(2, .int (Int32.ofInt 0)), (0, .ref (p 0)), (1, .int v1)], [], me_w M J) _ := k
      have k := ly_revb 1 (c' := (65, [(2, .int (Int32.ofInt 0)), (0, .ref (p 0)), (1, .int v1)], [.ref (p 0)], me_w M J)) rfl k
      have k := lz_get (a := (p 0)) (g := 1127) (M := me_w M J) (v := .ref (p 4)) rfl (nt_gfR rfl (hp.1 (0, 27, 4) (by decide))) k
      have k := ly_revb 1 (c' := (69, [(2, .int (Int32.ofInt 0)), (0, .ref (p 0)), (1, .int v1)], [.int v1, .ref (p 4)], me_w M J)) rfl k
      have k := mx_iald (v := J (p 4) v1.toNatClampNeg) rfl (hp.2.2.1 4 (by omega)) (rfl) k
      have k := lz_ri rfl (by decide) k
      rw [k, x233, if_neg h3, if_pos h3_0]
    · by_cases h3_1 : v1 = Int32.ofInt 1
      · have k := mx_tsc (q := 64) (off := 61) rfl h3 (by rw [h3_1]; rfl) (by decide) k
        have k : nt_rn X _ 233 (64, [(2, .int (Int32.ofInt 0)), (0, .ref (p 0)), (1, .int v1)], [], me_w M J) _ := k
        have k := ly_revb 1 (c' := (65, [(2, .int (Int32.ofInt 0)), (0, .ref (p 0)), (1, .int v1)], [.ref (p 0)], me_w M J)) rfl k
        have k := lz_get (a := (p 0)) (g := 1127) (M := me_w M J) (v := .ref (p 4)) rfl (nt_gfR rfl (hp.1 (0, 27, 4) (by decide))) k
        have k := ly_revb 1 (c' := (69, [(2, .int (Int32.ofInt 0)), (0, .ref (p 0)), (1, .int v1)], [.int v1, .ref (p 4)], me_w M J)) rfl k
        have k := mx_iald (v := J (p 4) v1.toNatClampNeg) rfl (hp.2.2.1 4 (by omega)) (rfl) k
        have k := lz_ri rfl (by decide) k
        rw [k, x233, if_neg h3, if_neg h3_0, if_pos h3_1]
      · by_cases h3_2 : v1 = Int32.ofInt 2
        · have k := mx_tsc (q := 64) (off := 61) rfl h3 (by rw [h3_2]; rfl) (by decide) k
          have k : nt_rn X _ 233 (64, [(2, .int (Int32.ofInt 0)), (0, .ref (p 0)), (1, .int v1)], [], me_w M J) _ := k
          have k := ly_revb 1 (c' := (65, [(2, .int (Int32.ofInt 0)), (0, .ref (p 0)), (1, .int v1)], [.ref (p 0)], me_w M J)) rfl k
          have k := lz_get (a := (p 0)) (g := 1127) (M := me_w M J) (v := .ref (p 4)) rfl (nt_gfR rfl (hp.1 (0, 27, 4) (by decide))) k
          have k := ly_revb 1 (c' := (69, [(2, .int (Int32.ofInt 0)), (0, .ref (p 0)), (1, .int v1)], [.int v1, .ref (p 4)], me_w M J)) rfl k
          have k := mx_iald (v := J (p 4) v1.toNatClampNeg) rfl (hp.2.2.1 4 (by omega)) (rfl) k
          have k := lz_ri rfl (by decide) k
          rw [k, x233, if_neg h3, if_neg h3_0, if_neg h3_1, if_pos h3_2]
        · by_cases h3_3 : v1 = Int32.ofInt 3
          · have k := mx_tsc (q := 64) (off := 61) rfl h3 (by rw [h3_3]; rfl) (by decide) k
            have k : nt_rn X _ 233 (64, [(2, .int (Int32.ofInt 0)), (0, .ref (p 0)), (1, .int v1)], [], me_w M J) _ := k
            have k := ly_revb 1 (c' := (65, [(2, .int (Int32.ofInt 0)), (0, .ref (p 0)), (1, .int v1)], [.ref (p 0)], me_w M J)) rfl k
            have k := lz_get (a := (p 0)) (g := 1127) (M := me_w M J) (v := .ref (p 4)) rfl (nt_gfR rfl (hp.1 (0, 27, 4) (by decide))) k
            have k := ly_revb 1 (c' := (69, [(2, .int (Int32.ofInt 0)), (0, .ref (p 0)), (1, .int v1)], [.int v1, .ref (p 4)], me_w M J)) rfl k
            have k := mx_iald (v := J (p 4) v1.toNatClampNeg) rfl (hp.2.2.1 4 (by omega)) (rfl) k
            have k := lz_ri rfl (by decide) k
            rw [k, x233, if_neg h3, if_neg h3_0, if_neg h3_1, if_neg h3_2, if_pos h3_3]
          · by_cases h3_4 : v1 = Int32.ofInt 4
            · have k := mx_tsc (q := 71) (off := 68) rfl h3 (by rw [h3_4]; rfl) (by decide) k
              have k : nt_rn X _ 233 (71, [(2, .int (Int32.ofInt 0)), (0, .ref (p 0)), (1, .int v1)], [], me_w M J) _ := k
              have k := ly_revb 1 (c' := (72, [(2, .int (Int32.ofInt 0)), (0, .ref (p 0)), (1, .int v1)], [.ref (p 0)], me_w M J)) rfl k
              have k := lz_get (a := (p 0)) (g := 1102) (M := me_w M J) (v := .int (J (p 0) 2)) rfl (congrArg Value.int (rfl)) k
              have k := lz_ri rfl (by decide) k
              rw [k, x233, if_neg h3, if_neg h3_0, if_neg h3_1, if_neg h3_2, if_neg h3_3, if_pos h3_4]
            · by_cases h3_5 : v1 = Int32.ofInt 5
              · have k := mx_tsc (q := 76) (off := 73) rfl h3 (by rw [h3_5]; rfl) (by decide) k
                have k : nt_rn X _ 233 (76, [(2, .int (Int32.ofInt 0)), (0, .ref (p 0)), (1, .int v1)], [], me_w M J) _ := k
                have k := ly_revb 1 (c' := (77, [(2, .int (Int32.ofInt 0)), (0, .ref (p 0)), (1, .int v1)], [.ref (p 0)], me_w M J)) rfl k
                have k := lz_get (a := (p 0)) (g := 1127) (M := me_w M J) (v := .ref (p 4)) rfl (nt_gfR rfl (hp.1 (0, 27, 4) (by decide))) k
                have k := ly_revb 1 (c' := (81, [(2, .int (Int32.ofInt 0)), (0, .ref (p 0)), (1, .int v1)], [.int (Int32.ofInt 4), .ref (p 4)], me_w M J)) rfl k
                have k := mx_iald (v := J (p 4) 4) rfl (hp.2.2.1 4 (by omega)) ((congrArg (J (p 4)) (show (Int32.ofInt 4).toNatClampNeg = 4 from rfl)).trans (rfl)) k
                have k := lz_ri rfl (by decide) k
                rw [k, x233, if_neg h3, if_neg h3_0, if_neg h3_1, if_neg h3_2, if_neg h3_3, if_neg h3_4, if_pos h3_5]
              · by_cases h3_6 : v1 = Int32.ofInt 6
                · have k := mx_tsc (q := 83) (off := 80) rfl h3 (by rw [h3_6]; rfl) (by decide) k
                  have k : nt_rn X _ 233 (83, [(2, .int (Int32.ofInt 0)), (0, .ref (p 0)), (1, .int v1)], [], me_w M J) _ := k
                  have k := ly_revb 1 (c' := (84, [(2, .int (Int32.ofInt 0)), (0, .ref (p 0)), (1, .int v1)], [.ref (p 0)], me_w M J)) rfl k
                  have k := lz_get (a := (p 0)) (g := 1127) (M := me_w M J) (v := .ref (p 4)) rfl (nt_gfR rfl (hp.1 (0, 27, 4) (by decide))) k
                  have k := ly_revb 1 (c' := (88, [(2, .int (Int32.ofInt 0)), (0, .ref (p 0)), (1, .int v1)], [.int (Int32.ofInt 5), .ref (p 4)], me_w M J)) rfl k
                  have k := mx_iald (v := J (p 4) 5) rfl (hp.2.2.1 4 (by omega)) ((congrArg (J (p 4)) (show (Int32.ofInt 5).toNatClampNeg = 5 from rfl)).trans (rfl)) k
                  have k := ly_revb 1 (c' := (90, [(2, .int (Int32.ofInt 0)), (0, .ref (p 0)), (1, .int v1)], [.ref (p 0), .int (J (p 4) 5)], me_w M J)) rfl k
                  have k := lz_get (a := (p 0)) (g := 1127) (M := me_w M J) (v := .ref (p 4)) rfl (nt_gfR rfl (hp.1 (0, 27, 4) (by decide))) k
                  have k := ly_revb 1 (c' := (95, [(2, .int (Int32.ofInt 0)), (0, .ref (p 0)), (1, .int v1)], [.int (Int32.ofInt 6), .ref (p 4), .int (J (p 4) 5)], me_w M J)) rfl k
                  have k := mx_iald (v := J (p 4) 6) rfl (hp.2.2.1 4 (by omega)) ((congrArg (J (p 4)) (show (Int32.ofInt 6).toNatClampNeg = 6 from rfl)).trans (rfl)) k
                  have k := ly_revb 1 (c' := (97, [(2, .int (Int32.ofInt 0)), (0, .ref (p 0)), (1, .int v1)], [.int ((J (p 4) 5) - (J (p 4) 6))], me_w M J)) rfl k
                  have k := lz_ri rfl (by decide) k
                  rw [k, x233, if_neg h3, if_neg h3_0, if_neg h3_1, if_neg h3_2, if_neg h3_3, if_neg h3_4, if_neg h3_5, if_pos h3_6]
                · by_cases h3_7 : v1 = Int32.ofInt 7
                  · have k := mx_tsc (q := 98) (off := 95) rfl h3 (by rw [h3_7]; rfl) (by decide) k
                    have k : nt_rn X _ 233 (98, [(2, .int (Int32.ofInt 0)), (0, .ref (p 0)), (1, .int v1)], [], me_w M J) _ := k
                    have k := ly_revb 1 (c' := (99, [(2, .int (Int32.ofInt 0)), (0, .ref (p 0)), (1, .int v1)], [.ref (p 0)], me_w M J)) rfl k
                    have k := lz_get (a := (p 0)) (g := 1127) (M := me_w M J) (v := .ref (p 4)) rfl (nt_gfR rfl (hp.1 (0, 27, 4) (by decide))) k
                    have k := ly_revb 1 (c' := (104, [(2, .int (Int32.ofInt 0)), (0, .ref (p 0)), (1, .int v1)], [.int (Int32.ofInt 7), .ref (p 4)], me_w M J)) rfl k
                    have k := mx_iald (v := J (p 4) 7) rfl (hp.2.2.1 4 (by omega)) ((congrArg (J (p 4)) (show (Int32.ofInt 7).toNatClampNeg = 7 from rfl)).trans (rfl)) k
                    have k := lz_ri rfl (by decide) k
                    rw [k, x233, if_neg h3, if_neg h3_0, if_neg h3_1, if_neg h3_2, if_neg h3_3, if_neg h3_4, if_neg h3_5, if_neg h3_6, if_pos h3_7]
                  · by_cases h3_8 : v1 = Int32.ofInt 8
                    · have k := mx_tsc (q := 106) (off := 103) rfl h3 (by rw [h3_8]; rfl) (by decide) k
                      have k : nt_rn X _ 233 (106, [(2, .int (Int32.ofInt 0)), (0, .ref (p 0)), (1, .int v1)], [], me_w M J) _ := k
                      have k := ly_revb 2 (c' := (108, [(3, .int (Int32.ofInt 0)), (2, .int (Int32.ofInt 0)), (0, .ref (p 0)), (1, .int v1)], [], me_w M J)) rfl k
                      have k := nt_rn_w (a := [(3, .int (Int32.ofInt 0)), (2, .int (Int32.ofInt 0)), (0, .ref (p 0)), (1, .int v1)]) (b := [(0, .ref (p 0)), (1, .int v1), (2, .int (Int32.ofInt 0)), (3, .int (Int32.ofInt 0))]) ⟨rfl, rfl, rfl, rfl, trivial⟩ rfl k
                      have k := xt233_108 hp  ((J (p 4) 2).toNatClampNeg) (Int32.ofInt 0) (Int32.ofInt 0) (lx_beg (by decide)) k
                      rw [k, x233, if_neg h3, if_neg h3_0, if_neg h3_1, if_neg h3_2, if_neg h3_3, if_neg h3_4, if_neg h3_5, if_neg h3_6, if_neg h3_7, if_pos h3_8]
                    · by_cases h3_9 : v1 = Int32.ofInt 9
                      · have k := mx_tsc (q := 143) (off := 140) rfl h3 (by rw [h3_9]; rfl) (by decide) k
                        have k : nt_rn X _ 233 (143, [(2, .int (Int32.ofInt 0)), (0, .ref (p 0)), (1, .int v1)], [], me_w M J) _ := k
                        have k := ly_revb 1 (c' := (144, [(2, .int (Int32.ofInt 0)), (0, .ref (p 0)), (1, .int v1)], [.ref (p 0)], me_w M J)) rfl k
                        have k := lz_get (a := (p 0)) (g := 1127) (M := me_w M J) (v := .ref (p 4)) rfl (nt_gfR rfl (hp.1 (0, 27, 4) (by decide))) k
                        have k := ly_revb 1 (c' := (149, [(2, .int (Int32.ofInt 0)), (0, .ref (p 0)), (1, .int v1)], [.int (Int32.ofInt 8), .ref (p 4)], me_w M J)) rfl k
                        have k := mx_iald (v := J (p 4) 8) rfl (hp.2.2.1 4 (by omega)) ((congrArg (J (p 4)) (show (Int32.ofInt 8).toNatClampNeg = 8 from rfl)).trans (rfl)) k
                        have k := lz_ri rfl (by decide) k
                        rw [k, x233, if_neg h3, if_neg h3_0, if_neg h3_1, if_neg h3_2, if_neg h3_3, if_neg h3_4, if_neg h3_5, if_neg h3_6, if_neg h3_7, if_neg h3_8, if_pos h3_9]
                      · by_cases h3_10 : v1 = Int32.ofInt 10
                        · have k := mx_tsc (q := 151) (off := 148) rfl h3 (by rw [h3_10]; rfl) (by decide) k
                          have k : nt_rn X _ 233 (151, [(2, .int (Int32.ofInt 0)), (0, .ref (p 0)), (1, .int v1)], [], me_w M J) _ := k
                          have k := ly_revb 1 (c' := (152, [(2, .int (Int32.ofInt 0)), (0, .ref (p 0)), (1, .int v1)], [.ref (p 0)], me_w M J)) rfl k
                          have k := lz_get (a := (p 0)) (g := 1127) (M := me_w M J) (v := .ref (p 4)) rfl (nt_gfR rfl (hp.1 (0, 27, 4) (by decide))) k
                          have k := ly_revb 1 (c' := (157, [(2, .int (Int32.ofInt 0)), (0, .ref (p 0)), (1, .int v1)], [.int (Int32.ofInt 9), .ref (p 4)], me_w M J)) rfl k
                          have k := mx_iald (v := J (p 4) 9) rfl (hp.2.2.1 4 (by omega)) ((congrArg (J (p 4)) (show (Int32.ofInt 9).toNatClampNeg = 9 from rfl)).trans (rfl)) k
                          have k := lz_ri rfl (by decide) k
                          rw [k, x233, if_neg h3, if_neg h3_0, if_neg h3_1, if_neg h3_2, if_neg h3_3, if_neg h3_4, if_neg h3_5, if_neg h3_6, if_neg h3_7, if_neg h3_8, if_neg h3_9, if_pos h3_10]
                        · have hz : v1 = Int32.ofInt 11 := by
                            have z1 := h3
                            have y0 : v1.toInt ≠ 0 := fun e => h3_0 (Int32.toInt_inj.mp (e.trans (by decide)))
                            have y1 : v1.toInt ≠ 1 := fun e => h3_1 (Int32.toInt_inj.mp (e.trans (by decide)))
                            have y2 : v1.toInt ≠ 2 := fun e => h3_2 (Int32.toInt_inj.mp (e.trans (by decide)))
                            have y3 : v1.toInt ≠ 3 := fun e => h3_3 (Int32.toInt_inj.mp (e.trans (by decide)))
                            have y4 : v1.toInt ≠ 4 := fun e => h3_4 (Int32.toInt_inj.mp (e.trans (by decide)))
                            have y5 : v1.toInt ≠ 5 := fun e => h3_5 (Int32.toInt_inj.mp (e.trans (by decide)))
                            have y6 : v1.toInt ≠ 6 := fun e => h3_6 (Int32.toInt_inj.mp (e.trans (by decide)))
                            have y7 : v1.toInt ≠ 7 := fun e => h3_7 (Int32.toInt_inj.mp (e.trans (by decide)))
                            have y8 : v1.toInt ≠ 8 := fun e => h3_8 (Int32.toInt_inj.mp (e.trans (by decide)))
                            have y9 : v1.toInt ≠ 9 := fun e => h3_9 (Int32.toInt_inj.mp (e.trans (by decide)))
                            have y10 : v1.toInt ≠ 10 := fun e => h3_10 (Int32.toInt_inj.mp (e.trans (by decide)))
                            exact Int32.toInt_inj.mp ((show v1.toInt = 11 by omega).trans (by decide))
                          have k := mx_tsc (q := 159) (off := 156) rfl h3 (by rw [hz]; rfl) (by decide) k
                          have k : nt_rn X _ 233 (159, [(2, .int (Int32.ofInt 0)), (0, .ref (p 0)), (1, .int v1)], [], me_w M J) _ := k
                          have k := ly_revb 1 (c' := (160, [(2, .int (Int32.ofInt 0)), (0, .ref (p 0)), (1, .int v1)], [.ref (p 0)], me_w M J)) rfl k
                          have k := lz_get (a := (p 0)) (g := 1101) (M := me_w M J) (v := .int (J (p 0) 1)) rfl (congrArg Value.int (rfl)) k
                          have k := lz_ri rfl (by decide) k
                          rw [k, x233, if_neg h3, if_neg h3_0, if_neg h3_1, if_neg h3_2, if_neg h3_3, if_neg h3_4, if_neg h3_5, if_neg h3_6, if_neg h3_7, if_neg h3_8, if_neg h3_9, if_neg h3_10]
/-! .plank -/
def x107 (p : Nat → Nat) (v1 : Int32) (v2 : Int32) (J : Nat → Nat → Int32) : Int32 := if (x70 (fun i => p (31 + i)) v1 J) = 0 then (Int32.ofInt (-2))
  else if v2.toInt < 0 ∨ 4 < v2.toInt then (Int32.ofInt (-2))
    else if v2 = Int32.ofInt 0 then (J (p 34) v1.toNatClampNeg)
      else if v2 = Int32.ofInt 1 then (J (p 44) v1.toNatClampNeg)
        else if v2 = Int32.ofInt 2 then (J (p 36) v1.toNatClampNeg)
          else if v2 = Int32.ofInt 3 then (J (p 45) v1.toNatClampNeg)
            else if (J (p 46) v1.toNatClampNeg) = 0 then (Int32.ofInt 0)
              else (Int32.ofInt 1)
theorem xt107 {X : nt_X} {d : Nat} {M : nt_M} {o : Option Value × nt_M} {p : Nat → Nat} {v1 : Int32} {v2 : Int32} {J : Nat → Nat → Int32} (hp : xs_P M p) (hn : xs_Q M (fun i => p (31 + i))) (k : nt_ev X d 107 [.ref (p 16), .int v1, .int v2] (me_w M J) o) : o = (some (.int (x107 p v1 v2 J)), me_w M J) := by
  have k : nt_rn X d 107 (0, [(0, .ref (p 16)), (1, .int v1), (2, .int v2)], [], me_w M J) o := k
  have k := ly_revb 1 (c' := (1, [(0, .ref (p 16)), (1, .int v1), (2, .int v2)], [.ref (p 16)], me_w M J)) rfl k
  have k := lz_get (a := (p 16)) (g := 1007) (M := me_w M J) (v := .ref (p 31)) rfl (nt_gfR rfl (hp.1 (16, 7, 31) (by decide))) k
  have k := ly_revb 1 (c' := (5, [(0, .ref (p 16)), (1, .int v1), (2, .int v2)], [.int v1, .ref (p 31)], me_w M J)) rfl k
  obtain ⟨d1, o1, ed, kc, k⟩ := lz_c (g := 70) (q := 1) (vs := [.ref (p 31), .int v1]) (rest := []) rfl rfl (by decide) (Or.inr (Or.inl ⟨_, rfl, rfl⟩)) rfl k
  have e1 := xt70 hn kc
  subst e1
  have k : nt_rn X _ 107 (8, [(0, .ref (p 16)), (1, .int v1), (2, .int v2)], [.int (x70 (fun i => p (31 + i)) v1 J)], me_w M J) _ := k
  have k := ly_revb 1 (c' := (if (x70 (fun i => p (31 + i)) v1 J) = 0 then 11 else 14, [(0, .ref (p 16)), (1, .int v1), (2, .int v2)], [], me_w M J)) rfl k
  by_cases h8 : (x70 (fun i => p (31 + i)) v1 J) = 0
  · rw [if_pos h8] at k
    have k := ly_revb 1 (c' := (13, [(0, .ref (p 16)), (1, .int v1), (2, .int v2)], [.int (Int32.ofInt (-2))], me_w M J)) rfl k
    have k := lz_ri rfl (by decide) k
    rw [k, x107, if_pos h8]
  · rw [if_neg h8] at k
    have k := ly_revb 1 (c' := (15, [(0, .ref (p 16)), (1, .int v1), (2, .int v2)], [.int v2], me_w M J)) rfl k
    by_cases h15 : v2.toInt < 0 ∨ 4 < v2.toInt
    · have k := mx_tsd (q := 112) rfl h15 (by decide) k
      have k : nt_rn X _ 107 (112, [(0, .ref (p 16)), (1, .int v1), (2, .int v2)], [], me_w M J) _ := k
      have k := ly_revb 1 (c' := (114, [(0, .ref (p 16)), (1, .int v1), (2, .int v2)], [.int (Int32.ofInt (-2))], me_w M J)) rfl k
      have k := lz_ri rfl (by decide) k
      rw [k, x107, if_neg h8, if_pos h15]
    · by_cases h15_0 : v2 = Int32.ofInt 0
      · have k := mx_tsc (q := 48) (off := 33) rfl h15 (by rw [h15_0]; rfl) (by decide) k
        have k : nt_rn X _ 107 (48, [(0, .ref (p 16)), (1, .int v1), (2, .int v2)], [], me_w M J) _ := k
        have k := ly_revb 1 (c' := (49, [(0, .ref (p 16)), (1, .int v1), (2, .int v2)], [.ref (p 16)], me_w M J)) rfl k
        have k := lz_get (a := (p 16)) (g := 1007) (M := me_w M J) (v := .ref (p 31)) rfl (nt_gfR rfl (hp.1 (16, 7, 31) (by decide))) k
        have k := lz_get (a := (p 31)) (g := 600) (M := me_w M J) (v := .ref (p 32)) rfl (nt_gfR rfl (hn.1 (0, 0, 1) (by decide))) k
        have k := lz_get (a := (p 32)) (g := 806) (M := me_w M J) (v := .ref (p 34)) rfl (nt_gfR rfl (hn.1 (1, 6, 3) (by decide))) k
        have k := ly_revb 1 (c' := (59, [(0, .ref (p 16)), (1, .int v1), (2, .int v2)], [.int v1, .ref (p 34)], me_w M J)) rfl k
        have k := mx_iald (v := J (p 34) v1.toNatClampNeg) rfl (hp.2.2.1 34 (by omega)) (rfl) k
        have k := lz_ri rfl (by decide) k
        rw [k, x107, if_neg h8, if_neg h15, if_pos h15_0]
      · by_cases h15_1 : v2 = Int32.ofInt 1
        · have k := mx_tsc (q := 61) (off := 46) rfl h15 (by rw [h15_1]; rfl) (by decide) k
          have k : nt_rn X _ 107 (61, [(0, .ref (p 16)), (1, .int v1), (2, .int v2)], [], me_w M J) _ := k
          have k := ly_revb 1 (c' := (62, [(0, .ref (p 16)), (1, .int v1), (2, .int v2)], [.ref (p 16)], me_w M J)) rfl k
          have k := lz_get (a := (p 16)) (g := 1007) (M := me_w M J) (v := .ref (p 31)) rfl (nt_gfR rfl (hp.1 (16, 7, 31) (by decide))) k
          have k := lz_get (a := (p 31)) (g := 610) (M := me_w M J) (v := .ref (p 44)) rfl (nt_gfR rfl (hn.1 (0, 10, 13) (by decide))) k
          have k := ly_revb 1 (c' := (69, [(0, .ref (p 16)), (1, .int v1), (2, .int v2)], [.int v1, .ref (p 44)], me_w M J)) rfl k
          have k := mx_iald (v := J (p 44) v1.toNatClampNeg) rfl (hp.2.2.1 44 (by omega)) (rfl) k
          have k := lz_ri rfl (by decide) k
          rw [k, x107, if_neg h8, if_neg h15, if_neg h15_0, if_pos h15_1]
        · by_cases h15_2 : v2 = Int32.ofInt 2
          · have k := mx_tsc (q := 71) (off := 56) rfl h15 (by rw [h15_2]; rfl) (by decide) k
            have k : nt_rn X _ 107 (71, [(0, .ref (p 16)), (1, .int v1), (2, .int v2)], [], me_w M J) _ := k
            have k := ly_revb 1 (c' := (72, [(0, .ref (p 16)), (1, .int v1), (2, .int v2)], [.ref (p 16)], me_w M J)) rfl k
            have k := lz_get (a := (p 16)) (g := 1007) (M := me_w M J) (v := .ref (p 31)) rfl (nt_gfR rfl (hp.1 (16, 7, 31) (by decide))) k
            have k := lz_get (a := (p 31)) (g := 600) (M := me_w M J) (v := .ref (p 32)) rfl (nt_gfR rfl (hn.1 (0, 0, 1) (by decide))) k
            have k := lz_get (a := (p 32)) (g := 808) (M := me_w M J) (v := .ref (p 36)) rfl (nt_gfR rfl (hn.1 (1, 8, 5) (by decide))) k
            have k := ly_revb 1 (c' := (82, [(0, .ref (p 16)), (1, .int v1), (2, .int v2)], [.int v1, .ref (p 36)], me_w M J)) rfl k
            have k := mx_iald (v := J (p 36) v1.toNatClampNeg) rfl (hp.2.2.1 36 (by omega)) (rfl) k
            have k := lz_ri rfl (by decide) k
            rw [k, x107, if_neg h8, if_neg h15, if_neg h15_0, if_neg h15_1, if_pos h15_2]
          · by_cases h15_3 : v2 = Int32.ofInt 3
            · have k := mx_tsc (q := 84) (off := 69) rfl h15 (by rw [h15_3]; rfl) (by decide) k
              have k : nt_rn X _ 107 (84, [(0, .ref (p 16)), (1, .int v1), (2, .int v2)], [], me_w M J) _ := k
              have k := ly_revb 1 (c' := (85, [(0, .ref (p 16)), (1, .int v1), (2, .int v2)], [.ref (p 16)], me_w M J)) rfl k
              have k := lz_get (a := (p 16)) (g := 1007) (M := me_w M J) (v := .ref (p 31)) rfl (nt_gfR rfl (hp.1 (16, 7, 31) (by decide))) k
              have k := lz_get (a := (p 31)) (g := 611) (M := me_w M J) (v := .ref (p 45)) rfl (nt_gfR rfl (hn.1 (0, 11, 14) (by decide))) k
              have k := ly_revb 1 (c' := (92, [(0, .ref (p 16)), (1, .int v1), (2, .int v2)], [.int v1, .ref (p 45)], me_w M J)) rfl k
              have k := mx_iald (v := J (p 45) v1.toNatClampNeg) rfl (hp.2.2.1 45 (by omega)) (rfl) k
              have k := lz_ri rfl (by decide) k
              rw [k, x107, if_neg h8, if_neg h15, if_neg h15_0, if_neg h15_1, if_neg h15_2, if_pos h15_3]
            · have hz : v2 = Int32.ofInt 4 := by
                have z1 := h15
                have y0 : v2.toInt ≠ 0 := fun e => h15_0 (Int32.toInt_inj.mp (e.trans (by decide)))
                have y1 : v2.toInt ≠ 1 := fun e => h15_1 (Int32.toInt_inj.mp (e.trans (by decide)))
                have y2 : v2.toInt ≠ 2 := fun e => h15_2 (Int32.toInt_inj.mp (e.trans (by decide)))
                have y3 : v2.toInt ≠ 3 := fun e => h15_3 (Int32.toInt_inj.mp (e.trans (by decide)))
                exact Int32.toInt_inj.mp ((show v2.toInt = 4 by omega).trans (by decide))
              have k := mx_tsc (q := 94) (off := 79) rfl h15 (by rw [hz]; rfl) (by decide) k
              have k : nt_rn X _ 107 (94, [(0, .ref (p 16)), (1, .int v1), (2, .int v2)], [], me_w M J) _ := k
              have k := ly_revb 1 (c' := (95, [(0, .ref (p 16)), (1, .int v1), (2, .int v2)], [.ref (p 16)], me_w M J)) rfl k
              have k := lz_get (a := (p 16)) (g := 1007) (M := me_w M J) (v := .ref (p 31)) rfl (nt_gfR rfl (hp.1 (16, 7, 31) (by decide))) k
              have k := lz_get (a := (p 31)) (g := 612) (M := me_w M J) (v := .ref (p 46)) rfl (nt_gfR rfl (hn.1 (0, 12, 15) (by decide))) k
              have k := ly_revb 1 (c' := (102, [(0, .ref (p 16)), (1, .int v1), (2, .int v2)], [.int v1, .ref (p 46)], me_w M J)) rfl k
              have k := mx_bald (v := J (p 46) v1.toNatClampNeg) rfl (rfl) k
              have k := ly_revb 1 (c' := (if (J (p 46) v1.toNatClampNeg) = 0 then 110 else 106, [(0, .ref (p 16)), (1, .int v1), (2, .int v2)], [], me_w M J)) rfl k
              by_cases h103 : (J (p 46) v1.toNatClampNeg) = 0
              · rw [if_pos h103] at k
                have k := ly_revb 1 (c' := (111, [(0, .ref (p 16)), (1, .int v1), (2, .int v2)], [.int (Int32.ofInt 0)], me_w M J)) rfl k
                have k := lz_ri rfl (by decide) k
                rw [k, x107, if_neg h8, if_neg h15, if_neg h15_0, if_neg h15_1, if_neg h15_2, if_neg h15_3, if_pos h103]
              · rw [if_neg h103] at k
                have k := ly_revb 2 (c' := (111, [(0, .ref (p 16)), (1, .int v1), (2, .int v2)], [.int (Int32.ofInt 1)], me_w M J)) rfl k
                have k := lz_ri rfl (by decide) k
                rw [k, x107, if_neg h8, if_neg h15, if_neg h15_0, if_neg h15_1, if_neg h15_2, if_neg h15_3, if_neg h103]
/-! .voyage -/
def x108 (p : Nat → Nat) (v1 : Int32) (v2 : Int32) (J : Nat → Nat → Int32) : Int32 := if (x71 (fun i => p (31 + i)) v1 J) = 0 then (Int32.ofInt (-1))
  else if v2.toInt < 0 ∨ 4 < v2.toInt then (Int32.ofInt (-1))
    else if v2 = Int32.ofInt 0 then (J (p 37) v1.toNatClampNeg)
      else if v2 = Int32.ofInt 1 then (J (p 38) v1.toNatClampNeg)
        else if v2 = Int32.ofInt 2 then (J (p 39) v1.toNatClampNeg)
          else if v2 = Int32.ofInt 3 then (J (p 40) v1.toNatClampNeg)
            else (J (p 47) v1.toNatClampNeg)
theorem xt108 {X : nt_X} {d : Nat} {M : nt_M} {o : Option Value × nt_M} {p : Nat → Nat} {v1 : Int32} {v2 : Int32} {J : Nat → Nat → Int32} (hp : xs_P M p) (hn : xs_Q M (fun i => p (31 + i))) (k : nt_ev X d 108 [.ref (p 16), .int v1, .int v2] (me_w M J) o) : o = (some (.int (x108 p v1 v2 J)), me_w M J) := by
  have k : nt_rn X d 108 (0, [(0, .ref (p 16)), (1, .int v1), (2, .int v2)], [], me_w M J) o := k
  have k := ly_revb 1 (c' := (1, [(0, .ref (p 16)), (1, .int v1), (2, .int v2)], [.ref (p 16)], me_w M J)) rfl k
  have k := lz_get (a := (p 16)) (g := 1007) (M := me_w M J) (v := .ref (p 31)) rfl (nt_gfR rfl (hp.1 (16, 7, 31) (by decide))) k
  have k := ly_revb 1 (c' := (5, [(0, .ref (p 16)), (1, .int v1), (2, .int v2)], [.int v1, .ref (p 31)], me_w M J)) rfl k
  obtain ⟨d1, o1, ed, kc, k⟩ := lz_c (g := 71) (q := 1) (vs := [.ref (p 31), .int v1]) (rest := []) rfl rfl (by decide) (Or.inr (Or.inl ⟨_, rfl, rfl⟩)) rfl k
  have e1 := xt71 hn kc
  subst e1
  have k : nt_rn X _ 108 (8, [(0, .ref (p 16)), (1, .int v1), (2, .int v2)], [.int (x71 (fun i => p (31 + i)) v1 J)], me_w M J) _ := k
  have k := ly_revb 1 (c' := (if (x71 (fun i => p (31 + i)) v1 J) = 0 then 11 else 13, [(0, .ref (p 16)), (1, .int v1), (2, .int v2)], [], me_w M J)) rfl k
  by_cases h8 : (x71 (fun i => p (31 + i)) v1 J) = 0
  · rw [if_pos h8] at k
    have k := ly_revb 1 (c' := (12, [(0, .ref (p 16)), (1, .int v1), (2, .int v2)], [.int (Int32.ofInt (-1))], me_w M J)) rfl k
    have k := lz_ri rfl (by decide) k
    rw [k, x108, if_pos h8]
  · rw [if_neg h8] at k
    have k := ly_revb 1 (c' := (14, [(0, .ref (p 16)), (1, .int v1), (2, .int v2)], [.int v2], me_w M J)) rfl k
    by_cases h14 : v2.toInt < 0 ∨ 4 < v2.toInt
    · have k := mx_tsd (q := 110) rfl h14 (by decide) k
      have k : nt_rn X _ 108 (110, [(0, .ref (p 16)), (1, .int v1), (2, .int v2)], [], me_w M J) _ := k
      have k := ly_revb 1 (c' := (111, [(0, .ref (p 16)), (1, .int v1), (2, .int v2)], [.int (Int32.ofInt (-1))], me_w M J)) rfl k
      have k := lz_ri rfl (by decide) k
      rw [k, x108, if_neg h8, if_pos h14]
    · by_cases h14_0 : v2 = Int32.ofInt 0
      · have k := mx_tsc (q := 48) (off := 34) rfl h14 (by rw [h14_0]; rfl) (by decide) k
        have k : nt_rn X _ 108 (48, [(0, .ref (p 16)), (1, .int v1), (2, .int v2)], [], me_w M J) _ := k
        have k := ly_revb 1 (c' := (49, [(0, .ref (p 16)), (1, .int v1), (2, .int v2)], [.ref (p 16)], me_w M J)) rfl k
        have k := lz_get (a := (p 16)) (g := 1007) (M := me_w M J) (v := .ref (p 31)) rfl (nt_gfR rfl (hp.1 (16, 7, 31) (by decide))) k
        have k := lz_get (a := (p 31)) (g := 600) (M := me_w M J) (v := .ref (p 32)) rfl (nt_gfR rfl (hn.1 (0, 0, 1) (by decide))) k
        have k := lz_get (a := (p 32)) (g := 809) (M := me_w M J) (v := .ref (p 37)) rfl (nt_gfR rfl (hn.1 (1, 9, 6) (by decide))) k
        have k := ly_revb 1 (c' := (59, [(0, .ref (p 16)), (1, .int v1), (2, .int v2)], [.int v1, .ref (p 37)], me_w M J)) rfl k
        have k := mx_iald (v := J (p 37) v1.toNatClampNeg) rfl (hp.2.2.1 37 (by omega)) (rfl) k
        have k := lz_ri rfl (by decide) k
        rw [k, x108, if_neg h8, if_neg h14, if_pos h14_0]
      · by_cases h14_1 : v2 = Int32.ofInt 1
        · have k := mx_tsc (q := 61) (off := 47) rfl h14 (by rw [h14_1]; rfl) (by decide) k
          have k : nt_rn X _ 108 (61, [(0, .ref (p 16)), (1, .int v1), (2, .int v2)], [], me_w M J) _ := k
          have k := ly_revb 1 (c' := (62, [(0, .ref (p 16)), (1, .int v1), (2, .int v2)], [.ref (p 16)], me_w M J)) rfl k
          have k := lz_get (a := (p 16)) (g := 1007) (M := me_w M J) (v := .ref (p 31)) rfl (nt_gfR rfl (hp.1 (16, 7, 31) (by decide))) k
          have k := lz_get (a := (p 31)) (g := 600) (M := me_w M J) (v := .ref (p 32)) rfl (nt_gfR rfl (hn.1 (0, 0, 1) (by decide))) k
          have k := lz_get (a := (p 32)) (g := 810) (M := me_w M J) (v := .ref (p 38)) rfl (nt_gfR rfl (hn.1 (1, 10, 7) (by decide))) k
          have k := ly_revb 1 (c' := (72, [(0, .ref (p 16)), (1, .int v1), (2, .int v2)], [.int v1, .ref (p 38)], me_w M J)) rfl k
          have k := mx_iald (v := J (p 38) v1.toNatClampNeg) rfl (hp.2.2.1 38 (by omega)) (rfl) k
          have k := lz_ri rfl (by decide) k
          rw [k, x108, if_neg h8, if_neg h14, if_neg h14_0, if_pos h14_1]
        · by_cases h14_2 : v2 = Int32.ofInt 2
          · have k := mx_tsc (q := 74) (off := 60) rfl h14 (by rw [h14_2]; rfl) (by decide) k
            have k : nt_rn X _ 108 (74, [(0, .ref (p 16)), (1, .int v1), (2, .int v2)], [], me_w M J) _ := k
            have k := ly_revb 1 (c' := (75, [(0, .ref (p 16)), (1, .int v1), (2, .int v2)], [.ref (p 16)], me_w M J)) rfl k
            have k := lz_get (a := (p 16)) (g := 1007) (M := me_w M J) (v := .ref (p 31)) rfl (nt_gfR rfl (hp.1 (16, 7, 31) (by decide))) k
            have k := lz_get (a := (p 31)) (g := 600) (M := me_w M J) (v := .ref (p 32)) rfl (nt_gfR rfl (hn.1 (0, 0, 1) (by decide))) k
            have k := lz_get (a := (p 32)) (g := 811) (M := me_w M J) (v := .ref (p 39)) rfl (nt_gfR rfl (hn.1 (1, 11, 8) (by decide))) k
            have k := ly_revb 1 (c' := (85, [(0, .ref (p 16)), (1, .int v1), (2, .int v2)], [.int v1, .ref (p 39)], me_w M J)) rfl k
            have k := mx_iald (v := J (p 39) v1.toNatClampNeg) rfl (hp.2.2.1 39 (by omega)) (rfl) k
            have k := lz_ri rfl (by decide) k
            rw [k, x108, if_neg h8, if_neg h14, if_neg h14_0, if_neg h14_1, if_pos h14_2]
          · by_cases h14_3 : v2 = Int32.ofInt 3
            · have k := mx_tsc (q := 87) (off := 73) rfl h14 (by rw [h14_3]; rfl) (by decide) k
              have k : nt_rn X _ 108 (87, [(0, .ref (p 16)), (1, .int v1), (2, .int v2)], [], me_w M J) _ := k
              have k := ly_revb 1 (c' := (88, [(0, .ref (p 16)), (1, .int v1), (2, .int v2)], [.ref (p 16)], me_w M J)) rfl k
              have k := lz_get (a := (p 16)) (g := 1007) (M := me_w M J) (v := .ref (p 31)) rfl (nt_gfR rfl (hp.1 (16, 7, 31) (by decide))) k
              have k := lz_get (a := (p 31)) (g := 600) (M := me_w M J) (v := .ref (p 32)) rfl (nt_gfR rfl (hn.1 (0, 0, 1) (by decide))) k
              have k := lz_get (a := (p 32)) (g := 812) (M := me_w M J) (v := .ref (p 40)) rfl (nt_gfR rfl (hn.1 (1, 12, 9) (by decide))) k
              have k := ly_revb 1 (c' := (98, [(0, .ref (p 16)), (1, .int v1), (2, .int v2)], [.int v1, .ref (p 40)], me_w M J)) rfl k
              have k := mx_iald (v := J (p 40) v1.toNatClampNeg) rfl (hp.2.2.1 40 (by omega)) (rfl) k
              have k := lz_ri rfl (by decide) k
              rw [k, x108, if_neg h8, if_neg h14, if_neg h14_0, if_neg h14_1, if_neg h14_2, if_pos h14_3]
            · have hz : v2 = Int32.ofInt 4 := by
                have z1 := h14
                have y0 : v2.toInt ≠ 0 := fun e => h14_0 (Int32.toInt_inj.mp (e.trans (by decide)))
                have y1 : v2.toInt ≠ 1 := fun e => h14_1 (Int32.toInt_inj.mp (e.trans (by decide)))
                have y2 : v2.toInt ≠ 2 := fun e => h14_2 (Int32.toInt_inj.mp (e.trans (by decide)))
                have y3 : v2.toInt ≠ 3 := fun e => h14_3 (Int32.toInt_inj.mp (e.trans (by decide)))
                exact Int32.toInt_inj.mp ((show v2.toInt = 4 by omega).trans (by decide))
              have k := mx_tsc (q := 100) (off := 86) rfl h14 (by rw [hz]; rfl) (by decide) k
              have k : nt_rn X _ 108 (100, [(0, .ref (p 16)), (1, .int v1), (2, .int v2)], [], me_w M J) _ := k
              have k := ly_revb 1 (c' := (101, [(0, .ref (p 16)), (1, .int v1), (2, .int v2)], [.ref (p 16)], me_w M J)) rfl k
              have k := lz_get (a := (p 16)) (g := 1007) (M := me_w M J) (v := .ref (p 31)) rfl (nt_gfR rfl (hp.1 (16, 7, 31) (by decide))) k
              have k := lz_get (a := (p 31)) (g := 613) (M := me_w M J) (v := .ref (p 47)) rfl (nt_gfR rfl (hn.1 (0, 13, 16) (by decide))) k
              have k := ly_revb 1 (c' := (108, [(0, .ref (p 16)), (1, .int v1), (2, .int v2)], [.int v1, .ref (p 47)], me_w M J)) rfl k
              have k := mx_iald (v := J (p 47) v1.toNatClampNeg) rfl (hp.2.2.1 47 (by omega)) (rfl) k
              have k := lz_ri rfl (by decide) k
              rw [k, x108, if_neg h8, if_neg h14, if_neg h14_0, if_neg h14_1, if_neg h14_2, if_neg h14_3]
/-! .move -/
def x109 (p : Nat → Nat) (v1 : Int32) (v2 : Int32) (J : Nat → Nat → Int32) : Int32 × (Nat → Nat → Int32) := if (x70 (fun i => p (31 + i)) v1 J) = 0 then (Int32.ofInt 0, J)
  else if v2 = (Int32.ofInt (-1)) then if (x72 (fun i => p (31 + i)) J) ≤ 0 then (Int32.ofInt 0, J)
      else if (J (p 45) v1.toNatClampNeg) = v2 then (Int32.ofInt 0, J)
        else if (x73 (fun i => p (31 + i)) v1 J) = 0 then (Int32.ofInt 0, J)
          else if v2 = (Int32.ofInt (-1)) then (Int32.ofInt 1, x74 (fun i => p (31 + i)) v1 v2 J)
            else if (J (p 41) v2.toNatClampNeg) = 0 then (Int32.ofInt 1, x74 (fun i => p (31 + i)) v1 v2 J)
              else (Int32.ofInt 0, J)
    else if (x65 (fun i => p (31 + i)) v2 J) = 0 then (Int32.ofInt 0, J)
      else if (x72 (fun i => p (31 + i)) J) ≤ 0 then (Int32.ofInt 0, J)
        else if (J (p 45) v1.toNatClampNeg) = v2 then (Int32.ofInt 0, J)
          else if (x73 (fun i => p (31 + i)) v1 J) = 0 then (Int32.ofInt 0, J)
            else if v2 = (Int32.ofInt (-1)) then (Int32.ofInt 1, x74 (fun i => p (31 + i)) v1 v2 J)
              else if (J (p 41) v2.toNatClampNeg) = 0 then (Int32.ofInt 1, x74 (fun i => p (31 + i)) v1 v2 J)
                else (Int32.ofInt 0, J)
theorem xt109 {X : nt_X} {d : Nat} {M : nt_M} {o : Option Value × nt_M} {p : Nat → Nat} {v1 : Int32} {v2 : Int32} {J : Nat → Nat → Int32} (hp : xs_P M p) (hn : xs_Q M (fun i => p (31 + i))) (k : nt_ev X d 109 [.ref (p 16), .int v1, .int v2] (me_w M J) o) : o = (some (.int ((x109 p v1 v2 J).1)), me_w M ((x109 p v1 v2 J).2)) := by
  have k : nt_rn X d 109 (0, [(0, .ref (p 16)), (1, .int v1), (2, .int v2)], [], me_w M J) o := k
  have k := ly_revb 1 (c' := (1, [(0, .ref (p 16)), (1, .int v1), (2, .int v2)], [.ref (p 16)], me_w M J)) rfl k
  have k := lz_get (a := (p 16)) (g := 1007) (M := me_w M J) (v := .ref (p 31)) rfl (nt_gfR rfl (hp.1 (16, 7, 31) (by decide))) k
  have k := ly_revb 1 (c' := (5, [(0, .ref (p 16)), (1, .int v1), (2, .int v2)], [.int v1, .ref (p 31)], me_w M J)) rfl k
  obtain ⟨d1, o1, ed, kc, k⟩ := lz_c (g := 70) (q := 1) (vs := [.ref (p 31), .int v1]) (rest := []) rfl rfl (by decide) (Or.inr (Or.inl ⟨_, rfl, rfl⟩)) rfl k
  have e1 := xt70 hn kc
  subst e1
  have k : nt_rn X _ 109 (8, [(0, .ref (p 16)), (1, .int v1), (2, .int v2)], [.int (x70 (fun i => p (31 + i)) v1 J)], me_w M J) _ := k
  have k := ly_revb 1 (c' := (if (x70 (fun i => p (31 + i)) v1 J) = 0 then 31 else 11, [(0, .ref (p 16)), (1, .int v1), (2, .int v2)], [], me_w M J)) rfl k
  by_cases h8 : (x70 (fun i => p (31 + i)) v1 J) = 0
  · rw [if_pos h8] at k
    have k := ly_revb 4 (c' := (if (Int32.ofInt 0) = 0 then 71 else 37, [(3, .int (Int32.ofInt 0)), (0, .ref (p 16)), (1, .int v1), (2, .int v2)], [], me_w M J)) rfl k
    rw [if_pos (show (Int32.ofInt 0) = 0 from by decide)] at k
    have k := ly_revb 1 (c' := (72, [(3, .int (Int32.ofInt 0)), (0, .ref (p 16)), (1, .int v1), (2, .int v2)], [.int (Int32.ofInt 0)], me_w M J)) rfl k
    have k := lz_ri rfl (by decide) k
    rw [k, x109, if_pos h8]
  · rw [if_neg h8] at k
    have k := ly_revb 3 (c' := (if v2 = (Int32.ofInt (-1)) then 27 else 16, [(0, .ref (p 16)), (1, .int v1), (2, .int v2)], [], me_w M J)) rfl k
    by_cases h13 : v2 = (Int32.ofInt (-1))
    · rw [if_pos h13] at k
      have k := ly_revb 5 (c' := (if (Int32.ofInt 1) = 0 then 71 else 37, [(3, .int (Int32.ofInt 1)), (0, .ref (p 16)), (1, .int v1), (2, .int v2)], [], me_w M J)) rfl k
      rw [if_neg (show ¬ ((Int32.ofInt 1) = 0) from by decide)] at k
      have k := ly_revb 1 (c' := (38, [(3, .int (Int32.ofInt 1)), (0, .ref (p 16)), (1, .int v1), (2, .int v2)], [.ref (p 16)], me_w M J)) rfl k
      have k := lz_get (a := (p 16)) (g := 1007) (M := me_w M J) (v := .ref (p 31)) rfl (nt_gfR rfl (hp.1 (16, 7, 31) (by decide))) k
      obtain ⟨d1, o1, ed, kc, k⟩ := lz_c (g := 72) (q := 1) (vs := [.ref (p 31)]) (rest := []) rfl rfl (by decide) (Or.inr (Or.inl ⟨_, rfl, rfl⟩)) rfl k
      have e1 := xt72 hn kc
      subst e1
      have k : nt_rn X _ 109 (44, [(3, .int (Int32.ofInt 1)), (0, .ref (p 16)), (1, .int v1), (2, .int v2)], [.int (x72 (fun i => p (31 + i)) J)], me_w M J) _ := k
      have k := ly_revb 1 (c' := (if (x72 (fun i => p (31 + i)) J) ≤ 0 then 71 else 47, [(3, .int (Int32.ofInt 1)), (0, .ref (p 16)), (1, .int v1), (2, .int v2)], [], me_w M J)) rfl k
      by_cases h44 : (x72 (fun i => p (31 + i)) J) ≤ 0
      · rw [if_pos h44] at k
        have k := ly_revb 1 (c' := (72, [(3, .int (Int32.ofInt 1)), (0, .ref (p 16)), (1, .int v1), (2, .int v2)], [.int (Int32.ofInt 0)], me_w M J)) rfl k
        have k := lz_ri rfl (by decide) k
        rw [k, x109, if_neg h8, if_pos h13, if_pos h44]
      · rw [if_neg h44] at k
        have k := ly_revb 1 (c' := (48, [(3, .int (Int32.ofInt 1)), (0, .ref (p 16)), (1, .int v1), (2, .int v2)], [.ref (p 16)], me_w M J)) rfl k
        have k := lz_get (a := (p 16)) (g := 1007) (M := me_w M J) (v := .ref (p 31)) rfl (nt_gfR rfl (hp.1 (16, 7, 31) (by decide))) k
        have k := lz_get (a := (p 31)) (g := 611) (M := me_w M J) (v := .ref (p 45)) rfl (nt_gfR rfl (hn.1 (0, 11, 14) (by decide))) k
        have k := ly_revb 1 (c' := (55, [(3, .int (Int32.ofInt 1)), (0, .ref (p 16)), (1, .int v1), (2, .int v2)], [.int v1, .ref (p 45)], me_w M J)) rfl k
        have k := mx_iald (v := J (p 45) v1.toNatClampNeg) rfl (hp.2.2.1 45 (by omega)) (rfl) k
        have k := ly_revb 2 (c' := (if (J (p 45) v1.toNatClampNeg) = v2 then 71 else 60, [(3, .int (Int32.ofInt 1)), (0, .ref (p 16)), (1, .int v1), (2, .int v2)], [], me_w M J)) rfl k
        by_cases h57 : (J (p 45) v1.toNatClampNeg) = v2
        · rw [if_pos h57] at k
          have k := ly_revb 1 (c' := (72, [(3, .int (Int32.ofInt 1)), (0, .ref (p 16)), (1, .int v1), (2, .int v2)], [.int (Int32.ofInt 0)], me_w M J)) rfl k
          have k := lz_ri rfl (by decide) k
          rw [k, x109, if_neg h8, if_pos h13, if_neg h44, if_pos h57]
        · rw [if_neg h57] at k
          have k := ly_revb 1 (c' := (61, [(3, .int (Int32.ofInt 1)), (0, .ref (p 16)), (1, .int v1), (2, .int v2)], [.ref (p 16)], me_w M J)) rfl k
          have k := lz_get (a := (p 16)) (g := 1007) (M := me_w M J) (v := .ref (p 31)) rfl (nt_gfR rfl (hp.1 (16, 7, 31) (by decide))) k
          have k := ly_revb 1 (c' := (65, [(3, .int (Int32.ofInt 1)), (0, .ref (p 16)), (1, .int v1), (2, .int v2)], [.int v1, .ref (p 31)], me_w M J)) rfl k
          obtain ⟨d1, o1, ed, kc, k⟩ := lz_c (g := 73) (q := 1) (vs := [.ref (p 31), .int v1]) (rest := []) rfl rfl (by decide) (Or.inr (Or.inl ⟨_, rfl, rfl⟩)) rfl k
          have e1 := xt73 hn kc
          subst e1
          have k : nt_rn X _ 109 (68, [(3, .int (Int32.ofInt 1)), (0, .ref (p 16)), (1, .int v1), (2, .int v2)], [.int (x73 (fun i => p (31 + i)) v1 J)], me_w M J) _ := k
          have k := ly_revb 1 (c' := (if (x73 (fun i => p (31 + i)) v1 J) = 0 then 71 else 73, [(3, .int (Int32.ofInt 1)), (0, .ref (p 16)), (1, .int v1), (2, .int v2)], [], me_w M J)) rfl k
          by_cases h68 : (x73 (fun i => p (31 + i)) v1 J) = 0
          · rw [if_pos h68] at k
            have k := ly_revb 1 (c' := (72, [(3, .int (Int32.ofInt 1)), (0, .ref (p 16)), (1, .int v1), (2, .int v2)], [.int (Int32.ofInt 0)], me_w M J)) rfl k
            have k := lz_ri rfl (by decide) k
            rw [k, x109, if_neg h8, if_pos h13, if_neg h44, if_neg h57, if_pos h68]
          · rw [if_neg h68] at k
            have k := ly_revb 3 (c' := (if v2 = (Int32.ofInt (-1)) then 92 else 78, [(3, .int (Int32.ofInt 1)), (0, .ref (p 16)), (1, .int v1), (2, .int v2)], [], me_w M J)) rfl k
            by_cases h75 : v2 = (Int32.ofInt (-1))
            · rw [if_pos h75] at k
              have k := ly_revb 1 (c' := (93, [(3, .int (Int32.ofInt 1)), (0, .ref (p 16)), (1, .int v1), (2, .int v2)], [.ref (p 16)], me_w M J)) rfl k
              have k := lz_get (a := (p 16)) (g := 1007) (M := me_w M J) (v := .ref (p 31)) rfl (nt_gfR rfl (hp.1 (16, 7, 31) (by decide))) k
              have k := ly_revb 2 (c' := (98, [(3, .int (Int32.ofInt 1)), (0, .ref (p 16)), (1, .int v1), (2, .int v2)], [.int v2, .int v1, .ref (p 31)], me_w M J)) rfl k
              obtain ⟨d1, o1, ed, kc, k⟩ := lz_c (g := 74) (q := 1) (vs := [.ref (p 31), .int v1, .int v2]) (rest := []) rfl rfl (by decide) (Or.inr (Or.inl ⟨_, rfl, rfl⟩)) rfl k
              have e1 := xt74 hn kc
              subst e1
              have k : nt_rn X _ 109 (101, [(3, .int (Int32.ofInt 1)), (0, .ref (p 16)), (1, .int v1), (2, .int v2)], [], me_w M (x74 (fun i => p (31 + i)) v1 v2 J)) _ := k
              have k := ly_revb 1 (c' := (102, [(3, .int (Int32.ofInt 1)), (0, .ref (p 16)), (1, .int v1), (2, .int v2)], [.int (Int32.ofInt 1)], me_w M (x74 (fun i => p (31 + i)) v1 v2 J))) rfl k
              have k := lz_ri rfl (by decide) k
              rw [k, x109, if_neg h8, if_pos h13, if_neg h44, if_neg h57, if_neg h68, if_pos h75]
            · rw [if_neg h75] at k
              have k := ly_revb 1 (c' := (79, [(3, .int (Int32.ofInt 1)), (0, .ref (p 16)), (1, .int v1), (2, .int v2)], [.ref (p 16)], me_w M J)) rfl k
              have k := lz_get (a := (p 16)) (g := 1007) (M := me_w M J) (v := .ref (p 31)) rfl (nt_gfR rfl (hp.1 (16, 7, 31) (by decide))) k
              have k := lz_get (a := (p 31)) (g := 607) (M := me_w M J) (v := .ref (p 41)) rfl (nt_gfR rfl (hn.1 (0, 7, 10) (by decide))) k
              have k := ly_revb 1 (c' := (86, [(3, .int (Int32.ofInt 1)), (0, .ref (p 16)), (1, .int v1), (2, .int v2)], [.int v2, .ref (p 41)], me_w M J)) rfl k
              have k := mx_iald (v := J (p 41) v2.toNatClampNeg) rfl (hp.2.2.1 41 (by omega)) (rfl) k
              have k := ly_revb 1 (c' := (if (J (p 41) v2.toNatClampNeg) = 0 then 92 else 90, [(3, .int (Int32.ofInt 1)), (0, .ref (p 16)), (1, .int v1), (2, .int v2)], [], me_w M J)) rfl k
              by_cases h87 : (J (p 41) v2.toNatClampNeg) = 0
              · rw [if_pos h87] at k
                have k := ly_revb 1 (c' := (93, [(3, .int (Int32.ofInt 1)), (0, .ref (p 16)), (1, .int v1), (2, .int v2)], [.ref (p 16)], me_w M J)) rfl k
                have k := lz_get (a := (p 16)) (g := 1007) (M := me_w M J) (v := .ref (p 31)) rfl (nt_gfR rfl (hp.1 (16, 7, 31) (by decide))) k
                have k := ly_revb 2 (c' := (98, [(3, .int (Int32.ofInt 1)), (0, .ref (p 16)), (1, .int v1), (2, .int v2)], [.int v2, .int v1, .ref (p 31)], me_w M J)) rfl k
                obtain ⟨d1, o1, ed, kc, k⟩ := lz_c (g := 74) (q := 1) (vs := [.ref (p 31), .int v1, .int v2]) (rest := []) rfl rfl (by decide) (Or.inr (Or.inl ⟨_, rfl, rfl⟩)) rfl k
                have e1 := xt74 hn kc
                subst e1
                have k : nt_rn X _ 109 (101, [(3, .int (Int32.ofInt 1)), (0, .ref (p 16)), (1, .int v1), (2, .int v2)], [], me_w M (x74 (fun i => p (31 + i)) v1 v2 J)) _ := k
                have k := ly_revb 1 (c' := (102, [(3, .int (Int32.ofInt 1)), (0, .ref (p 16)), (1, .int v1), (2, .int v2)], [.int (Int32.ofInt 1)], me_w M (x74 (fun i => p (31 + i)) v1 v2 J))) rfl k
                have k := lz_ri rfl (by decide) k
                rw [k, x109, if_neg h8, if_pos h13, if_neg h44, if_neg h57, if_neg h68, if_neg h75, if_pos h87]
              · rw [if_neg h87] at k
                have k := ly_revb 1 (c' := (91, [(3, .int (Int32.ofInt 1)), (0, .ref (p 16)), (1, .int v1), (2, .int v2)], [.int (Int32.ofInt 0)], me_w M J)) rfl k
                have k := lz_ri rfl (by decide) k
                rw [k, x109, if_neg h8, if_pos h13, if_neg h44, if_neg h57, if_neg h68, if_neg h75, if_neg h87]
    · rw [if_neg h13] at k
      have k := ly_revb 1 (c' := (17, [(0, .ref (p 16)), (1, .int v1), (2, .int v2)], [.ref (p 16)], me_w M J)) rfl k
      have k := lz_get (a := (p 16)) (g := 1007) (M := me_w M J) (v := .ref (p 31)) rfl (nt_gfR rfl (hp.1 (16, 7, 31) (by decide))) k
      have k := ly_revb 1 (c' := (21, [(0, .ref (p 16)), (1, .int v1), (2, .int v2)], [.int v2, .ref (p 31)], me_w M J)) rfl k
      obtain ⟨d1, o1, ed, kc, k⟩ := lz_c (g := 65) (q := 1) (vs := [.ref (p 31), .int v2]) (rest := []) rfl rfl (by decide) (Or.inr (Or.inl ⟨_, rfl, rfl⟩)) rfl k
      have e1 := xt65 hn kc
      subst e1
      have k : nt_rn X _ 109 (24, [(0, .ref (p 16)), (1, .int v1), (2, .int v2)], [.int (x65 (fun i => p (31 + i)) v2 J)], me_w M J) _ := k
      have k := ly_revb 1 (c' := (if (x65 (fun i => p (31 + i)) v2 J) = 0 then 31 else 27, [(0, .ref (p 16)), (1, .int v1), (2, .int v2)], [], me_w M J)) rfl k
      by_cases h24 : (x65 (fun i => p (31 + i)) v2 J) = 0
      · rw [if_pos h24] at k
        have k := ly_revb 4 (c' := (if (Int32.ofInt 0) = 0 then 71 else 37, [(3, .int (Int32.ofInt 0)), (0, .ref (p 16)), (1, .int v1), (2, .int v2)], [], me_w M J)) rfl k
        rw [if_pos (show (Int32.ofInt 0) = 0 from by decide)] at k
        have k := ly_revb 1 (c' := (72, [(3, .int (Int32.ofInt 0)), (0, .ref (p 16)), (1, .int v1), (2, .int v2)], [.int (Int32.ofInt 0)], me_w M J)) rfl k
        have k := lz_ri rfl (by decide) k
        rw [k, x109, if_neg h8, if_neg h13, if_pos h24]
      · rw [if_neg h24] at k
        have k := ly_revb 5 (c' := (if (Int32.ofInt 1) = 0 then 71 else 37, [(3, .int (Int32.ofInt 1)), (0, .ref (p 16)), (1, .int v1), (2, .int v2)], [], me_w M J)) rfl k
        rw [if_neg (show ¬ ((Int32.ofInt 1) = 0) from by decide)] at k
        have k := ly_revb 1 (c' := (38, [(3, .int (Int32.ofInt 1)), (0, .ref (p 16)), (1, .int v1), (2, .int v2)], [.ref (p 16)], me_w M J)) rfl k
        have k := lz_get (a := (p 16)) (g := 1007) (M := me_w M J) (v := .ref (p 31)) rfl (nt_gfR rfl (hp.1 (16, 7, 31) (by decide))) k
        obtain ⟨d1, o1, ed, kc, k⟩ := lz_c (g := 72) (q := 1) (vs := [.ref (p 31)]) (rest := []) rfl rfl (by decide) (Or.inr (Or.inl ⟨_, rfl, rfl⟩)) rfl k
        have e1 := xt72 hn kc
        subst e1
        have k : nt_rn X _ 109 (44, [(3, .int (Int32.ofInt 1)), (0, .ref (p 16)), (1, .int v1), (2, .int v2)], [.int (x72 (fun i => p (31 + i)) J)], me_w M J) _ := k
        have k := ly_revb 1 (c' := (if (x72 (fun i => p (31 + i)) J) ≤ 0 then 71 else 47, [(3, .int (Int32.ofInt 1)), (0, .ref (p 16)), (1, .int v1), (2, .int v2)], [], me_w M J)) rfl k
        by_cases h44 : (x72 (fun i => p (31 + i)) J) ≤ 0
        · rw [if_pos h44] at k
          have k := ly_revb 1 (c' := (72, [(3, .int (Int32.ofInt 1)), (0, .ref (p 16)), (1, .int v1), (2, .int v2)], [.int (Int32.ofInt 0)], me_w M J)) rfl k
          have k := lz_ri rfl (by decide) k
          rw [k, x109, if_neg h8, if_neg h13, if_neg h24, if_pos h44]
        · rw [if_neg h44] at k
          have k := ly_revb 1 (c' := (48, [(3, .int (Int32.ofInt 1)), (0, .ref (p 16)), (1, .int v1), (2, .int v2)], [.ref (p 16)], me_w M J)) rfl k
          have k := lz_get (a := (p 16)) (g := 1007) (M := me_w M J) (v := .ref (p 31)) rfl (nt_gfR rfl (hp.1 (16, 7, 31) (by decide))) k
          have k := lz_get (a := (p 31)) (g := 611) (M := me_w M J) (v := .ref (p 45)) rfl (nt_gfR rfl (hn.1 (0, 11, 14) (by decide))) k
          have k := ly_revb 1 (c' := (55, [(3, .int (Int32.ofInt 1)), (0, .ref (p 16)), (1, .int v1), (2, .int v2)], [.int v1, .ref (p 45)], me_w M J)) rfl k
          have k := mx_iald (v := J (p 45) v1.toNatClampNeg) rfl (hp.2.2.1 45 (by omega)) (rfl) k
          have k := ly_revb 2 (c' := (if (J (p 45) v1.toNatClampNeg) = v2 then 71 else 60, [(3, .int (Int32.ofInt 1)), (0, .ref (p 16)), (1, .int v1), (2, .int v2)], [], me_w M J)) rfl k
          by_cases h57 : (J (p 45) v1.toNatClampNeg) = v2
          · rw [if_pos h57] at k
            have k := ly_revb 1 (c' := (72, [(3, .int (Int32.ofInt 1)), (0, .ref (p 16)), (1, .int v1), (2, .int v2)], [.int (Int32.ofInt 0)], me_w M J)) rfl k
            have k := lz_ri rfl (by decide) k
            rw [k, x109, if_neg h8, if_neg h13, if_neg h24, if_neg h44, if_pos h57]
          · rw [if_neg h57] at k
            have k := ly_revb 1 (c' := (61, [(3, .int (Int32.ofInt 1)), (0, .ref (p 16)), (1, .int v1), (2, .int v2)], [.ref (p 16)], me_w M J)) rfl k
            have k := lz_get (a := (p 16)) (g := 1007) (M := me_w M J) (v := .ref (p 31)) rfl (nt_gfR rfl (hp.1 (16, 7, 31) (by decide))) k
            have k := ly_revb 1 (c' := (65, [(3, .int (Int32.ofInt 1)), (0, .ref (p 16)), (1, .int v1), (2, .int v2)], [.int v1, .ref (p 31)], me_w M J)) rfl k
            obtain ⟨d1, o1, ed, kc, k⟩ := lz_c (g := 73) (q := 1) (vs := [.ref (p 31), .int v1]) (rest := []) rfl rfl (by decide) (Or.inr (Or.inl ⟨_, rfl, rfl⟩)) rfl k
            have e1 := xt73 hn kc
            subst e1
            have k : nt_rn X _ 109 (68, [(3, .int (Int32.ofInt 1)), (0, .ref (p 16)), (1, .int v1), (2, .int v2)], [.int (x73 (fun i => p (31 + i)) v1 J)], me_w M J) _ := k
            have k := ly_revb 1 (c' := (if (x73 (fun i => p (31 + i)) v1 J) = 0 then 71 else 73, [(3, .int (Int32.ofInt 1)), (0, .ref (p 16)), (1, .int v1), (2, .int v2)], [], me_w M J)) rfl k
            by_cases h68 : (x73 (fun i => p (31 + i)) v1 J) = 0
            · rw [if_pos h68] at k
              have k := ly_revb 1 (c' := (72, [(3, .int (Int32.ofInt 1)), (0, .ref (p 16)), (1, .int v1), (2, .int v2)], [.int (Int32.ofInt 0)], me_w M J)) rfl k
              have k := lz_ri rfl (by decide) k
              rw [k, x109, if_neg h8, if_neg h13, if_neg h24, if_neg h44, if_neg h57, if_pos h68]
            · rw [if_neg h68] at k
              have k := ly_revb 3 (c' := (if v2 = (Int32.ofInt (-1)) then 92 else 78, [(3, .int (Int32.ofInt 1)), (0, .ref (p 16)), (1, .int v1), (2, .int v2)], [], me_w M J)) rfl k
              by_cases h75 : v2 = (Int32.ofInt (-1))
              · rw [if_pos h75] at k
                have k := ly_revb 1 (c' := (93, [(3, .int (Int32.ofInt 1)), (0, .ref (p 16)), (1, .int v1), (2, .int v2)], [.ref (p 16)], me_w M J)) rfl k
                have k := lz_get (a := (p 16)) (g := 1007) (M := me_w M J) (v := .ref (p 31)) rfl (nt_gfR rfl (hp.1 (16, 7, 31) (by decide))) k
                have k := ly_revb 2 (c' := (98, [(3, .int (Int32.ofInt 1)), (0, .ref (p 16)), (1, .int v1), (2, .int v2)], [.int v2, .int v1, .ref (p 31)], me_w M J)) rfl k
                obtain ⟨d1, o1, ed, kc, k⟩ := lz_c (g := 74) (q := 1) (vs := [.ref (p 31), .int v1, .int v2]) (rest := []) rfl rfl (by decide) (Or.inr (Or.inl ⟨_, rfl, rfl⟩)) rfl k
                have e1 := xt74 hn kc
                subst e1
                have k : nt_rn X _ 109 (101, [(3, .int (Int32.ofInt 1)), (0, .ref (p 16)), (1, .int v1), (2, .int v2)], [], me_w M (x74 (fun i => p (31 + i)) v1 v2 J)) _ := k
                have k := ly_revb 1 (c' := (102, [(3, .int (Int32.ofInt 1)), (0, .ref (p 16)), (1, .int v1), (2, .int v2)], [.int (Int32.ofInt 1)], me_w M (x74 (fun i => p (31 + i)) v1 v2 J))) rfl k
                have k := lz_ri rfl (by decide) k
                rw [k, x109, if_neg h8, if_neg h13, if_neg h24, if_neg h44, if_neg h57, if_neg h68, if_pos h75]
              · rw [if_neg h75] at k
                have k := ly_revb 1 (c' := (79, [(3, .int (Int32.ofInt 1)), (0, .ref (p 16)), (1, .int v1), (2, .int v2)], [.ref (p 16)], me_w M J)) rfl k
                have k := lz_get (a := (p 16)) (g := 1007) (M := me_w M J) (v := .ref (p 31)) rfl (nt_gfR rfl (hp.1 (16, 7, 31) (by decide))) k
                have k := lz_get (a := (p 31)) (g := 607) (M := me_w M J) (v := .ref (p 41)) rfl (nt_gfR rfl (hn.1 (0, 7, 10) (by decide))) k
                have k := ly_revb 1 (c' := (86, [(3, .int (Int32.ofInt 1)), (0, .ref (p 16)), (1, .int v1), (2, .int v2)], [.int v2, .ref (p 41)], me_w M J)) rfl k
                have k := mx_iald (v := J (p 41) v2.toNatClampNeg) rfl (hp.2.2.1 41 (by omega)) (rfl) k
                have k := ly_revb 1 (c' := (if (J (p 41) v2.toNatClampNeg) = 0 then 92 else 90, [(3, .int (Int32.ofInt 1)), (0, .ref (p 16)), (1, .int v1), (2, .int v2)], [], me_w M J)) rfl k
                by_cases h87 : (J (p 41) v2.toNatClampNeg) = 0
                · rw [if_pos h87] at k
                  have k := ly_revb 1 (c' := (93, [(3, .int (Int32.ofInt 1)), (0, .ref (p 16)), (1, .int v1), (2, .int v2)], [.ref (p 16)], me_w M J)) rfl k
                  have k := lz_get (a := (p 16)) (g := 1007) (M := me_w M J) (v := .ref (p 31)) rfl (nt_gfR rfl (hp.1 (16, 7, 31) (by decide))) k
                  have k := ly_revb 2 (c' := (98, [(3, .int (Int32.ofInt 1)), (0, .ref (p 16)), (1, .int v1), (2, .int v2)], [.int v2, .int v1, .ref (p 31)], me_w M J)) rfl k
                  obtain ⟨d1, o1, ed, kc, k⟩ := lz_c (g := 74) (q := 1) (vs := [.ref (p 31), .int v1, .int v2]) (rest := []) rfl rfl (by decide) (Or.inr (Or.inl ⟨_, rfl, rfl⟩)) rfl k
                  have e1 := xt74 hn kc
                  subst e1
                  have k : nt_rn X _ 109 (101, [(3, .int (Int32.ofInt 1)), (0, .ref (p 16)), (1, .int v1), (2, .int v2)], [], me_w M (x74 (fun i => p (31 + i)) v1 v2 J)) _ := k
                  have k := ly_revb 1 (c' := (102, [(3, .int (Int32.ofInt 1)), (0, .ref (p 16)), (1, .int v1), (2, .int v2)], [.int (Int32.ofInt 1)], me_w M (x74 (fun i => p (31 + i)) v1 v2 J))) rfl k
                  have k := lz_ri rfl (by decide) k
                  rw [k, x109, if_neg h8, if_neg h13, if_neg h24, if_neg h44, if_neg h57, if_neg h68, if_neg h75, if_pos h87]
                · rw [if_neg h87] at k
                  have k := ly_revb 1 (c' := (91, [(3, .int (Int32.ofInt 1)), (0, .ref (p 16)), (1, .int v1), (2, .int v2)], [.int (Int32.ofInt 0)], me_w M J)) rfl k
                  have k := lz_ri rfl (by decide) k
                  rw [k, x109, if_neg h8, if_neg h13, if_neg h24, if_neg h44, if_neg h57, if_neg h68, if_neg h75, if_neg h87]
theorem x109_frJ {p : Nat → Nat} {v1 : Int32} {v2 : Int32} {J : Nat → Nat → Int32} {b : Nat} (n0 : b ≠ p 31) (n1 : b ≠ p 45) : (x109 p v1 v2 J).2 b = J b := by
  unfold x109
  by_cases h : (x70 (fun i => p (31 + i)) v1 J) = 0
  · rw [if_pos h]
    all_goals first | (dsimp only; exact (show J b = J b from rfl)) | exact (show J b = J b from rfl)
  · rw [if_neg h]
    by_cases h : v2 = (Int32.ofInt (-1))
    · rw [if_pos h]
      by_cases h : (x72 (fun i => p (31 + i)) J) ≤ 0
      · rw [if_pos h]
        all_goals first | (dsimp only; exact (show J b = J b from rfl)) | exact (show J b = J b from rfl)
      · rw [if_neg h]
        by_cases h : (J (p 45) v1.toNatClampNeg) = v2
        · rw [if_pos h]
          all_goals first | (dsimp only; exact (show J b = J b from rfl)) | exact (show J b = J b from rfl)
        · rw [if_neg h]
          by_cases h : (x73 (fun i => p (31 + i)) v1 J) = 0
          · rw [if_pos h]
            all_goals first | (dsimp only; exact (show J b = J b from rfl)) | exact (show J b = J b from rfl)
          · rw [if_neg h]
            by_cases h : v2 = (Int32.ofInt (-1))
            · rw [if_pos h]
              all_goals first | (dsimp only; exact (show (x74 (fun i => p (31 + i)) v1 v2 J) b = J b from x74_frJ  n0 n1)) | exact (show (x74 (fun i => p (31 + i)) v1 v2 J) b = J b from x74_frJ  n0 n1)
            · rw [if_neg h]
              by_cases h : (J (p 41) v2.toNatClampNeg) = 0
              · rw [if_pos h]
                all_goals first | (dsimp only; exact (show (x74 (fun i => p (31 + i)) v1 v2 J) b = J b from x74_frJ  n0 n1)) | exact (show (x74 (fun i => p (31 + i)) v1 v2 J) b = J b from x74_frJ  n0 n1)
              · rw [if_neg h]
                all_goals first | (dsimp only; exact (show J b = J b from rfl)) | exact (show J b = J b from rfl)
    · rw [if_neg h]
      by_cases h : (x65 (fun i => p (31 + i)) v2 J) = 0
      · rw [if_pos h]
        all_goals first | (dsimp only; exact (show J b = J b from rfl)) | exact (show J b = J b from rfl)
      · rw [if_neg h]
        by_cases h : (x72 (fun i => p (31 + i)) J) ≤ 0
        · rw [if_pos h]
          all_goals first | (dsimp only; exact (show J b = J b from rfl)) | exact (show J b = J b from rfl)
        · rw [if_neg h]
          by_cases h : (J (p 45) v1.toNatClampNeg) = v2
          · rw [if_pos h]
            all_goals first | (dsimp only; exact (show J b = J b from rfl)) | exact (show J b = J b from rfl)
          · rw [if_neg h]
            by_cases h : (x73 (fun i => p (31 + i)) v1 J) = 0
            · rw [if_pos h]
              all_goals first | (dsimp only; exact (show J b = J b from rfl)) | exact (show J b = J b from rfl)
            · rw [if_neg h]
              by_cases h : v2 = (Int32.ofInt (-1))
              · rw [if_pos h]
                all_goals first | (dsimp only; exact (show (x74 (fun i => p (31 + i)) v1 v2 J) b = J b from x74_frJ  n0 n1)) | exact (show (x74 (fun i => p (31 + i)) v1 v2 J) b = J b from x74_frJ  n0 n1)
              · rw [if_neg h]
                by_cases h : (J (p 41) v2.toNatClampNeg) = 0
                · rw [if_pos h]
                  all_goals first | (dsimp only; exact (show (x74 (fun i => p (31 + i)) v1 v2 J) b = J b from x74_frJ  n0 n1)) | exact (show (x74 (fun i => p (31 + i)) v1 v2 J) b = J b from x74_frJ  n0 n1)
                · rw [if_neg h]
                  all_goals first | (dsimp only; exact (show J b = J b from rfl)) | exact (show J b = J b from rfl)
/-! .seed -/
def x124 (p : Nat → Nat) (v1 : Int32) (J : Nat → Nat → Int32) : Int32 × (Nat → Nat → Int32) := if 0 ≤ v1 then (J (p 31) 6, nt_u J (p 31) 6 v1)
  else (Int32.ofInt (-1), J)
theorem xt124 {X : nt_X} {d : Nat} {M : nt_M} {o : Option Value × nt_M} {p : Nat → Nat} {v1 : Int32} {J : Nat → Nat → Int32} (hp : xs_P M p) (hn : xs_Q M (fun i => p (31 + i))) (k : nt_ev X d 124 [.ref (p 16), .int v1] (me_w M J) o) : o = (some (.int ((x124 p v1 J).1)), me_w M ((x124 p v1 J).2)) := by
  have k : nt_rn X d 124 (0, [(0, .ref (p 16)), (1, .int v1)], [], me_w M J) o := k
  have k := ly_revb 2 (c' := (if 0 ≤ v1 then 6 else 4, [(0, .ref (p 16)), (1, .int v1)], [], me_w M J)) rfl k
  by_cases h1 : 0 ≤ v1
  · rw [if_pos h1] at k
    have k := ly_revb 1 (c' := (7, [(0, .ref (p 16)), (1, .int v1)], [.ref (p 16)], me_w M J)) rfl k
    have k := lz_get (a := (p 16)) (g := 1007) (M := me_w M J) (v := .ref (p 31)) rfl (nt_gfR rfl (hp.1 (16, 7, 31) (by decide))) k
    have k := lz_get (a := (p 31)) (g := 606) (M := me_w M J) (v := .int (J (p 31) 6)) rfl (congrArg Value.int (rfl)) k
    have k := ly_revb 2 (c' := (15, [(2, .int (J (p 31) 6)), (0, .ref (p 16)), (1, .int v1)], [.ref (p 16)], me_w M J)) rfl k
    have k := lz_get (a := (p 16)) (g := 1007) (M := me_w M J) (v := .ref (p 31)) rfl (nt_gfR rfl (hp.1 (16, 7, 31) (by decide))) k
    have k := ly_revb 1 (c' := (19, [(2, .int (J (p 31) 6)), (0, .ref (p 16)), (1, .int v1)], [.int v1, .ref (p 31)], me_w M J)) rfl k
    have k := me_put rfl (by decide) k
    have k : nt_rn X _ 124 (22, [(2, .int (J (p 31) 6)), (0, .ref (p 16)), (1, .int v1)], [], me_w M (nt_u J (p 31) 6 v1)) _ := k
    have k := ly_revb 1 (c' := (23, [(2, .int (J (p 31) 6)), (0, .ref (p 16)), (1, .int v1)], [.int (J (p 31) 6)], me_w M (nt_u J (p 31) 6 v1))) rfl k
    have k := lz_ri rfl (by decide) k
    rw [k, x124, if_pos h1]
  · rw [if_neg h1] at k
    have k := ly_revb 1 (c' := (5, [(0, .ref (p 16)), (1, .int v1)], [.int (Int32.ofInt (-1))], me_w M J)) rfl k
    have k := lz_ri rfl (by decide) k
    rw [k, x124, if_neg h1]
theorem x124_frJ {p : Nat → Nat} {v1 : Int32} {J : Nat → Nat → Int32} {b : Nat} (n0 : b ≠ p 31) : (x124 p v1 J).2 b = J b := by
  unfold x124
  by_cases h : 0 ≤ v1
  · rw [if_pos h]
    all_goals first | (dsimp only; exact (show (nt_u J (p 31) 6 v1) b = J b from mu_o n0)) | exact (show (nt_u J (p 31) 6 v1) b = J b from mu_o n0)
  · rw [if_neg h]
    all_goals first | (dsimp only; exact (show J b = J b from rfl)) | exact (show J b = J b from rfl)
/-! .hasRule -/
def x111 (p : Nat → Nat) (v1 : Int32) (J : Nat → Nat → Int32) : Int32 := if v1 < (Int32.ofInt (-1)) then (Int32.ofInt 0)
  else if (J (p 16) 4) ≤ v1 then (Int32.ofInt 0)
    else (Int32.ofInt 1)
theorem xt111 {X : nt_X} {d : Nat} {M : nt_M} {o : Option Value × nt_M} {p : Nat → Nat} {v1 : Int32} {J : Nat → Nat → Int32} (hp : xs_P M p) (k : nt_ev X d 111 [.ref (p 16), .int v1] (me_w M J) o) : o = (some (.int (x111 p v1 J)), me_w M J) := by
  have k : nt_rn X d 111 (0, [(0, .ref (p 16)), (1, .int v1)], [], me_w M J) o := k
  have k := ly_revb 3 (c' := (if v1 < (Int32.ofInt (-1)) then 17 else 5, [(0, .ref (p 16)), (1, .int v1)], [], me_w M J)) rfl k
  by_cases h2 : v1 < (Int32.ofInt (-1))
  · rw [if_pos h2] at k
    have k := ly_revb 1 (c' := (18, [(0, .ref (p 16)), (1, .int v1)], [.int (Int32.ofInt 0)], me_w M J)) rfl k
    have k := lz_ri rfl (by decide) k
    rw [k, x111, if_pos h2]
  · rw [if_neg h2] at k
    have k := ly_revb 2 (c' := (7, [(0, .ref (p 16)), (1, .int v1)], [.ref (p 16), .int v1], me_w M J)) rfl k
    have k := lz_get (a := (p 16)) (g := 1004) (M := me_w M J) (v := .int (J (p 16) 4)) rfl (congrArg Value.int (rfl)) k
    have k := ly_revb 1 (c' := (if (J (p 16) 4) ≤ v1 then 17 else 13, [(0, .ref (p 16)), (1, .int v1)], [], me_w M J)) rfl k
    by_cases h10 : (J (p 16) 4) ≤ v1
    · rw [if_pos h10] at k
      have k := ly_revb 1 (c' := (18, [(0, .ref (p 16)), (1, .int v1)], [.int (Int32.ofInt 0)], me_w M J)) rfl k
      have k := lz_ri rfl (by decide) k
      rw [k, x111, if_neg h2, if_pos h10]
    · rw [if_neg h10] at k
      have k := ly_revb 2 (c' := (18, [(0, .ref (p 16)), (1, .int v1)], [.int (Int32.ofInt 1)], me_w M J)) rfl k
      have k := lz_ri rfl (by decide) k
      rw [k, x111, if_neg h2, if_neg h10]
/-! .count -/
def x126 (p : Nat → Nat) (v1 : Int32) (J : Nat → Nat → Int32) : Int32 := if v1.toInt < 0 ∨ 11 < v1.toInt then (Int32.ofInt (-1))
  else if v1 = Int32.ofInt 0 then (J (p 32) 0)
    else if v1 = Int32.ofInt 1 then (J (p 32) 1)
      else if v1 = Int32.ofInt 2 then (J (p 32) 2)
        else if v1 = Int32.ofInt 3 then (J (p 32) 3)
          else if v1 = Int32.ofInt 4 then (J (p 16) 4)
            else if v1 = Int32.ofInt 5 then (J (p 31) 2)
              else if v1 = Int32.ofInt 6 then (x72 (fun i => p (31 + i)) J)
                else if v1 = Int32.ofInt 7 then (J (p 31) 5)
                  else if v1 = Int32.ofInt 8 then (x66 (fun i => p (31 + i)) (Int32.ofInt (-1)) J)
                    else if v1 = Int32.ofInt 9 then (J (p 31) 4)
                      else if v1 = Int32.ofInt 10 then (J (p 31) 6)
                        else (J (p 17) 1)
theorem xt126 {X : nt_X} {d : Nat} {M : nt_M} {o : Option Value × nt_M} {p : Nat → Nat} {v1 : Int32} {J : Nat → Nat → Int32} (hp : xs_P M p) (hn : xs_Q M (fun i => p (31 + i))) (k : nt_ev X d 126 [.ref (p 16), .int v1] (me_w M J) o) : o = (some (.int (x126 p v1 J)), me_w M J) := by
  have k : nt_rn X d 126 (0, [(0, .ref (p 16)), (1, .int v1)], [], me_w M J) o := k
  have k := ly_revb 1 (c' := (1, [(0, .ref (p 16)), (1, .int v1)], [.int v1], me_w M J)) rfl k
  by_cases h1 : v1.toInt < 0 ∨ 11 < v1.toInt
  · have k := mx_tsd (q := 170) rfl h1 (by decide) k
    have k : nt_rn X _ 126 (170, [(0, .ref (p 16)), (1, .int v1)], [], me_w M J) _ := k
    have k := ly_revb 1 (c' := (171, [(0, .ref (p 16)), (1, .int v1)], [.int (Int32.ofInt (-1))], me_w M J)) rfl k
    have k := lz_ri rfl (by decide) k
    rw [k, x126, if_pos h1]
  · by_cases h1_0 : v1 = Int32.ofInt 0
    · have k := mx_tsc (q := 64) (off := 63) rfl h1 (by rw [h1_0]; rfl) (by decide) k
      have k : nt_rn X _ 126 (64, [(0, .ref (p 16)), (1, .int v1)], [], me_w M J) _ := k
      have k := ly_revb 1 (c' := (65, [(0, .ref (p 16)), (1, .int v1)], [.ref (p 16)], me_w M J)) rfl k
      have k := lz_get (a := (p 16)) (g := 1007) (M := me_w M J) (v := .ref (p 31)) rfl (nt_gfR rfl (hp.1 (16, 7, 31) (by decide))) k
      have k := lz_get (a := (p 31)) (g := 600) (M := me_w M J) (v := .ref (p 32)) rfl (nt_gfR rfl (hn.1 (0, 0, 1) (by decide))) k
      have k := lz_get (a := (p 32)) (g := 800) (M := me_w M J) (v := .int (J (p 32) 0)) rfl (congrArg Value.int (rfl)) k
      have k := lz_ri rfl (by decide) k
      rw [k, x126, if_neg h1, if_pos h1_0]
    · by_cases h1_1 : v1 = Int32.ofInt 1
      · have k := mx_tsc (q := 75) (off := 74) rfl h1 (by rw [h1_1]; rfl) (by decide) k
        have k : nt_rn X _ 126 (75, [(0, .ref (p 16)), (1, .int v1)], [], me_w M J) _ := k
        have k := ly_revb 1 (c' := (76, [(0, .ref (p 16)), (1, .int v1)], [.ref (p 16)], me_w M J)) rfl k
        have k := lz_get (a := (p 16)) (g := 1007) (M := me_w M J) (v := .ref (p 31)) rfl (nt_gfR rfl (hp.1 (16, 7, 31) (by decide))) k
        have k := lz_get (a := (p 31)) (g := 600) (M := me_w M J) (v := .ref (p 32)) rfl (nt_gfR rfl (hn.1 (0, 0, 1) (by decide))) k
        have k := lz_get (a := (p 32)) (g := 801) (M := me_w M J) (v := .int (J (p 32) 1)) rfl (congrArg Value.int (rfl)) k
        have k := lz_ri rfl (by decide) k
        rw [k, x126, if_neg h1, if_neg h1_0, if_pos h1_1]
      · by_cases h1_2 : v1 = Int32.ofInt 2
        · have k := mx_tsc (q := 86) (off := 85) rfl h1 (by rw [h1_2]; rfl) (by decide) k
          have k : nt_rn X _ 126 (86, [(0, .ref (p 16)), (1, .int v1)], [], me_w M J) _ := k
          have k := ly_revb 1 (c' := (87, [(0, .ref (p 16)), (1, .int v1)], [.ref (p 16)], me_w M J)) rfl k
          have k := lz_get (a := (p 16)) (g := 1007) (M := me_w M J) (v := .ref (p 31)) rfl (nt_gfR rfl (hp.1 (16, 7, 31) (by decide))) k
          have k := lz_get (a := (p 31)) (g := 600) (M := me_w M J) (v := .ref (p 32)) rfl (nt_gfR rfl (hn.1 (0, 0, 1) (by decide))) k
          have k := lz_get (a := (p 32)) (g := 802) (M := me_w M J) (v := .int (J (p 32) 2)) rfl (congrArg Value.int (rfl)) k
          have k := lz_ri rfl (by decide) k
          rw [k, x126, if_neg h1, if_neg h1_0, if_neg h1_1, if_pos h1_2]
        · by_cases h1_3 : v1 = Int32.ofInt 3
          · have k := mx_tsc (q := 97) (off := 96) rfl h1 (by rw [h1_3]; rfl) (by decide) k
            have k : nt_rn X _ 126 (97, [(0, .ref (p 16)), (1, .int v1)], [], me_w M J) _ := k
            have k := ly_revb 1 (c' := (98, [(0, .ref (p 16)), (1, .int v1)], [.ref (p 16)], me_w M J)) rfl k
            have k := lz_get (a := (p 16)) (g := 1007) (M := me_w M J) (v := .ref (p 31)) rfl (nt_gfR rfl (hp.1 (16, 7, 31) (by decide))) k
            have k := lz_get (a := (p 31)) (g := 600) (M := me_w M J) (v := .ref (p 32)) rfl (nt_gfR rfl (hn.1 (0, 0, 1) (by decide))) k
            have k := lz_get (a := (p 32)) (g := 803) (M := me_w M J) (v := .int (J (p 32) 3)) rfl (congrArg Value.int (rfl)) k
            have k := lz_ri rfl (by decide) k
            rw [k, x126, if_neg h1, if_neg h1_0, if_neg h1_1, if_neg h1_2, if_pos h1_3]
          · by_cases h1_4 : v1 = Int32.ofInt 4
            · have k := mx_tsc (q := 108) (off := 107) rfl h1 (by rw [h1_4]; rfl) (by decide) k
              have k : nt_rn X _ 126 (108, [(0, .ref (p 16)), (1, .int v1)], [], me_w M J) _ := k
              have k := ly_revb 1 (c' := (109, [(0, .ref (p 16)), (1, .int v1)], [.ref (p 16)], me_w M J)) rfl k
              have k := lz_get (a := (p 16)) (g := 1004) (M := me_w M J) (v := .int (J (p 16) 4)) rfl (congrArg Value.int (rfl)) k
              have k := lz_ri rfl (by decide) k
              rw [k, x126, if_neg h1, if_neg h1_0, if_neg h1_1, if_neg h1_2, if_neg h1_3, if_pos h1_4]
            · by_cases h1_5 : v1 = Int32.ofInt 5
              · have k := mx_tsc (q := 113) (off := 112) rfl h1 (by rw [h1_5]; rfl) (by decide) k
                have k : nt_rn X _ 126 (113, [(0, .ref (p 16)), (1, .int v1)], [], me_w M J) _ := k
                have k := ly_revb 1 (c' := (114, [(0, .ref (p 16)), (1, .int v1)], [.ref (p 16)], me_w M J)) rfl k
                have k := lz_get (a := (p 16)) (g := 1007) (M := me_w M J) (v := .ref (p 31)) rfl (nt_gfR rfl (hp.1 (16, 7, 31) (by decide))) k
                have k := lz_get (a := (p 31)) (g := 602) (M := me_w M J) (v := .int (J (p 31) 2)) rfl (congrArg Value.int (rfl)) k
                have k := lz_ri rfl (by decide) k
                rw [k, x126, if_neg h1, if_neg h1_0, if_neg h1_1, if_neg h1_2, if_neg h1_3, if_neg h1_4, if_pos h1_5]
              · by_cases h1_6 : v1 = Int32.ofInt 6
                · have k := mx_tsc (q := 121) (off := 120) rfl h1 (by rw [h1_6]; rfl) (by decide) k
                  have k : nt_rn X _ 126 (121, [(0, .ref (p 16)), (1, .int v1)], [], me_w M J) _ := k
                  have k := ly_revb 1 (c' := (122, [(0, .ref (p 16)), (1, .int v1)], [.ref (p 16)], me_w M J)) rfl k
                  have k := lz_get (a := (p 16)) (g := 1007) (M := me_w M J) (v := .ref (p 31)) rfl (nt_gfR rfl (hp.1 (16, 7, 31) (by decide))) k
                  obtain ⟨d1, o1, ed, kc, k⟩ := lz_c (g := 72) (q := 1) (vs := [.ref (p 31)]) (rest := []) rfl rfl (by decide) (Or.inr (Or.inl ⟨_, rfl, rfl⟩)) rfl k
                  have e1 := xt72 hn kc
                  subst e1
                  have k : nt_rn X _ 126 (128, [(0, .ref (p 16)), (1, .int v1)], [.int (x72 (fun i => p (31 + i)) J)], me_w M J) _ := k
                  have k := lz_ri rfl (by decide) k
                  rw [k, x126, if_neg h1, if_neg h1_0, if_neg h1_1, if_neg h1_2, if_neg h1_3, if_neg h1_4, if_neg h1_5, if_pos h1_6]
                · by_cases h1_7 : v1 = Int32.ofInt 7
                  · have k := mx_tsc (q := 129) (off := 128) rfl h1 (by rw [h1_7]; rfl) (by decide) k
                    have k : nt_rn X _ 126 (129, [(0, .ref (p 16)), (1, .int v1)], [], me_w M J) _ := k
                    have k := ly_revb 1 (c' := (130, [(0, .ref (p 16)), (1, .int v1)], [.ref (p 16)], me_w M J)) rfl k
                    have k := lz_get (a := (p 16)) (g := 1007) (M := me_w M J) (v := .ref (p 31)) rfl (nt_gfR rfl (hp.1 (16, 7, 31) (by decide))) k
                    have k := lz_get (a := (p 31)) (g := 605) (M := me_w M J) (v := .int (J (p 31) 5)) rfl (congrArg Value.int (rfl)) k
                    have k := lz_ri rfl (by decide) k
                    rw [k, x126, if_neg h1, if_neg h1_0, if_neg h1_1, if_neg h1_2, if_neg h1_3, if_neg h1_4, if_neg h1_5, if_neg h1_6, if_pos h1_7]
                  · by_cases h1_8 : v1 = Int32.ofInt 8
                    · have k := mx_tsc (q := 137) (off := 136) rfl h1 (by rw [h1_8]; rfl) (by decide) k
                      have k : nt_rn X _ 126 (137, [(0, .ref (p 16)), (1, .int v1)], [], me_w M J) _ := k
                      have k := ly_revb 1 (c' := (138, [(0, .ref (p 16)), (1, .int v1)], [.ref (p 16)], me_w M J)) rfl k
                      have k := lz_get (a := (p 16)) (g := 1007) (M := me_w M J) (v := .ref (p 31)) rfl (nt_gfR rfl (hp.1 (16, 7, 31) (by decide))) k
                      have k := ly_revb 1 (c' := (142, [(0, .ref (p 16)), (1, .int v1)], [.int (Int32.ofInt (-1)), .ref (p 31)], me_w M J)) rfl k
                      obtain ⟨d1, o1, ed, kc, k⟩ := lz_c (g := 66) (q := 1) (vs := [.ref (p 31), .int (Int32.ofInt (-1))]) (rest := []) rfl rfl (by decide) (Or.inr (Or.inl ⟨_, rfl, rfl⟩)) rfl k
                      have e1 := xt66 hn kc
                      subst e1
                      have k : nt_rn X _ 126 (145, [(0, .ref (p 16)), (1, .int v1)], [.int (x66 (fun i => p (31 + i)) (Int32.ofInt (-1)) J)], me_w M J) _ := k
                      have k := lz_ri rfl (by decide) k
                      rw [k, x126, if_neg h1, if_neg h1_0, if_neg h1_1, if_neg h1_2, if_neg h1_3, if_neg h1_4, if_neg h1_5, if_neg h1_6, if_neg h1_7, if_pos h1_8]
                    · by_cases h1_9 : v1 = Int32.ofInt 9
                      · have k := mx_tsc (q := 146) (off := 145) rfl h1 (by rw [h1_9]; rfl) (by decide) k
                        have k : nt_rn X _ 126 (146, [(0, .ref (p 16)), (1, .int v1)], [], me_w M J) _ := k
                        have k := ly_revb 1 (c' := (147, [(0, .ref (p 16)), (1, .int v1)], [.ref (p 16)], me_w M J)) rfl k
                        have k := lz_get (a := (p 16)) (g := 1007) (M := me_w M J) (v := .ref (p 31)) rfl (nt_gfR rfl (hp.1 (16, 7, 31) (by decide))) k
                        have k := lz_get (a := (p 31)) (g := 604) (M := me_w M J) (v := .int (J (p 31) 4)) rfl (congrArg Value.int (rfl)) k
                        have k := lz_ri rfl (by decide) k
                        rw [k, x126, if_neg h1, if_neg h1_0, if_neg h1_1, if_neg h1_2, if_neg h1_3, if_neg h1_4, if_neg h1_5, if_neg h1_6, if_neg h1_7, if_neg h1_8, if_pos h1_9]
                      · by_cases h1_10 : v1 = Int32.ofInt 10
                        · have k := mx_tsc (q := 154) (off := 153) rfl h1 (by rw [h1_10]; rfl) (by decide) k
                          have k : nt_rn X _ 126 (154, [(0, .ref (p 16)), (1, .int v1)], [], me_w M J) _ := k
                          have k := ly_revb 1 (c' := (155, [(0, .ref (p 16)), (1, .int v1)], [.ref (p 16)], me_w M J)) rfl k
                          have k := lz_get (a := (p 16)) (g := 1007) (M := me_w M J) (v := .ref (p 31)) rfl (nt_gfR rfl (hp.1 (16, 7, 31) (by decide))) k
                          have k := lz_get (a := (p 31)) (g := 606) (M := me_w M J) (v := .int (J (p 31) 6)) rfl (congrArg Value.int (rfl)) k
                          have k := lz_ri rfl (by decide) k
                          rw [k, x126, if_neg h1, if_neg h1_0, if_neg h1_1, if_neg h1_2, if_neg h1_3, if_neg h1_4, if_neg h1_5, if_neg h1_6, if_neg h1_7, if_neg h1_8, if_neg h1_9, if_pos h1_10]
                        · have hz : v1 = Int32.ofInt 11 := by
                            have z1 := h1
                            have y0 : v1.toInt ≠ 0 := fun e => h1_0 (Int32.toInt_inj.mp (e.trans (by decide)))
                            have y1 : v1.toInt ≠ 1 := fun e => h1_1 (Int32.toInt_inj.mp (e.trans (by decide)))
                            have y2 : v1.toInt ≠ 2 := fun e => h1_2 (Int32.toInt_inj.mp (e.trans (by decide)))
                            have y3 : v1.toInt ≠ 3 := fun e => h1_3 (Int32.toInt_inj.mp (e.trans (by decide)))
                            have y4 : v1.toInt ≠ 4 := fun e => h1_4 (Int32.toInt_inj.mp (e.trans (by decide)))
                            have y5 : v1.toInt ≠ 5 := fun e => h1_5 (Int32.toInt_inj.mp (e.trans (by decide)))
                            have y6 : v1.toInt ≠ 6 := fun e => h1_6 (Int32.toInt_inj.mp (e.trans (by decide)))
                            have y7 : v1.toInt ≠ 7 := fun e => h1_7 (Int32.toInt_inj.mp (e.trans (by decide)))
                            have y8 : v1.toInt ≠ 8 := fun e => h1_8 (Int32.toInt_inj.mp (e.trans (by decide)))
                            have y9 : v1.toInt ≠ 9 := fun e => h1_9 (Int32.toInt_inj.mp (e.trans (by decide)))
                            have y10 : v1.toInt ≠ 10 := fun e => h1_10 (Int32.toInt_inj.mp (e.trans (by decide)))
                            exact Int32.toInt_inj.mp ((show v1.toInt = 11 by omega).trans (by decide))
                          have k := mx_tsc (q := 162) (off := 161) rfl h1 (by rw [hz]; rfl) (by decide) k
                          have k : nt_rn X _ 126 (162, [(0, .ref (p 16)), (1, .int v1)], [], me_w M J) _ := k
                          have k := ly_revb 1 (c' := (163, [(0, .ref (p 16)), (1, .int v1)], [.ref (p 16)], me_w M J)) rfl k
                          have k := lz_get (a := (p 16)) (g := 1000) (M := me_w M J) (v := .ref (p 17)) rfl (nt_gfR rfl (hp.1 (16, 0, 17) (by decide))) k
                          have k := lz_get (a := (p 17)) (g := 701) (M := me_w M J) (v := .int (J (p 17) 1)) rfl (congrArg Value.int (rfl)) k
                          have k := lz_ri rfl (by decide) k
                          rw [k, x126, if_neg h1, if_neg h1_0, if_neg h1_1, if_neg h1_2, if_neg h1_3, if_neg h1_4, if_neg h1_5, if_neg h1_6, if_neg h1_7, if_neg h1_8, if_neg h1_9, if_neg h1_10]
end
section
/-! days -/
theorem mx_aald {X : nt_X} {d mi pc a g t : Nat} {ls : nt_V} {st : List Value} {M : nt_M} {o : Option Value × nt_M} {i : Int32} (hat : nt_at mi pc = some (pc, .aaload, g, t)) (k : nt_rn X d mi (pc, ls, .int i :: .ref a :: st, M) o) : nt_rn X d mi (pc + 1, ls, nt_rv (nt_R M a i.toNatClampNeg) :: st, M) o := by
  obtain ⟨c', hs, k⟩ := lz_s hat rfl k
  have hs : (if nt_k M a = 17 then nt_in M a 17 i (some (pc + 1, ls, nt_rv (nt_R M a i.toNatClampNeg) :: st, M)) else nt_in M a 16 i (some (pc + 1, ls, nt_rv (nt_R M a i.toNatClampNeg) :: st, M))) = some c' := hs
  by_cases h : nt_k M a = 17
  · rw [if_pos h] at hs
    have e := lz_in (y := none) hs
    cases e
    exact k
  · rw [if_neg h] at hs
    have e := lz_in (y := none) hs
    cases e
    exact k
theorem mx_ran {X : nt_X} {d mi pc g t : Nat} {ls : nt_V} {M : nt_M} {o : Option Value × nt_M} {q : String} (hat : nt_at mi pc = some (pc, .areturn, g, t)) (hm : (nt_m mi).2.2.2.1 = some (.object q)) (k : nt_rn X d mi (pc, ls, [.null], M) o) : o = (some .null, M) := by
  have h := lz_ret hat (Or.inr (Or.inr (Or.inl rfl))) k
  unfold nt_re at h
  rw [hm] at h
  have h : some (some Value.null, M) = some o := h
  cases h
  rfl
theorem xr112 {X : nt_X} {d ru : Nat} {M : nt_M} {o : Option Value × nt_M} {p : Nat → Nat} {v1 : Int32} {J : Nat → Nat → Int32} (hp : xs_P M p) (h0 : ¬ v1 < 0) (h1 : ¬ J (p 16) 4 ≤ v1) (hr : nt_R M (p 23) v1.toNatClampNeg = some ru) (k : nt_ev X d 112 [.ref (p 16), .int v1] (me_w M J) o) : o = (some (.ref ru), me_w M J) := by
  have k : nt_rn X d 112 (0, [(0, .ref (p 16)), (1, .int v1)], [], me_w M J) o := k
  have k := ly_revb 2 (c' := (if v1 < 0 then 21 else 4, [(0, .ref (p 16)), (1, .int v1)], [], me_w M J)) rfl k
  rw [if_neg h0] at k
  have k := ly_revb 2 (c' := (6, [(0, .ref (p 16)), (1, .int v1)], [.ref (p 16), .int v1], me_w M J)) rfl k
  have k := lz_get (a := (p 16)) (g := 1004) (M := me_w M J) (v := .int (J (p 16) 4)) rfl rfl k
  have k := ly_revb 1 (c' := (if J (p 16) 4 ≤ v1 then 21 else 12, [(0, .ref (p 16)), (1, .int v1)], [], me_w M J)) rfl k
  rw [if_neg h1] at k
  have k := ly_revb 1 (c' := (13, [(0, .ref (p 16)), (1, .int v1)], [.ref (p 16)], me_w M J)) rfl k
  have k := lz_get (a := (p 16)) (g := 1003) (M := me_w M J) (v := .ref (p 23)) rfl (nt_gfR rfl (hp.1 (16, 3, 23) (by decide))) k
  have k := ly_revb 1 (c' := (17, [(0, .ref (p 16)), (1, .int v1)], [.int v1, .ref (p 23)], me_w M J)) rfl k
  have k := mx_aald rfl k
  rw [show nt_R (me_w M J) (p 23) v1.toNatClampNeg = some ru from hr] at k
  have k := ly_revb 1 (c' := (22, [(0, .ref (p 16)), (1, .int v1)], [.ref ru], me_w M J)) rfl k
  exact lz_ra rfl rfl k
theorem xr112N {X : nt_X} {d : Nat} {M : nt_M} {o : Option Value × nt_M} {p : Nat → Nat} {v1 : Int32} {J : Nat → Nat → Int32} (h0 : v1 < 0) (k : nt_ev X d 112 [.ref (p 16), .int v1] (me_w M J) o) : o = (some .null, me_w M J) := by
  have k : nt_rn X d 112 (0, [(0, .ref (p 16)), (1, .int v1)], [], me_w M J) o := k
  have k := ly_revb 2 (c' := (if v1 < 0 then 21 else 4, [(0, .ref (p 16)), (1, .int v1)], [], me_w M J)) rfl k
  rw [if_pos h0] at k
  have k := ly_revb 1 (c' := (22, [(0, .ref (p 16)), (1, .int v1)], [.null], me_w M J)) rfl k
  exact mx_ran rfl rfl k
theorem xw_108 {p : Nat → Nat} {L : Nat → Nat → Int64} {e : Nat → Int32} {c : Nat} {v : Int32} {J : Nat → Nat → Int32} (h : xk_K e (J (p 4))) (h0 : 0 ≤ v.toInt) : xr_W ((x190_108 p L c v J).1 (p 4)) := by
  have fin : ∀ J1 : Nat → Nat → Int32, xk_K e (J1 (p 4)) → xr_W ((nt_u (nt_u J1 (p 4) 4 ((J1 (p 4) 4) + (Int32.ofInt 1))) (p 4) 6 (Int32.ofInt 0)) (p 4)) := fun J1 h => xr_up (xr_up h.1 (xr_any rfl)) (xr_any rfl)
  refine x190_108_rule (I := fun _ v2 J1 => xk_K e (J1 (p 4)) ∧ 0 ≤ v2.toInt) (Q := fun r => xr_W (r.1 (p 4))) ?_ ?_ _ _ _ ⟨h, h0⟩
  · intro v2 J1 h
    exact fin J1 h.1
  · intro c v2 J1 h
    by_cases h1 : J1 (p 4) 1 ≤ v2
    · rw [if_pos h1]
      exact fin J1 h.1
    · rw [if_neg h1]
      split
      · exact ⟨xk_t h.1 (xw_202 h.1.1 (xi_l5 h.1.1 h1 h.2)), xi_nn h1 h.2⟩
      · exact ⟨h.1, xi_nn h1 h.2⟩
theorem xw_50 {p : Nat → Nat} {v1 : Int32} {e : Nat → Int32} {c : Nat} {v : Int32} {J : Nat → Nat → Int32} {L : Nat → Nat → Int64} (hd : p 4 ≠ p 0) (h : xk_K e (J (p 4))) (h0 : 0 ≤ v.toInt) : xr_W ((x190_50 p v1 c v J L).1 (p 4)) := by
  refine x190_50_rule (I := fun _ v2 J1 _ => xk_K e (J1 (p 4)) ∧ 0 ≤ v2.toInt) (Q := fun r => xr_W (r.1 (p 4))) ?_ ?_ _ _ _ _ ⟨h, h0⟩
  · intro v2 J1 L1 h
    exact xw_108 h.1 (by decide)
  · intro c v2 J1 L1 h
    by_cases h1 : J1 (p 4) 3 ≤ v2
    · rw [if_pos h1]
      exact xw_108 h.1 (by decide)
    · rw [if_neg h1]
      have l7 := xi_l7 h.1.1 h1 h.2
      split
      · split
        · exact ⟨h.1, xi_nn h1 h.2⟩
        · exact ⟨xk_t h.1 (xw_192 hd (xi_va h.1.1 l7) l7 h.1.1), xi_nn h1 h.2⟩
      · exact ⟨h.1, xi_nn h1 h.2⟩
theorem xw_190 {p : Nat → Nat} {v1 : Int32} {J : Nat → Nat → Int32} {L : Nat → Nat → Int64} (hd : p 4 ≠ p 0) (h : xr_W (J (p 4))) : xr_W ((x190 p v1 J L).1 (p 4)) := by
  unfold x190
  refine x190_2_rule (I := fun _ v2 J1 => xk_K (J (p 4)) (J1 (p 4)) ∧ 0 ≤ v2.toInt) (Q := fun r => xr_W (r.1 (p 4))) ?_ ?_ _ _ _ ⟨xk_r h, by decide⟩
  · intro v2 J1 h
    exact xw_50 hd h.1 (by decide)
  · intro c v2 J1 h
    by_cases h1 : J1 (p 4) 3 ≤ v2
    · rw [if_pos h1]
      exact xw_50 hd h.1 (by decide)
    · rw [if_neg h1]
      split
      · split
        · exact ⟨xk_t h.1 (xw_191 h.1.1 (xi_l7 h.1.1 h1 h.2)), xi_nn h1 h.2⟩
        · exact ⟨h.1, xi_nn h1 h.2⟩
      · exact ⟨h.1, xi_nn h1 h.2⟩
/-! Model.days -/
def x186_38 (p : Nat → Nat) (v1 : Int32) (v2 : Int32) : Nat → Int32 → (Nat → Nat → Int32) → (Nat → Nat → Int64) → Int32 × (Nat → Nat → Int32) × (Nat → Nat → Int64)
  | 0, v3, J, L => (J (p 4) 4, J, L)
  | c + 1, v3, J, L => if v2 ≤ v3 then (J (p 4) 4, J, L)
    else (x186_38 p v1 v2 c (v3 + (Int32.ofInt 1)) ((x190 p v1 J L).1) ((x190 p v1 J L).2))
theorem xt186_38 {X : nt_X} {d : Nat} {M : nt_M} {o : Option Value × nt_M} {p : Nat → Nat} {v1 : Int32} {v2 : Int32} (hp : xs_P M p) : ∀ (c : Nat) (v3 : Int32) (J : Nat → Nat → Int32) (L : Nat → Nat → Int64), (xr_W (J (p 4)) ∧ v2.toInt - v3.toInt ≤ c) → nt_rn X d 186 (38, [(0, .ref (p 0)), (1, .int v1), (2, .int v2), (3, .int v3)], [], me_w (lw M L) J) o → o = (some (.int ((x186_38 p v1 v2 c v3 J L).1)), me_w (lw M ((x186_38 p v1 v2 c v3 J L).2.2)) ((x186_38 p v1 v2 c v3 J L).2.1)) := by
  intro c
  induction c with
  | zero =>
    intro v3 J L hc k
    have k := ly_revb 3 (c' := (if v2 ≤ v3 then 54 else 43, [(0, .ref (p 0)), (1, .int v1), (2, .int v2), (3, .int v3)], [], me_w (lw M L) J)) rfl k
    have h40 : v2 ≤ v3 := lx_end hc.2
    rw [if_pos h40] at k
    have k := ly_revb 1 (c' := (55, [(0, .ref (p 0)), (1, .int v1), (2, .int v2), (3, .int v3)], [.ref (p 0)], me_w (lw M L) J)) rfl k
    have k := lz_get (a := (p 0)) (g := 1127) (M := me_w (lw M L) J) (v := .ref (p 4)) rfl (nt_gfR rfl (hp.1 (0, 27, 4) (by decide))) k
    have k := ly_revb 1 (c' := (59, [(0, .ref (p 0)), (1, .int v1), (2, .int v2), (3, .int v3)], [.int (Int32.ofInt 4), .ref (p 4)], me_w (lw M L) J)) rfl k
    have k := mx_iald (v := J (p 4) 4) rfl (hp.2.2.1 4 (by omega)) ((congrArg (J (p 4)) (show (Int32.ofInt 4).toNatClampNeg = 4 from rfl)).trans (rfl)) k
    have k := lz_ri rfl (by decide) k
    rw [k, x186_38]
  | succ c ih =>
    intro v3 J L hc k
    have k := ly_revb 3 (c' := (if v2 ≤ v3 then 54 else 43, [(0, .ref (p 0)), (1, .int v1), (2, .int v2), (3, .int v3)], [], me_w (lw M L) J)) rfl k
    by_cases h40 : v2 ≤ v3
    · rw [if_pos h40] at k
      have k := ly_revb 1 (c' := (55, [(0, .ref (p 0)), (1, .int v1), (2, .int v2), (3, .int v3)], [.ref (p 0)], me_w (lw M L) J)) rfl k
      have k := lz_get (a := (p 0)) (g := 1127) (M := me_w (lw M L) J) (v := .ref (p 4)) rfl (nt_gfR rfl (hp.1 (0, 27, 4) (by decide))) k
      have k := ly_revb 1 (c' := (59, [(0, .ref (p 0)), (1, .int v1), (2, .int v2), (3, .int v3)], [.int (Int32.ofInt 4), .ref (p 4)], me_w (lw M L) J)) rfl k
      have k := mx_iald (v := J (p 4) 4) rfl (hp.2.2.1 4 (by omega)) ((congrArg (J (p 4)) (show (Int32.ofInt 4).toNatClampNeg = 4 from rfl)).trans (rfl)) k
      have k := lz_ri rfl (by decide) k
      rw [k, x186_38, if_pos h40]
    · rw [if_neg h40] at k
      have k := ly_revb 2 (c' := (45, [(0, .ref (p 0)), (1, .int v1), (2, .int v2), (3, .int v3)], [.int v1, .ref (p 0)], me_w (lw M L) J)) rfl k
      obtain ⟨d1, o1, ed, kc, k⟩ := lz_c (g := 190) (q := 1) (vs := [.ref (p 0), .int v1]) (rest := []) rfl rfl (by decide) (Or.inr (Or.inl ⟨_, rfl, rfl⟩)) rfl k
      have e1 := xt190 hp hc.1 kc
      subst e1
      have k : nt_rn X _ 186 (48, [(0, .ref (p 0)), (1, .int v1), (2, .int v2), (3, .int v3)], [], me_w (lw M ((x190 p v1 J L).2)) ((x190 p v1 J L).1)) _ := k
      have k := ly_revb 2 (c' := (38, [(3, .int (v3 + (Int32.ofInt 1))), (0, .ref (p 0)), (1, .int v1), (2, .int v2)], [], me_w (lw M ((x190 p v1 J L).2)) ((x190 p v1 J L).1))) rfl k
      have k := nt_rn_w (a := [(3, .int (v3 + (Int32.ofInt 1))), (0, .ref (p 0)), (1, .int v1), (2, .int v2)]) (b := [(0, .ref (p 0)), (1, .int v1), (2, .int v2), (3, .int (v3 + (Int32.ofInt 1)))]) ⟨rfl, rfl, rfl, rfl, trivial⟩ rfl k
      have k := ih (v3 + (Int32.ofInt 1)) ((x190 p v1 J L).1) ((x190 p v1 J L).2) (⟨xw_190 (hp.2.1 4 0 (by omega) (by omega) (by decide)) hc.1, lx_dec h40 hc.2⟩) k
      rw [k, x186_38, if_neg h40]
theorem x186_38_rule {p : Nat → Nat} {v1 : Int32} {v2 : Int32} {I : Nat → Int32 → (Nat → Nat → Int32) → (Nat → Nat → Int64) → Prop} {Q : Int32 × (Nat → Nat → Int32) × (Nat → Nat → Int64) → Prop} (h0 : ∀ (v3 : Int32) (J : Nat → Nat → Int32) (L : Nat → Nat → Int64), I 0 v3 J L → Q (J (p 4) 4, J, L)) (h1 : ∀ (c : Nat) (v3 : Int32) (J : Nat → Nat → Int32) (L : Nat → Nat → Int64), I (c + 1) v3 J L →
    if v2 ≤ v3 then (Q (J (p 4) 4, J, L))
    else (I c (v3 + (Int32.ofInt 1)) ((x190 p v1 J L).1) ((x190 p v1 J L).2))) : ∀ (c : Nat) (v3 : Int32) (J : Nat → Nat → Int32) (L : Nat → Nat → Int64), I c v3 J L → Q (x186_38 p v1 v2 c v3 J L) := by
  intro c
  induction c with
  | zero =>
    intro v3 J L hi
    rw [x186_38]
    exact h0 v3 J L hi
  | succ c ih =>
    intro v3 J L hi
    have hi := h1 c v3 J L hi
    rw [x186_38]
    by_cases h : v2 ≤ v3
    · rw [if_pos h] at hi ⊢
      exact hi
    · rw [if_neg h] at hi ⊢
      exact ih _ _ _ hi
def x186 (p : Nat → Nat) (v1 : Int32) (v2 : Int32) (J : Nat → Nat → Int32) (L : Nat → Nat → Int64) : Int32 × (Nat → Nat → Int32) × (Nat → Nat → Int64) := if (x187 p v1 J) = 0 then (Int32.ofInt (-1), J, L)
  else if (x145 v2.toInt64 (Int64.ofNat 1) 100) = 0 then (Int32.ofInt (-1), J, L)
    else if ((J (p 4) 4) + v2) ≤ (Int32.ofInt 200) then (x186_38 p v1 v2 v2.toNatClampNeg (Int32.ofInt 0) J L)
      else (Int32.ofInt (-1), J, L)
theorem xt186 {X : nt_X} {d : Nat} {M : nt_M} {o : Option Value × nt_M} {p : Nat → Nat} {v1 : Int32} {v2 : Int32} {J : Nat → Nat → Int32} {L : Nat → Nat → Int64} (hp : xs_P M p) (hw : xr_W (J (p 4))) (k : nt_ev X d 186 [.ref (p 0), .int v1, .int v2] (me_w (lw M L) J) o) : o = (some (.int ((x186 p v1 v2 J L).1)), me_w (lw M ((x186 p v1 v2 J L).2.2)) ((x186 p v1 v2 J L).2.1)) := by
  have k : nt_rn X d 186 (0, [(0, .ref (p 0)), (1, .int v1), (2, .int v2)], [], me_w (lw M L) J) o := k
  have k := ly_revb 2 (c' := (2, [(0, .ref (p 0)), (1, .int v1), (2, .int v2)], [.int v1, .ref (p 0)], me_w (lw M L) J)) rfl k
  obtain ⟨d1, o1, ed, kc, k⟩ := lz_c (g := 187) (q := 1) (vs := [.ref (p 0), .int v1]) (rest := []) rfl rfl (by decide) (Or.inr (Or.inl ⟨_, rfl, rfl⟩)) rfl k
  have e1 := xt187 (xs_lp hp) kc
  subst e1
  have k : nt_rn X _ 186 (5, [(0, .ref (p 0)), (1, .int v1), (2, .int v2)], [.int (x187 p v1 J)], me_w (lw M L) J) _ := k
  have k := ly_revb 1 (c' := (if (x187 p v1 J) = 0 then 34 else 8, [(0, .ref (p 0)), (1, .int v1), (2, .int v2)], [], me_w (lw M L) J)) rfl k
  by_cases h5 : (x187 p v1 J) = 0
  · rw [if_pos h5] at k
    have k := ly_revb 1 (c' := (35, [(0, .ref (p 0)), (1, .int v1), (2, .int v2)], [.int (Int32.ofInt (-1))], me_w (lw M L) J)) rfl k
    have k := lz_ri rfl (by decide) k
    rw [k, x186, if_pos h5]
  · rw [if_neg h5] at k
    have k := ly_revb 4 (c' := (14, [(0, .ref (p 0)), (1, .int v1), (2, .int v2)], [.long 100, .long (Int64.ofNat 1), .long v2.toInt64], me_w (lw M L) J)) rfl k
    obtain ⟨d1, o1, ed, kc, k⟩ := lz_c (g := 145) (q := 0) (vs := [.long v2.toInt64, .long (Int64.ofNat 1), .long 100]) (rest := []) rfl rfl (by decide) (Or.inl ⟨_, rfl, rfl⟩) rfl k
    have e1 := xt145  kc
    subst e1
    have k : nt_rn X _ 186 (17, [(0, .ref (p 0)), (1, .int v1), (2, .int v2)], [.int (x145 v2.toInt64 (Int64.ofNat 1) 100)], me_w (lw M L) J) _ := k
    have k := ly_revb 1 (c' := (if (x145 v2.toInt64 (Int64.ofNat 1) 100) = 0 then 34 else 20, [(0, .ref (p 0)), (1, .int v1), (2, .int v2)], [], me_w (lw M L) J)) rfl k
    by_cases h17 : (x145 v2.toInt64 (Int64.ofNat 1) 100) = 0
    · rw [if_pos h17] at k
      have k := ly_revb 1 (c' := (35, [(0, .ref (p 0)), (1, .int v1), (2, .int v2)], [.int (Int32.ofInt (-1))], me_w (lw M L) J)) rfl k
      have k := lz_ri rfl (by decide) k
      rw [k, x186, if_neg h5, if_pos h17]
    · rw [if_neg h17] at k
      have k := ly_revb 1 (c' := (21, [(0, .ref (p 0)), (1, .int v1), (2, .int v2)], [.ref (p 0)], me_w (lw M L) J)) rfl k
      have k := lz_get (a := (p 0)) (g := 1127) (M := me_w (lw M L) J) (v := .ref (p 4)) rfl (nt_gfR rfl (hp.1 (0, 27, 4) (by decide))) k
      have k := ly_revb 1 (c' := (25, [(0, .ref (p 0)), (1, .int v1), (2, .int v2)], [.int (Int32.ofInt 4), .ref (p 4)], me_w (lw M L) J)) rfl k
      have k := mx_iald (v := J (p 4) 4) rfl (hp.2.2.1 4 (by omega)) ((congrArg (J (p 4)) (show (Int32.ofInt 4).toNatClampNeg = 4 from rfl)).trans (rfl)) k
      have k := ly_revb 4 (c' := (if ((J (p 4) 4) + v2) ≤ (Int32.ofInt 200) then 36 else 34, [(0, .ref (p 0)), (1, .int v1), (2, .int v2)], [], me_w (lw M L) J)) rfl k
      by_cases h31 : ((J (p 4) 4) + v2) ≤ (Int32.ofInt 200)
      · rw [if_pos h31] at k
        have k := ly_revb 2 (c' := (38, [(3, .int (Int32.ofInt 0)), (0, .ref (p 0)), (1, .int v1), (2, .int v2)], [], me_w (lw M L) J)) rfl k
        have k := nt_rn_w (a := [(3, .int (Int32.ofInt 0)), (0, .ref (p 0)), (1, .int v1), (2, .int v2)]) (b := [(0, .ref (p 0)), (1, .int v1), (2, .int v2), (3, .int (Int32.ofInt 0))]) ⟨rfl, rfl, rfl, rfl, trivial⟩ rfl k
        have k := xt186_38 hp  v2.toNatClampNeg (Int32.ofInt 0) J L (⟨hw, lx_beg (by decide)⟩) k
        rw [k, x186, if_neg h5, if_neg h17, if_pos h31]
      · rw [if_neg h31] at k
        have k := ly_revb 1 (c' := (35, [(0, .ref (p 0)), (1, .int v1), (2, .int v2)], [.int (Int32.ofInt (-1))], me_w (lw M L) J)) rfl k
        have k := lz_ri rfl (by decide) k
        rw [k, x186, if_neg h5, if_neg h17, if_neg h31]
theorem x186_38_frJ {p : Nat → Nat} {v1 : Int32} {v2 : Int32} {b : Nat} : ∀ (c : Nat) (v3 : Int32) (J : Nat → Nat → Int32) (L : Nat → Nat → Int64), b ≠ p 0 → b ≠ p 4 → (x186_38 p v1 v2 c v3 J L).2.1 b = J b := by
  intro c
  induction c with
  | zero =>
    intro v3 J L n0 n1
    rw [x186_38]
    all_goals first | (dsimp only; exact (show J b = J b from rfl)) | exact (show J b = J b from rfl)
  | succ c ih =>
    intro v3 J L n0 n1
    rw [x186_38]
    by_cases h : v2 ≤ v3
    · rw [if_pos h]
      all_goals first | (dsimp only; exact (show J b = J b from rfl)) | exact (show J b = J b from rfl)
    · rw [if_neg h]
      exact (ih _ _ _ n0 n1).trans (x190_frJ  n0 n1)
theorem x186_frJ {p : Nat → Nat} {v1 : Int32} {v2 : Int32} {J : Nat → Nat → Int32} {L : Nat → Nat → Int64} {b : Nat} (n0 : b ≠ p 0) (n1 : b ≠ p 4) : (x186 p v1 v2 J L).2.1 b = J b := by
  unfold x186
  by_cases h : (x187 p v1 J) = 0
  · rw [if_pos h]
    all_goals first | (dsimp only; exact (show J b = J b from rfl)) | exact (show J b = J b from rfl)
  · rw [if_neg h]
    by_cases h : (x145 v2.toInt64 (Int64.ofNat 1) 100) = 0
    · rw [if_pos h]
      all_goals first | (dsimp only; exact (show J b = J b from rfl)) | exact (show J b = J b from rfl)
    · rw [if_neg h]
      by_cases h : ((J (p 4) 4) + v2) ≤ (Int32.ofInt 200)
      · rw [if_pos h]
        exact (x186_38_frJ _ _ _ _ n0 n1).trans (rfl)
      · rw [if_neg h]
        all_goals first | (dsimp only; exact (show J b = J b from rfl)) | exact (show J b = J b from rfl)
theorem x186_38_frL {p : Nat → Nat} {v1 : Int32} {v2 : Int32} {b : Nat} : ∀ (c : Nat) (v3 : Int32) (J : Nat → Nat → Int32) (L : Nat → Nat → Int64), b ≠ p 5 → b ≠ p 6 → (x186_38 p v1 v2 c v3 J L).2.2 b = L b := by
  intro c
  induction c with
  | zero =>
    intro v3 J L n0 n1
    rw [x186_38]
    all_goals first | (dsimp only; exact (show L b = L b from rfl)) | exact (show L b = L b from rfl)
  | succ c ih =>
    intro v3 J L n0 n1
    rw [x186_38]
    by_cases h : v2 ≤ v3
    · rw [if_pos h]
      all_goals first | (dsimp only; exact (show L b = L b from rfl)) | exact (show L b = L b from rfl)
    · rw [if_neg h]
      exact (ih _ _ _ n0 n1).trans (x190_frL n0 n1)
theorem x186_frL {p : Nat → Nat} {v1 : Int32} {v2 : Int32} {J : Nat → Nat → Int32} {L : Nat → Nat → Int64} {b : Nat} (n0 : b ≠ p 5) (n1 : b ≠ p 6) : (x186 p v1 v2 J L).2.2 b = L b := by
  unfold x186
  by_cases h : (x187 p v1 J) = 0
  · rw [if_pos h]
    all_goals first | (dsimp only; exact (show L b = L b from rfl)) | exact (show L b = L b from rfl)
  · rw [if_neg h]
    by_cases h : (x145 v2.toInt64 (Int64.ofNat 1) 100) = 0
    · rw [if_pos h]
      all_goals first | (dsimp only; exact (show L b = L b from rfl)) | exact (show L b = L b from rfl)
    · rw [if_neg h]
      by_cases h : ((J (p 4) 4) + v2) ≤ (Int32.ofInt 200)
      · rw [if_pos h]
        exact (x186_38_frL _ _ _ _ n0 n1).trans (rfl)
      · rw [if_neg h]
        all_goals first | (dsimp only; exact (show L b = L b from rfl)) | exact (show L b = L b from rfl)
/-! .days -/
def x110_48 (p : Nat → Nat) (sp : Nat) (ln : Nat) (v1 : Int32) (v2 : Int32) : Nat → Int32 → (Nat → Nat → Int32) → (Nat → Nat → Int64) → Int32 × (Nat → Nat → Int32) × (Nat → Nat → Int64)
  | 0, v3, J, L => (J (p 31) 2, J, L)
  | c + 1, v3, J, L => if v2 ≤ v3 then (J (p 31) 2, J, L)
    else (x110_48 p sp ln v1 v2 c (v3 + (Int32.ofInt 1)) ((x1 p (fun i => p (31 + i)) sp ln J L).1) ((x1 p (fun i => p (31 + i)) sp ln J L).2))
theorem xt110_48 {X : nt_X} {d : Nat} {M : nt_M} {o : Option Value × nt_M} {p : Nat → Nat} {sp : Nat} {ln : Nat} {ru : Nat} {v1 : Int32} {v2 : Int32} (hp : xs_P M p) (hn : xs_Q M (fun i => p (31 + i))) (hs : xs_S M p ru sp ln) (h0 : ¬ v1 < 0) (hr : nt_R M (p 23) v1.toNatClampNeg = some ru) : ∀ (c : Nat) (v3 : Int32) (J : Nat → Nat → Int32) (L : Nat → Nat → Int64), (¬ J (p 16) 4 ≤ v1 ∧ v2.toInt - v3.toInt ≤ c) → nt_rn X d 110 (48, [(0, .ref (p 16)), (1, .int v1), (2, .int v2), (3, .int v3)], [], me_w (lw M L) J) o → o = (some (.int ((x110_48 p sp ln v1 v2 c v3 J L).1)), me_w (lw M ((x110_48 p sp ln v1 v2 c v3 J L).2.2)) ((x110_48 p sp ln v1 v2 c v3 J L).2.1)) := by
  intro c
  induction c with
  | zero =>
    intro v3 J L hc k
    have k := ly_revb 3 (c' := (if v2 ≤ v3 then 75 else 53, [(0, .ref (p 16)), (1, .int v1), (2, .int v2), (3, .int v3)], [], me_w (lw M L) J)) rfl k
    have h50 : v2 ≤ v3 := lx_end hc.2
    rw [if_pos h50] at k
    have k := ly_revb 1 (c' := (76, [(0, .ref (p 16)), (1, .int v1), (2, .int v2), (3, .int v3)], [.ref (p 16)], me_w (lw M L) J)) rfl k
    have k := lz_get (a := (p 16)) (g := 1007) (M := me_w (lw M L) J) (v := .ref (p 31)) rfl (nt_gfR rfl (hp.1 (16, 7, 31) (by decide))) k
    have k := lz_get (a := (p 31)) (g := 602) (M := me_w (lw M L) J) (v := .int (J (p 31) 2)) rfl (congrArg Value.int (rfl)) k
    have k := lz_ri rfl (by decide) k
    rw [k, x110_48]
  | succ c ih =>
    intro v3 J L hc k
    have k := ly_revb 3 (c' := (if v2 ≤ v3 then 75 else 53, [(0, .ref (p 16)), (1, .int v1), (2, .int v2), (3, .int v3)], [], me_w (lw M L) J)) rfl k
    by_cases h50 : v2 ≤ v3
    · rw [if_pos h50] at k
      have k := ly_revb 1 (c' := (76, [(0, .ref (p 16)), (1, .int v1), (2, .int v2), (3, .int v3)], [.ref (p 16)], me_w (lw M L) J)) rfl k
      have k := lz_get (a := (p 16)) (g := 1007) (M := me_w (lw M L) J) (v := .ref (p 31)) rfl (nt_gfR rfl (hp.1 (16, 7, 31) (by decide))) k
      have k := lz_get (a := (p 31)) (g := 602) (M := me_w (lw M L) J) (v := .int (J (p 31) 2)) rfl (congrArg Value.int (rfl)) k
      have k := lz_ri rfl (by decide) k
      rw [k, x110_48, if_pos h50]
    · rw [if_neg h50] at k
      have k := ly_revb 1 (c' := (54, [(0, .ref (p 16)), (1, .int v1), (2, .int v2), (3, .int v3)], [.ref (p 16)], me_w (lw M L) J)) rfl k
      have k := lz_get (a := (p 16)) (g := 1005) (M := me_w (lw M L) J) (v := .ref (p 24)) rfl (nt_gfR rfl (hp.1 (16, 5, 24) (by decide))) k
      have k := ly_revb 1 (c' := (58, [(0, .ref (p 16)), (1, .int v1), (2, .int v2), (3, .int v3)], [.ref (p 16), .ref (p 24)], me_w (lw M L) J)) rfl k
      have k := lz_get (a := (p 16)) (g := 1007) (M := me_w (lw M L) J) (v := .ref (p 31)) rfl (nt_gfR rfl (hp.1 (16, 7, 31) (by decide))) k
      have k := ly_revb 2 (c' := (63, [(0, .ref (p 16)), (1, .int v1), (2, .int v2), (3, .int v3)], [.int v1, .ref (p 16), .ref (p 31), .ref (p 24)], me_w (lw M L) J)) rfl k
      obtain ⟨d1, o1, ed, kc, k⟩ := lz_c (g := 112) (q := 1) (vs := [.ref (p 16), .int v1]) (rest := [.ref (p 31), .ref (p 24)]) rfl rfl (by decide) (Or.inr (Or.inl ⟨_, rfl, rfl⟩)) rfl k
      have e1 := xr112 (M := lw M L) (xs_lp hp) h0 hc.1 hr kc
      subst e1
      have k : nt_rn X _ 110 (66, [(0, .ref (p 16)), (1, .int v1), (2, .int v2), (3, .int v3)], [.ref ru, .ref (p 31), .ref (p 24)], me_w (lw M L) J) _ := k
      obtain ⟨d1, o1, ed, kc, k⟩ := lz_c (g := 1) (q := 1) (vs := [.ref (p 24), .ref (p 31), .ref ru]) (rest := []) rfl rfl (by decide) (Or.inr (Or.inl ⟨_, rfl, rfl⟩)) rfl k
      have e1 := xt1 hp hn (xs_x31 hp) hs kc
      subst e1
      have k : nt_rn X _ 110 (69, [(0, .ref (p 16)), (1, .int v1), (2, .int v2), (3, .int v3)], [], me_w (lw M ((x1 p (fun i => p (31 + i)) sp ln J L).2)) ((x1 p (fun i => p (31 + i)) sp ln J L).1)) _ := k
      have k := ly_revb 2 (c' := (48, [(3, .int (v3 + (Int32.ofInt 1))), (0, .ref (p 16)), (1, .int v1), (2, .int v2)], [], me_w (lw M ((x1 p (fun i => p (31 + i)) sp ln J L).2)) ((x1 p (fun i => p (31 + i)) sp ln J L).1))) rfl k
      have k := nt_rn_w (a := [(3, .int (v3 + (Int32.ofInt 1))), (0, .ref (p 16)), (1, .int v1), (2, .int v2)]) (b := [(0, .ref (p 16)), (1, .int v1), (2, .int v2), (3, .int (v3 + (Int32.ofInt 1)))]) ⟨rfl, rfl, rfl, rfl, trivial⟩ rfl k
      have k := ih (v3 + (Int32.ofInt 1)) ((x1 p (fun i => p (31 + i)) sp ln J L).1) ((x1 p (fun i => p (31 + i)) sp ln J L).2) (⟨by rw [x1_frJ (hp.2.1 16 25 (by omega) (by omega) (by decide)) (hp.2.1 16 31 (by omega) (by omega) (by decide)) (hp.2.1 16 41 (by omega) (by omega) (by decide)) (hp.2.1 16 42 (by omega) (by omega) (by decide)) (hp.2.1 16 43 (by omega) (by omega) (by decide)) (hp.2.1 16 44 (by omega) (by omega) (by decide)) (hp.2.1 16 45 (by omega) (by omega) (by decide)) (hp.2.1 16 46 (by omega) (by omega) (by decide)) (hp.2.1 16 47 (by omega) (by omega) (by decide))]; exact hc.1, lx_dec h50 hc.2⟩) k
      rw [k, x110_48, if_neg h50]
theorem x110_48_rule {p : Nat → Nat} {sp : Nat} {ln : Nat} {v1 : Int32} {v2 : Int32} {I : Nat → Int32 → (Nat → Nat → Int32) → (Nat → Nat → Int64) → Prop} {Q : Int32 × (Nat → Nat → Int32) × (Nat → Nat → Int64) → Prop} (h0 : ∀ (v3 : Int32) (J : Nat → Nat → Int32) (L : Nat → Nat → Int64), I 0 v3 J L → Q (J (p 31) 2, J, L)) (h1 : ∀ (c : Nat) (v3 : Int32) (J : Nat → Nat → Int32) (L : Nat → Nat → Int64), I (c + 1) v3 J L →
    if v2 ≤ v3 then (Q (J (p 31) 2, J, L))
    else (I c (v3 + (Int32.ofInt 1)) ((x1 p (fun i => p (31 + i)) sp ln J L).1) ((x1 p (fun i => p (31 + i)) sp ln J L).2))) : ∀ (c : Nat) (v3 : Int32) (J : Nat → Nat → Int32) (L : Nat → Nat → Int64), I c v3 J L → Q (x110_48 p sp ln v1 v2 c v3 J L) := by
  intro c
  induction c with
  | zero =>
    intro v3 J L hi
    rw [x110_48]
    exact h0 v3 J L hi
  | succ c ih =>
    intro v3 J L hi
    have hi := h1 c v3 J L hi
    rw [x110_48]
    by_cases h : v2 ≤ v3
    · rw [if_pos h] at hi ⊢
      exact hi
    · rw [if_neg h] at hi ⊢
      exact ih _ _ _ hi
def x110 (p : Nat → Nat) (sp : Nat) (ln : Nat) (v1 : Int32) (v2 : Int32) (J : Nat → Nat → Int32) (L : Nat → Nat → Int64) : Int32 × (Nat → Nat → Int32) × (Nat → Nat → Int64) := if (J (p 31) 1) = 0 then (Int32.ofInt (-1), J, L)
  else if (x111 p v1 J) = 0 then (Int32.ofInt (-1), J, L)
    else if v2 < (Int32.ofInt 1) then (Int32.ofInt (-1), J, L)
      else if (Int32.ofInt 100) < v2 then (Int32.ofInt (-1), J, L)
        else if ((J (p 31) 2) + v2) ≤ (Int32.ofInt 200) then (x110_48 p sp ln v1 v2 v2.toNatClampNeg (Int32.ofInt 0) J L)
          else (Int32.ofInt (-1), J, L)
theorem xt110 {X : nt_X} {d : Nat} {M : nt_M} {o : Option Value × nt_M} {p : Nat → Nat} {sp : Nat} {ln : Nat} {ru : Nat} {v1 : Int32} {v2 : Int32} {J : Nat → Nat → Int32} {L : Nat → Nat → Int64} (hp : xs_P M p) (hn : xs_Q M (fun i => p (31 + i))) (hs : xs_S M p ru sp ln) (h0 : ¬ v1 < 0) (hr : nt_R M (p 23) v1.toNatClampNeg = some ru) (h1 : ¬ J (p 16) 4 ≤ v1) (k : nt_ev X d 110 [.ref (p 16), .int v1, .int v2] (me_w (lw M L) J) o) : o = (some (.int ((x110 p sp ln v1 v2 J L).1)), me_w (lw M ((x110 p sp ln v1 v2 J L).2.2)) ((x110 p sp ln v1 v2 J L).2.1)) := by
  have k : nt_rn X d 110 (0, [(0, .ref (p 16)), (1, .int v1), (2, .int v2)], [], me_w (lw M L) J) o := k
  have k := ly_revb 1 (c' := (1, [(0, .ref (p 16)), (1, .int v1), (2, .int v2)], [.ref (p 16)], me_w (lw M L) J)) rfl k
  have k := lz_get (a := (p 16)) (g := 1007) (M := me_w (lw M L) J) (v := .ref (p 31)) rfl (nt_gfR rfl (hp.1 (16, 7, 31) (by decide))) k
  have k := lz_get (a := (p 31)) (g := 601) (M := me_w (lw M L) J) (v := .int (J (p 31) 1)) rfl (congrArg Value.int (rfl)) k
  have k := ly_revb 1 (c' := (if (J (p 31) 1) = 0 then 44 else 10, [(0, .ref (p 16)), (1, .int v1), (2, .int v2)], [], me_w (lw M L) J)) rfl k
  by_cases h7 : (J (p 31) 1) = 0
  · rw [if_pos h7] at k
    have k := ly_revb 1 (c' := (45, [(0, .ref (p 16)), (1, .int v1), (2, .int v2)], [.int (Int32.ofInt (-1))], me_w (lw M L) J)) rfl k
    have k := lz_ri rfl (by decide) k
    rw [k, x110, if_pos h7]
  · rw [if_neg h7] at k
    have k := ly_revb 2 (c' := (12, [(0, .ref (p 16)), (1, .int v1), (2, .int v2)], [.int v1, .ref (p 16)], me_w (lw M L) J)) rfl k
    obtain ⟨d1, o1, ed, kc, k⟩ := lz_c (g := 111) (q := 1) (vs := [.ref (p 16), .int v1]) (rest := []) rfl rfl (by decide) (Or.inr (Or.inl ⟨_, rfl, rfl⟩)) rfl k
    have e1 := xt111 (xs_lp hp) kc
    subst e1
    have k : nt_rn X _ 110 (15, [(0, .ref (p 16)), (1, .int v1), (2, .int v2)], [.int (x111 p v1 J)], me_w (lw M L) J) _ := k
    have k := ly_revb 1 (c' := (if (x111 p v1 J) = 0 then 44 else 18, [(0, .ref (p 16)), (1, .int v1), (2, .int v2)], [], me_w (lw M L) J)) rfl k
    by_cases h15 : (x111 p v1 J) = 0
    · rw [if_pos h15] at k
      have k := ly_revb 1 (c' := (45, [(0, .ref (p 16)), (1, .int v1), (2, .int v2)], [.int (Int32.ofInt (-1))], me_w (lw M L) J)) rfl k
      have k := lz_ri rfl (by decide) k
      rw [k, x110, if_neg h7, if_pos h15]
    · rw [if_neg h15] at k
      have k := ly_revb 3 (c' := (if v2 < (Int32.ofInt 1) then 44 else 23, [(0, .ref (p 16)), (1, .int v1), (2, .int v2)], [], me_w (lw M L) J)) rfl k
      by_cases h20 : v2 < (Int32.ofInt 1)
      · rw [if_pos h20] at k
        have k := ly_revb 1 (c' := (45, [(0, .ref (p 16)), (1, .int v1), (2, .int v2)], [.int (Int32.ofInt (-1))], me_w (lw M L) J)) rfl k
        have k := lz_ri rfl (by decide) k
        rw [k, x110, if_neg h7, if_neg h15, if_pos h20]
      · rw [if_neg h20] at k
        have k := ly_revb 3 (c' := (if (Int32.ofInt 100) < v2 then 44 else 29, [(0, .ref (p 16)), (1, .int v1), (2, .int v2)], [], me_w (lw M L) J)) rfl k
        by_cases h26 : (Int32.ofInt 100) < v2
        · rw [if_pos h26] at k
          have k := ly_revb 1 (c' := (45, [(0, .ref (p 16)), (1, .int v1), (2, .int v2)], [.int (Int32.ofInt (-1))], me_w (lw M L) J)) rfl k
          have k := lz_ri rfl (by decide) k
          rw [k, x110, if_neg h7, if_neg h15, if_neg h20, if_pos h26]
        · rw [if_neg h26] at k
          have k := ly_revb 1 (c' := (30, [(0, .ref (p 16)), (1, .int v1), (2, .int v2)], [.ref (p 16)], me_w (lw M L) J)) rfl k
          have k := lz_get (a := (p 16)) (g := 1007) (M := me_w (lw M L) J) (v := .ref (p 31)) rfl (nt_gfR rfl (hp.1 (16, 7, 31) (by decide))) k
          have k := lz_get (a := (p 31)) (g := 602) (M := me_w (lw M L) J) (v := .int (J (p 31) 2)) rfl (congrArg Value.int (rfl)) k
          have k := ly_revb 4 (c' := (if ((J (p 31) 2) + v2) ≤ (Int32.ofInt 200) then 46 else 44, [(0, .ref (p 16)), (1, .int v1), (2, .int v2)], [], me_w (lw M L) J)) rfl k
          by_cases h41 : ((J (p 31) 2) + v2) ≤ (Int32.ofInt 200)
          · rw [if_pos h41] at k
            have k := ly_revb 2 (c' := (48, [(3, .int (Int32.ofInt 0)), (0, .ref (p 16)), (1, .int v1), (2, .int v2)], [], me_w (lw M L) J)) rfl k
            have k := nt_rn_w (a := [(3, .int (Int32.ofInt 0)), (0, .ref (p 16)), (1, .int v1), (2, .int v2)]) (b := [(0, .ref (p 16)), (1, .int v1), (2, .int v2), (3, .int (Int32.ofInt 0))]) ⟨rfl, rfl, rfl, rfl, trivial⟩ rfl k
            have k := xt110_48 hp hn hs h0 hr  v2.toNatClampNeg (Int32.ofInt 0) J L (⟨h1, lx_beg (by decide)⟩) k
            rw [k, x110, if_neg h7, if_neg h15, if_neg h20, if_neg h26, if_pos h41]
          · rw [if_neg h41] at k
            have k := ly_revb 1 (c' := (45, [(0, .ref (p 16)), (1, .int v1), (2, .int v2)], [.int (Int32.ofInt (-1))], me_w (lw M L) J)) rfl k
            have k := lz_ri rfl (by decide) k
            rw [k, x110, if_neg h7, if_neg h15, if_neg h20, if_neg h26, if_neg h41]
theorem x110_48_frJ {p : Nat → Nat} {sp : Nat} {ln : Nat} {v1 : Int32} {v2 : Int32} {b : Nat} : ∀ (c : Nat) (v3 : Int32) (J : Nat → Nat → Int32) (L : Nat → Nat → Int64), b ≠ p 25 → b ≠ p 31 → b ≠ p 41 → b ≠ p 42 → b ≠ p 43 → b ≠ p 44 → b ≠ p 45 → b ≠ p 46 → b ≠ p 47 → (x110_48 p sp ln v1 v2 c v3 J L).2.1 b = J b := by
  intro c
  induction c with
  | zero =>
    intro v3 J L n0 n1 n2 n3 n4 n5 n6 n7 n8
    rw [x110_48]
    all_goals first | (dsimp only; exact (show J b = J b from rfl)) | exact (show J b = J b from rfl)
  | succ c ih =>
    intro v3 J L n0 n1 n2 n3 n4 n5 n6 n7 n8
    rw [x110_48]
    by_cases h : v2 ≤ v3
    · rw [if_pos h]
      all_goals first | (dsimp only; exact (show J b = J b from rfl)) | exact (show J b = J b from rfl)
    · rw [if_neg h]
      exact (ih _ _ _ n0 n1 n2 n3 n4 n5 n6 n7 n8).trans (x1_frJ  n0 n1 n2 n3 n4 n5 n6 n7 n8)
theorem x110_frJ {p : Nat → Nat} {sp : Nat} {ln : Nat} {v1 : Int32} {v2 : Int32} {J : Nat → Nat → Int32} {L : Nat → Nat → Int64} {b : Nat} (n0 : b ≠ p 25) (n1 : b ≠ p 31) (n2 : b ≠ p 41) (n3 : b ≠ p 42) (n4 : b ≠ p 43) (n5 : b ≠ p 44) (n6 : b ≠ p 45) (n7 : b ≠ p 46) (n8 : b ≠ p 47) : (x110 p sp ln v1 v2 J L).2.1 b = J b := by
  unfold x110
  by_cases h : (J (p 31) 1) = 0
  · rw [if_pos h]
    all_goals first | (dsimp only; exact (show J b = J b from rfl)) | exact (show J b = J b from rfl)
  · rw [if_neg h]
    by_cases h : (x111 p v1 J) = 0
    · rw [if_pos h]
      all_goals first | (dsimp only; exact (show J b = J b from rfl)) | exact (show J b = J b from rfl)
    · rw [if_neg h]
      by_cases h : v2 < (Int32.ofInt 1)
      · rw [if_pos h]
        all_goals first | (dsimp only; exact (show J b = J b from rfl)) | exact (show J b = J b from rfl)
      · rw [if_neg h]
        by_cases h : (Int32.ofInt 100) < v2
        · rw [if_pos h]
          all_goals first | (dsimp only; exact (show J b = J b from rfl)) | exact (show J b = J b from rfl)
        · rw [if_neg h]
          by_cases h : ((J (p 31) 2) + v2) ≤ (Int32.ofInt 200)
          · rw [if_pos h]
            exact (x110_48_frJ _ _ _ _ n0 n1 n2 n3 n4 n5 n6 n7 n8).trans (rfl)
          · rw [if_neg h]
            all_goals first | (dsimp only; exact (show J b = J b from rfl)) | exact (show J b = J b from rfl)
theorem x110_48_frL {p : Nat → Nat} {sp : Nat} {ln : Nat} {v1 : Int32} {v2 : Int32} {b : Nat} : ∀ (c : Nat) (v3 : Int32) (J : Nat → Nat → Int32) (L : Nat → Nat → Int64), b ≠ p 25 → b ≠ p 26 → b ≠ p 27 → (x110_48 p sp ln v1 v2 c v3 J L).2.2 b = L b := by
  intro c
  induction c with
  | zero =>
    intro v3 J L n0 n1 n2
    rw [x110_48]
    all_goals first | (dsimp only; exact (show L b = L b from rfl)) | exact (show L b = L b from rfl)
  | succ c ih =>
    intro v3 J L n0 n1 n2
    rw [x110_48]
    by_cases h : v2 ≤ v3
    · rw [if_pos h]
      all_goals first | (dsimp only; exact (show L b = L b from rfl)) | exact (show L b = L b from rfl)
    · rw [if_neg h]
      exact (ih _ _ _ n0 n1 n2).trans (x1_frL n0 n1 n2)
theorem x110_frL {p : Nat → Nat} {sp : Nat} {ln : Nat} {v1 : Int32} {v2 : Int32} {J : Nat → Nat → Int32} {L : Nat → Nat → Int64} {b : Nat} (n0 : b ≠ p 25) (n1 : b ≠ p 26) (n2 : b ≠ p 27) : (x110 p sp ln v1 v2 J L).2.2 b = L b := by
  unfold x110
  by_cases h : (J (p 31) 1) = 0
  · rw [if_pos h]
    all_goals first | (dsimp only; exact (show L b = L b from rfl)) | exact (show L b = L b from rfl)
  · rw [if_neg h]
    by_cases h : (x111 p v1 J) = 0
    · rw [if_pos h]
      all_goals first | (dsimp only; exact (show L b = L b from rfl)) | exact (show L b = L b from rfl)
    · rw [if_neg h]
      by_cases h : v2 < (Int32.ofInt 1)
      · rw [if_pos h]
        all_goals first | (dsimp only; exact (show L b = L b from rfl)) | exact (show L b = L b from rfl)
      · rw [if_neg h]
        by_cases h : (Int32.ofInt 100) < v2
        · rw [if_pos h]
          all_goals first | (dsimp only; exact (show L b = L b from rfl)) | exact (show L b = L b from rfl)
        · rw [if_neg h]
          by_cases h : ((J (p 31) 2) + v2) ≤ (Int32.ofInt 200)
          · rw [if_pos h]
            exact (x110_48_frL _ _ _ _ n0 n1 n2).trans (rfl)
          · rw [if_neg h]
            all_goals first | (dsimp only; exact (show L b = L b from rfl)) | exact (show L b = L b from rfl)
/-! .days -/
def x110N_48 (p : Nat → Nat) (v1 : Int32) (v2 : Int32) : Nat → Int32 → (Nat → Nat → Int32) → Int32 × (Nat → Nat → Int32)
  | 0, v3, J => (J (p 31) 2, J)
  | c + 1, v3, J => if v2 ≤ v3 then (J (p 31) 2, J)
    else (x110N_48 p v1 v2 c (v3 + (Int32.ofInt 1)) (x1N p (fun i => p (31 + i)) J))
theorem xt110N_48 {X : nt_X} {d : Nat} {M : nt_M} {o : Option Value × nt_M} {p : Nat → Nat} {v1 : Int32} {v2 : Int32} (hp : xs_P M p) (hn : xs_Q M (fun i => p (31 + i))) (h0 : v1 < 0) : ∀ (c : Nat) (v3 : Int32) (J : Nat → Nat → Int32), v2.toInt - v3.toInt ≤ c → nt_rn X d 110 (48, [(0, .ref (p 16)), (1, .int v1), (2, .int v2), (3, .int v3)], [], me_w M J) o → o = (some (.int ((x110N_48 p v1 v2 c v3 J).1)), me_w M ((x110N_48 p v1 v2 c v3 J).2)) := by
  intro c
  induction c with
  | zero =>
    intro v3 J hc k
    have k := ly_revb 3 (c' := (if v2 ≤ v3 then 75 else 53, [(0, .ref (p 16)), (1, .int v1), (2, .int v2), (3, .int v3)], [], me_w M J)) rfl k
    have h50 : v2 ≤ v3 := lx_end hc
    rw [if_pos h50] at k
    have k := ly_revb 1 (c' := (76, [(0, .ref (p 16)), (1, .int v1), (2, .int v2), (3, .int v3)], [.ref (p 16)], me_w M J)) rfl k
    have k := lz_get (a := (p 16)) (g := 1007) (M := me_w M J) (v := .ref (p 31)) rfl (nt_gfR rfl (hp.1 (16, 7, 31) (by decide))) k
    have k := lz_get (a := (p 31)) (g := 602) (M := me_w M J) (v := .int (J (p 31) 2)) rfl (congrArg Value.int (rfl)) k
    have k := lz_ri rfl (by decide) k
    rw [k, x110N_48]
  | succ c ih =>
    intro v3 J hc k
    have k := ly_revb 3 (c' := (if v2 ≤ v3 then 75 else 53, [(0, .ref (p 16)), (1, .int v1), (2, .int v2), (3, .int v3)], [], me_w M J)) rfl k
    by_cases h50 : v2 ≤ v3
    · rw [if_pos h50] at k
      have k := ly_revb 1 (c' := (76, [(0, .ref (p 16)), (1, .int v1), (2, .int v2), (3, .int v3)], [.ref (p 16)], me_w M J)) rfl k
      have k := lz_get (a := (p 16)) (g := 1007) (M := me_w M J) (v := .ref (p 31)) rfl (nt_gfR rfl (hp.1 (16, 7, 31) (by decide))) k
      have k := lz_get (a := (p 31)) (g := 602) (M := me_w M J) (v := .int (J (p 31) 2)) rfl (congrArg Value.int (rfl)) k
      have k := lz_ri rfl (by decide) k
      rw [k, x110N_48, if_pos h50]
    · rw [if_neg h50] at k
      have k := ly_revb 1 (c' := (54, [(0, .ref (p 16)), (1, .int v1), (2, .int v2), (3, .int v3)], [.ref (p 16)], me_w M J)) rfl k
      have k := lz_get (a := (p 16)) (g := 1005) (M := me_w M J) (v := .ref (p 24)) rfl (nt_gfR rfl (hp.1 (16, 5, 24) (by decide))) k
      have k := ly_revb 1 (c' := (58, [(0, .ref (p 16)), (1, .int v1), (2, .int v2), (3, .int v3)], [.ref (p 16), .ref (p 24)], me_w M J)) rfl k
      have k := lz_get (a := (p 16)) (g := 1007) (M := me_w M J) (v := .ref (p 31)) rfl (nt_gfR rfl (hp.1 (16, 7, 31) (by decide))) k
      have k := ly_revb 2 (c' := (63, [(0, .ref (p 16)), (1, .int v1), (2, .int v2), (3, .int v3)], [.int v1, .ref (p 16), .ref (p 31), .ref (p 24)], me_w M J)) rfl k
      obtain ⟨d1, o1, ed, kc, k⟩ := lz_c (g := 112) (q := 1) (vs := [.ref (p 16), .int v1]) (rest := [.ref (p 31), .ref (p 24)]) rfl rfl (by decide) (Or.inr (Or.inl ⟨_, rfl, rfl⟩)) rfl k
      have e1 := xr112N h0 kc
      subst e1
      have k : nt_rn X _ 110 (66, [(0, .ref (p 16)), (1, .int v1), (2, .int v2), (3, .int v3)], [.null, .ref (p 31), .ref (p 24)], me_w M J) _ := k
      obtain ⟨d1, o1, ed, kc, k⟩ := lz_c (g := 1) (q := 1) (vs := [.ref (p 24), .ref (p 31), .null]) (rest := []) rfl rfl (by decide) (Or.inr (Or.inl ⟨_, rfl, rfl⟩)) rfl k
      have e1 := xt1N hp hn (xs_x31 hp) kc
      subst e1
      have k : nt_rn X _ 110 (69, [(0, .ref (p 16)), (1, .int v1), (2, .int v2), (3, .int v3)], [], me_w M (x1N p (fun i => p (31 + i)) J)) _ := k
      have k := ly_revb 2 (c' := (48, [(3, .int (v3 + (Int32.ofInt 1))), (0, .ref (p 16)), (1, .int v1), (2, .int v2)], [], me_w M (x1N p (fun i => p (31 + i)) J))) rfl k
      have k := nt_rn_w (a := [(3, .int (v3 + (Int32.ofInt 1))), (0, .ref (p 16)), (1, .int v1), (2, .int v2)]) (b := [(0, .ref (p 16)), (1, .int v1), (2, .int v2), (3, .int (v3 + (Int32.ofInt 1)))]) ⟨rfl, rfl, rfl, rfl, trivial⟩ rfl k
      have k := ih (v3 + (Int32.ofInt 1)) (x1N p (fun i => p (31 + i)) J) (lx_dec h50 hc) k
      rw [k, x110N_48, if_neg h50]
theorem x110N_48_rule {p : Nat → Nat} {v1 : Int32} {v2 : Int32} {I : Nat → Int32 → (Nat → Nat → Int32) → Prop} {Q : Int32 × (Nat → Nat → Int32) → Prop} (h0 : ∀ (v3 : Int32) (J : Nat → Nat → Int32), I 0 v3 J → Q (J (p 31) 2, J)) (h1 : ∀ (c : Nat) (v3 : Int32) (J : Nat → Nat → Int32), I (c + 1) v3 J →
    if v2 ≤ v3 then (Q (J (p 31) 2, J))
    else (I c (v3 + (Int32.ofInt 1)) (x1N p (fun i => p (31 + i)) J))) : ∀ (c : Nat) (v3 : Int32) (J : Nat → Nat → Int32), I c v3 J → Q (x110N_48 p v1 v2 c v3 J) := by
  intro c
  induction c with
  | zero =>
    intro v3 J hi
    rw [x110N_48]
    exact h0 v3 J hi
  | succ c ih =>
    intro v3 J hi
    have hi := h1 c v3 J hi
    rw [x110N_48]
    by_cases h : v2 ≤ v3
    · rw [if_pos h] at hi ⊢
      exact hi
    · rw [if_neg h] at hi ⊢
      exact ih _ _ hi
def x110N (p : Nat → Nat) (v1 : Int32) (v2 : Int32) (J : Nat → Nat → Int32) : Int32 × (Nat → Nat → Int32) := if (J (p 31) 1) = 0 then (Int32.ofInt (-1), J)
  else if (x111 p v1 J) = 0 then (Int32.ofInt (-1), J)
    else if v2 < (Int32.ofInt 1) then (Int32.ofInt (-1), J)
      else if (Int32.ofInt 100) < v2 then (Int32.ofInt (-1), J)
        else if ((J (p 31) 2) + v2) ≤ (Int32.ofInt 200) then (x110N_48 p v1 v2 v2.toNatClampNeg (Int32.ofInt 0) J)
          else (Int32.ofInt (-1), J)
theorem xt110N {X : nt_X} {d : Nat} {M : nt_M} {o : Option Value × nt_M} {p : Nat → Nat} {v1 : Int32} {v2 : Int32} {J : Nat → Nat → Int32} (hp : xs_P M p) (hn : xs_Q M (fun i => p (31 + i))) (h0 : v1 < 0) (k : nt_ev X d 110 [.ref (p 16), .int v1, .int v2] (me_w M J) o) : o = (some (.int ((x110N p v1 v2 J).1)), me_w M ((x110N p v1 v2 J).2)) := by
  have k : nt_rn X d 110 (0, [(0, .ref (p 16)), (1, .int v1), (2, .int v2)], [], me_w M J) o := k
  have k := ly_revb 1 (c' := (1, [(0, .ref (p 16)), (1, .int v1), (2, .int v2)], [.ref (p 16)], me_w M J)) rfl k
  have k := lz_get (a := (p 16)) (g := 1007) (M := me_w M J) (v := .ref (p 31)) rfl (nt_gfR rfl (hp.1 (16, 7, 31) (by decide))) k
  have k := lz_get (a := (p 31)) (g := 601) (M := me_w M J) (v := .int (J (p 31) 1)) rfl (congrArg Value.int (rfl)) k
  have k := ly_revb 1 (c' := (if (J (p 31) 1) = 0 then 44 else 10, [(0, .ref (p 16)), (1, .int v1), (2, .int v2)], [], me_w M J)) rfl k
  by_cases h7 : (J (p 31) 1) = 0
  · rw [if_pos h7] at k
    have k := ly_revb 1 (c' := (45, [(0, .ref (p 16)), (1, .int v1), (2, .int v2)], [.int (Int32.ofInt (-1))], me_w M J)) rfl k
    have k := lz_ri rfl (by decide) k
    rw [k, x110N, if_pos h7]
  · rw [if_neg h7] at k
    have k := ly_revb 2 (c' := (12, [(0, .ref (p 16)), (1, .int v1), (2, .int v2)], [.int v1, .ref (p 16)], me_w M J)) rfl k
    obtain ⟨d1, o1, ed, kc, k⟩ := lz_c (g := 111) (q := 1) (vs := [.ref (p 16), .int v1]) (rest := []) rfl rfl (by decide) (Or.inr (Or.inl ⟨_, rfl, rfl⟩)) rfl k
    have e1 := xt111 hp kc
    subst e1
    have k : nt_rn X _ 110 (15, [(0, .ref (p 16)), (1, .int v1), (2, .int v2)], [.int (x111 p v1 J)], me_w M J) _ := k
    have k := ly_revb 1 (c' := (if (x111 p v1 J) = 0 then 44 else 18, [(0, .ref (p 16)), (1, .int v1), (2, .int v2)], [], me_w M J)) rfl k
    by_cases h15 : (x111 p v1 J) = 0
    · rw [if_pos h15] at k
      have k := ly_revb 1 (c' := (45, [(0, .ref (p 16)), (1, .int v1), (2, .int v2)], [.int (Int32.ofInt (-1))], me_w M J)) rfl k
      have k := lz_ri rfl (by decide) k
      rw [k, x110N, if_neg h7, if_pos h15]
    · rw [if_neg h15] at k
      have k := ly_revb 3 (c' := (if v2 < (Int32.ofInt 1) then 44 else 23, [(0, .ref (p 16)), (1, .int v1), (2, .int v2)], [], me_w M J)) rfl k
      by_cases h20 : v2 < (Int32.ofInt 1)
      · rw [if_pos h20] at k
        have k := ly_revb 1 (c' := (45, [(0, .ref (p 16)), (1, .int v1), (2, .int v2)], [.int (Int32.ofInt (-1))], me_w M J)) rfl k
        have k := lz_ri rfl (by decide) k
        rw [k, x110N, if_neg h7, if_neg h15, if_pos h20]
      · rw [if_neg h20] at k
        have k := ly_revb 3 (c' := (if (Int32.ofInt 100) < v2 then 44 else 29, [(0, .ref (p 16)), (1, .int v1), (2, .int v2)], [], me_w M J)) rfl k
        by_cases h26 : (Int32.ofInt 100) < v2
        · rw [if_pos h26] at k
          have k := ly_revb 1 (c' := (45, [(0, .ref (p 16)), (1, .int v1), (2, .int v2)], [.int (Int32.ofInt (-1))], me_w M J)) rfl k
          have k := lz_ri rfl (by decide) k
          rw [k, x110N, if_neg h7, if_neg h15, if_neg h20, if_pos h26]
        · rw [if_neg h26] at k
          have k := ly_revb 1 (c' := (30, [(0, .ref (p 16)), (1, .int v1), (2, .int v2)], [.ref (p 16)], me_w M J)) rfl k
          have k := lz_get (a := (p 16)) (g := 1007) (M := me_w M J) (v := .ref (p 31)) rfl (nt_gfR rfl (hp.1 (16, 7, 31) (by decide))) k
          have k := lz_get (a := (p 31)) (g := 602) (M := me_w M J) (v := .int (J (p 31) 2)) rfl (congrArg Value.int (rfl)) k
          have k := ly_revb 4 (c' := (if ((J (p 31) 2) + v2) ≤ (Int32.ofInt 200) then 46 else 44, [(0, .ref (p 16)), (1, .int v1), (2, .int v2)], [], me_w M J)) rfl k
          by_cases h41 : ((J (p 31) 2) + v2) ≤ (Int32.ofInt 200)
          · rw [if_pos h41] at k
            have k := ly_revb 2 (c' := (48, [(3, .int (Int32.ofInt 0)), (0, .ref (p 16)), (1, .int v1), (2, .int v2)], [], me_w M J)) rfl k
            have k := nt_rn_w (a := [(3, .int (Int32.ofInt 0)), (0, .ref (p 16)), (1, .int v1), (2, .int v2)]) (b := [(0, .ref (p 16)), (1, .int v1), (2, .int v2), (3, .int (Int32.ofInt 0))]) ⟨rfl, rfl, rfl, rfl, trivial⟩ rfl k
            have k := xt110N_48 hp hn h0  v2.toNatClampNeg (Int32.ofInt 0) J (lx_beg (by decide)) k
            rw [k, x110N, if_neg h7, if_neg h15, if_neg h20, if_neg h26, if_pos h41]
          · rw [if_neg h41] at k
            have k := ly_revb 1 (c' := (45, [(0, .ref (p 16)), (1, .int v1), (2, .int v2)], [.int (Int32.ofInt (-1))], me_w M J)) rfl k
            have k := lz_ri rfl (by decide) k
            rw [k, x110N, if_neg h7, if_neg h15, if_neg h20, if_neg h26, if_neg h41]
theorem x110N_48_frJ {p : Nat → Nat} {v1 : Int32} {v2 : Int32} {b : Nat} : ∀ (c : Nat) (v3 : Int32) (J : Nat → Nat → Int32), b ≠ p 31 → b ≠ p 41 → b ≠ p 42 → b ≠ p 43 → b ≠ p 44 → b ≠ p 46 → b ≠ p 47 → (x110N_48 p v1 v2 c v3 J).2 b = J b := by
  intro c
  induction c with
  | zero =>
    intro v3 J n0 n1 n2 n3 n4 n5 n6
    rw [x110N_48]
    all_goals first | (dsimp only; exact (show J b = J b from rfl)) | exact (show J b = J b from rfl)
  | succ c ih =>
    intro v3 J n0 n1 n2 n3 n4 n5 n6
    rw [x110N_48]
    by_cases h : v2 ≤ v3
    · rw [if_pos h]
      all_goals first | (dsimp only; exact (show J b = J b from rfl)) | exact (show J b = J b from rfl)
    · rw [if_neg h]
      exact (ih _ _ n0 n1 n2 n3 n4 n5 n6).trans (x1N_frJ  n0 n1 n2 n3 n4 n5 n6)
theorem x110N_frJ {p : Nat → Nat} {v1 : Int32} {v2 : Int32} {J : Nat → Nat → Int32} {b : Nat} (n0 : b ≠ p 31) (n1 : b ≠ p 41) (n2 : b ≠ p 42) (n3 : b ≠ p 43) (n4 : b ≠ p 44) (n5 : b ≠ p 46) (n6 : b ≠ p 47) : (x110N p v1 v2 J).2 b = J b := by
  unfold x110N
  by_cases h : (J (p 31) 1) = 0
  · rw [if_pos h]
    all_goals first | (dsimp only; exact (show J b = J b from rfl)) | exact (show J b = J b from rfl)
  · rw [if_neg h]
    by_cases h : (x111 p v1 J) = 0
    · rw [if_pos h]
      all_goals first | (dsimp only; exact (show J b = J b from rfl)) | exact (show J b = J b from rfl)
    · rw [if_neg h]
      by_cases h : v2 < (Int32.ofInt 1)
      · rw [if_pos h]
        all_goals first | (dsimp only; exact (show J b = J b from rfl)) | exact (show J b = J b from rfl)
      · rw [if_neg h]
        by_cases h : (Int32.ofInt 100) < v2
        · rw [if_pos h]
          all_goals first | (dsimp only; exact (show J b = J b from rfl)) | exact (show J b = J b from rfl)
        · rw [if_neg h]
          by_cases h : ((J (p 31) 2) + v2) ≤ (Int32.ofInt 200)
          · rw [if_pos h]
            exact (x110N_48_frJ _ _ _ n0 n1 n2 n3 n4 n5 n6).trans (rfl)
          · rw [if_neg h]
            all_goals first | (dsimp only; exact (show J b = J b from rfl)) | exact (show J b = J b from rfl)
end
