/-! years, the class -/
/-! $State.firstSoundIn -/
def x82_2 (q : Nat → Nat) (v1 : Int32) (J : Nat → Nat → Int32) : Nat → Int32 → Int32
  | 0, v2 => (Int32.ofInt (-1))
  | c + 1, v2 => if (J (q 1) 2) ≤ v2 then (Int32.ofInt (-1))
    else if (J (q 14) v2.toNatClampNeg) = v1 then if (J (q 13) v2.toNatClampNeg) ≤ 0 then (x82_2 q v1 J c (v2 + (Int32.ofInt 1)))
        else v2
      else (x82_2 q v1 J c (v2 + (Int32.ofInt 1)))
theorem xt82_2 {X : nt_X} {d : Nat} {M : nt_M} {o : Option Value × nt_M} {q : Nat → Nat} {v1 : Int32} {J : Nat → Nat → Int32} (hq : xs_Q M q) : ∀ (c : Nat) (v2 : Int32), (J (q 1) 2).toInt - v2.toInt ≤ c → nt_rn X d 82 (2, [(0, .ref (q 0)), (1, .int v1), (2, .int v2)], [], me_w M J) o → o = (some (.int (x82_2 q v1 J c v2)), me_w M J) := by
  intro c
  induction c with
  | zero =>
    intro v2 hc k
    have k := ly_revb 2 (c' := (4, [(0, .ref (q 0)), (1, .int v1), (2, .int v2)], [.ref (q 0), .int v2], me_w M J)) rfl k
    have k := lz_get (a := (q 0)) (g := 600) (M := me_w M J) (v := .ref (q 1)) rfl (nt_gfR rfl (hq.1 (0, 0, 1) (by decide))) k
    have k := lz_get (a := (q 1)) (g := 802) (M := me_w M J) (v := .int (J (q 1) 2)) rfl (congrArg Value.int (rfl)) k
    have k := ly_revb 1 (c' := (if (J (q 1) 2) ≤ v2 then 40 else 13, [(0, .ref (q 0)), (1, .int v1), (2, .int v2)], [], me_w M J)) rfl k
    have h10 : (J (q 1) 2) ≤ v2 := lx_end hc
    rw [if_pos h10] at k
    have k := ly_revb 1 (c' := (41, [(0, .ref (q 0)), (1, .int v1), (2, .int v2)], [.int (Int32.ofInt (-1))], me_w M J)) rfl k
    have k := lz_ri rfl (by decide) k
    rw [k, x82_2]
  | succ c ih =>
    intro v2 hc k
    have k := ly_revb 2 (c' := (4, [(0, .ref (q 0)), (1, .int v1), (2, .int v2)], [.ref (q 0), .int v2], me_w M J)) rfl k
    have k := lz_get (a := (q 0)) (g := 600) (M := me_w M J) (v := .ref (q 1)) rfl (nt_gfR rfl (hq.1 (0, 0, 1) (by decide))) k
    have k := lz_get (a := (q 1)) (g := 802) (M := me_w M J) (v := .int (J (q 1) 2)) rfl (congrArg Value.int (rfl)) k
    have k := ly_revb 1 (c' := (if (J (q 1) 2) ≤ v2 then 40 else 13, [(0, .ref (q 0)), (1, .int v1), (2, .int v2)], [], me_w M J)) rfl k
    by_cases h10 : (J (q 1) 2) ≤ v2
    · rw [if_pos h10] at k
      have k := ly_revb 1 (c' := (41, [(0, .ref (q 0)), (1, .int v1), (2, .int v2)], [.int (Int32.ofInt (-1))], me_w M J)) rfl k
      have k := lz_ri rfl (by decide) k
      rw [k, x82_2, if_pos h10]
    · rw [if_neg h10] at k
      have k := ly_revb 1 (c' := (14, [(0, .ref (q 0)), (1, .int v1), (2, .int v2)], [.ref (q 0)], me_w M J)) rfl k
      have k := lz_get (a := (q 0)) (g := 611) (M := me_w M J) (v := .ref (q 14)) rfl (nt_gfR rfl (hq.1 (0, 11, 14) (by decide))) k
      have k := ly_revb 1 (c' := (18, [(0, .ref (q 0)), (1, .int v1), (2, .int v2)], [.int v2, .ref (q 14)], me_w M J)) rfl k
      have k := mx_iald (v := J (q 14) v2.toNatClampNeg) rfl (hq.2.2.1 14 (by omega)) (rfl) k
      have k := ly_revb 2 (c' := (if (J (q 14) v2.toNatClampNeg) = v1 then 23 else 34, [(0, .ref (q 0)), (1, .int v1), (2, .int v2)], [], me_w M J)) rfl k
      by_cases h20 : (J (q 14) v2.toNatClampNeg) = v1
      · rw [if_pos h20] at k
        have k := ly_revb 1 (c' := (24, [(0, .ref (q 0)), (1, .int v1), (2, .int v2)], [.ref (q 0)], me_w M J)) rfl k
        have k := lz_get (a := (q 0)) (g := 610) (M := me_w M J) (v := .ref (q 13)) rfl (nt_gfR rfl (hq.1 (0, 10, 13) (by decide))) k
        have k := ly_revb 1 (c' := (28, [(0, .ref (q 0)), (1, .int v1), (2, .int v2)], [.int v2, .ref (q 13)], me_w M J)) rfl k
        have k := mx_iald (v := J (q 13) v2.toNatClampNeg) rfl (hq.2.2.1 13 (by omega)) (rfl) k
        have k := ly_revb 1 (c' := (if (J (q 13) v2.toNatClampNeg) ≤ 0 then 34 else 32, [(0, .ref (q 0)), (1, .int v1), (2, .int v2)], [], me_w M J)) rfl k
        by_cases h29 : (J (q 13) v2.toNatClampNeg) ≤ 0
        · rw [if_pos h29] at k
          have k := ly_revb 2 (c' := (2, [(2, .int (v2 + (Int32.ofInt 1))), (0, .ref (q 0)), (1, .int v1)], [], me_w M J)) rfl k
          have k := nt_rn_w (a := [(2, .int (v2 + (Int32.ofInt 1))), (0, .ref (q 0)), (1, .int v1)]) (b := [(0, .ref (q 0)), (1, .int v1), (2, .int (v2 + (Int32.ofInt 1)))]) ⟨rfl, rfl, rfl, trivial⟩ rfl k
          have k := ih (v2 + (Int32.ofInt 1)) (lx_dec h10 hc) k
          rw [k, x82_2, if_neg h10, if_pos h20, if_pos h29]
        · rw [if_neg h29] at k
          have k := ly_revb 1 (c' := (33, [(0, .ref (q 0)), (1, .int v1), (2, .int v2)], [.int v2], me_w M J)) rfl k
          have k := lz_ri rfl (by decide) k
          rw [k, x82_2, if_neg h10, if_pos h20, if_neg h29]
      · rw [if_neg h20] at k
        have k := ly_revb 2 (c' := (2, [(2, .int (v2 + (Int32.ofInt 1))), (0, .ref (q 0)), (1, .int v1)], [], me_w M J)) rfl k
        have k := nt_rn_w (a := [(2, .int (v2 + (Int32.ofInt 1))), (0, .ref (q 0)), (1, .int v1)]) (b := [(0, .ref (q 0)), (1, .int v1), (2, .int (v2 + (Int32.ofInt 1)))]) ⟨rfl, rfl, rfl, trivial⟩ rfl k
        have k := ih (v2 + (Int32.ofInt 1)) (lx_dec h10 hc) k
        rw [k, x82_2, if_neg h10, if_neg h20]
theorem x82_2_rule {q : Nat → Nat} {v1 : Int32} {J : Nat → Nat → Int32} {I : Nat → Int32 → Prop} {Q : Int32 → Prop} (h0 : ∀ (v2 : Int32), I 0 v2 → Q (Int32.ofInt (-1))) (h1 : ∀ (c : Nat) (v2 : Int32), I (c + 1) v2 →
    if (J (q 1) 2) ≤ v2 then (Q (Int32.ofInt (-1)))
    else if (J (q 14) v2.toNatClampNeg) = v1 then if (J (q 13) v2.toNatClampNeg) ≤ 0 then (I c (v2 + (Int32.ofInt 1)))
        else (Q v2)
      else (I c (v2 + (Int32.ofInt 1)))) : ∀ (c : Nat) (v2 : Int32), I c v2 → Q (x82_2 q v1 J c v2) := by
  intro c
  induction c with
  | zero =>
    intro v2 hi
    rw [x82_2]
    exact h0 v2 hi
  | succ c ih =>
    intro v2 hi
    have hi := h1 c v2 hi
    rw [x82_2]
    by_cases h : (J (q 1) 2) ≤ v2
    · rw [if_pos h] at hi ⊢
      exact hi
    · rw [if_neg h] at hi ⊢
      by_cases h : (J (q 14) v2.toNatClampNeg) = v1
      · rw [if_pos h] at hi ⊢
        by_cases h : (J (q 13) v2.toNatClampNeg) ≤ 0
        · rw [if_pos h] at hi ⊢
          exact ih _ hi
        · rw [if_neg h] at hi ⊢
          exact hi
      · rw [if_neg h] at hi ⊢
        exact ih _ hi
def x82 (q : Nat → Nat) (v1 : Int32) (J : Nat → Nat → Int32) : Int32 := (x82_2 q v1 J ((J (q 1) 2).toNatClampNeg) (Int32.ofInt 0))
theorem xt82 {X : nt_X} {d : Nat} {M : nt_M} {o : Option Value × nt_M} {q : Nat → Nat} {v1 : Int32} {J : Nat → Nat → Int32} (hq : xs_Q M q) (k : nt_ev X d 82 [.ref (q 0), .int v1] (me_w M J) o) : o = (some (.int (x82 q v1 J)), me_w M J) := by
  have k : nt_rn X d 82 (0, [(0, .ref (q 0)), (1, .int v1)], [], me_w M J) o := k
  have k := ly_revb 2 (c' := (2, [(2, .int (Int32.ofInt 0)), (0, .ref (q 0)), (1, .int v1)], [], me_w M J)) rfl k
  have k := nt_rn_w (a := [(2, .int (Int32.ofInt 0)), (0, .ref (q 0)), (1, .int v1)]) (b := [(0, .ref (q 0)), (1, .int v1), (2, .int (Int32.ofInt 0))]) ⟨rfl, rfl, rfl, trivial⟩ rfl k
  have k := xt82_2 hq  ((J (q 1) 2).toNatClampNeg) (Int32.ofInt 0) (lx_beg (by decide)) k
  rw [k, x82]
/-! $State.drawForShips -/
def x81_2 (q : Nat → Nat) (v1 : Int32) : Nat → Int32 → (Nat → Nat → Int32) → (Nat → Nat → Int32)
  | 0, v2, J => J
  | c + 1, v2, J => if (J (q 1) 1) ≤ v2 then J
    else if (J (q 10) v2.toNatClampNeg) = (Int32.ofInt 1) then if (x82 q v2 J) = (Int32.ofInt (-1)) then (x81_2 q v1 c (v2 + (Int32.ofInt 1)) J)
        else if v1 ≤ ((((((((J (q 0) 6).toInt64) * 1103515245) + 12345) - ((((J (q 0) 6).toInt64) * 1103515245) + 12345) / 2147483648 * 2147483648).toInt32) / (Int32.ofInt 65536)) - (((((((J (q 0) 6).toInt64) * 1103515245) + 12345) - ((((J (q 0) 6).toInt64) * 1103515245) + 12345) / 2147483648 * 2147483648).toInt32) / (Int32.ofInt 65536)) / (Int32.ofInt 100) * (Int32.ofInt 100)) then (x81_2 q v1 c (v2 + (Int32.ofInt 1)) (nt_u J (q 0) 6 ((((((J (q 0) 6).toInt64) * 1103515245) + 12345) - ((((J (q 0) 6).toInt64) * 1103515245) + 12345) / 2147483648 * 2147483648).toInt32)))
          else if (J (q 13) ((x82 q v2 J).toNatClampNeg)) ≤ (Int32.ofInt 1) then (x81_2 q v1 c (v2 + (Int32.ofInt 1)) (nt_u J (q 0) 6 ((((((J (q 0) 6).toInt64) * 1103515245) + 12345) - ((((J (q 0) 6).toInt64) * 1103515245) + 12345) / 2147483648 * 2147483648).toInt32)))
            else (x81_2 q v1 c (v2 + (Int32.ofInt 1)) (nt_u (nt_u J (q 0) 6 ((((((J (q 0) 6).toInt64) * 1103515245) + 12345) - ((((J (q 0) 6).toInt64) * 1103515245) + 12345) / 2147483648 * 2147483648).toInt32)) (q 13) ((x82 q v2 J).toNatClampNeg) ((J (q 13) ((x82 q v2 J).toNatClampNeg)) - (Int32.ofInt 1))))
      else if (Int32.ofInt (-1)) = (Int32.ofInt (-1)) then (x81_2 q v1 c (v2 + (Int32.ofInt 1)) J)
        else if v1 ≤ ((((((((J (q 0) 6).toInt64) * 1103515245) + 12345) - ((((J (q 0) 6).toInt64) * 1103515245) + 12345) / 2147483648 * 2147483648).toInt32) / (Int32.ofInt 65536)) - (((((((J (q 0) 6).toInt64) * 1103515245) + 12345) - ((((J (q 0) 6).toInt64) * 1103515245) + 12345) / 2147483648 * 2147483648).toInt32) / (Int32.ofInt 65536)) / (Int32.ofInt 100) * (Int32.ofInt 100)) then (x81_2 q v1 c (v2 + (Int32.ofInt 1)) (nt_u J (q 0) 6 ((((((J (q 0) 6).toInt64) * 1103515245) + 12345) - ((((J (q 0) 6).toInt64) * 1103515245) + 12345) / 2147483648 * 2147483648).toInt32)))
          else if (J (q 13) ((Int32.ofInt (-1)).toNatClampNeg)) ≤ (Int32.ofInt 1) then (x81_2 q v1 c (v2 + (Int32.ofInt 1)) (nt_u J (q 0) 6 ((((((J (q 0) 6).toInt64) * 1103515245) + 12345) - ((((J (q 0) 6).toInt64) * 1103515245) + 12345) / 2147483648 * 2147483648).toInt32)))
            else (x81_2 q v1 c (v2 + (Int32.ofInt 1)) (nt_u (nt_u J (q 0) 6 ((((((J (q 0) 6).toInt64) * 1103515245) + 12345) - ((((J (q 0) 6).toInt64) * 1103515245) + 12345) / 2147483648 * 2147483648).toInt32)) (q 13) ((Int32.ofInt (-1)).toNatClampNeg) ((J (q 13) ((Int32.ofInt (-1)).toNatClampNeg)) - (Int32.ofInt 1))))
theorem xt81_2 {X : nt_X} {d : Nat} {M : nt_M} {o : Option Value × nt_M} {q : Nat → Nat} {v1 : Int32} (hq : xs_Q M q) : ∀ (c : Nat) (v2 : Int32) (v3 : Int32) (J : Nat → Nat → Int32), (J (q 1) 1).toInt - v2.toInt ≤ c → nt_rn X d 81 (2, [(0, .ref (q 0)), (1, .int v1), (2, .int v2), (3, .int v3)], [], me_w M J) o → o = (none, me_w M (x81_2 q v1 c v2 J)) := by
  intro c
  induction c with
  | zero =>
    intro v2 v3 J hc k
    have k := ly_revb 2 (c' := (4, [(0, .ref (q 0)), (1, .int v1), (2, .int v2), (3, .int v3)], [.ref (q 0), .int v2], me_w M J)) rfl k
    have k := lz_get (a := (q 0)) (g := 600) (M := me_w M J) (v := .ref (q 1)) rfl (nt_gfR rfl (hq.1 (0, 0, 1) (by decide))) k
    have k := lz_get (a := (q 1)) (g := 801) (M := me_w M J) (v := .int (J (q 1) 1)) rfl (congrArg Value.int (rfl)) k
    have k := ly_revb 1 (c' := (if (J (q 1) 1) ≤ v2 then 100 else 13, [(0, .ref (q 0)), (1, .int v1), (2, .int v2), (3, .int v3)], [], me_w M J)) rfl k
    have h10 : (J (q 1) 1) ≤ v2 := lx_end hc
    rw [if_pos h10] at k
    have k := lz_rv rfl rfl k
    rw [k, x81_2]
  | succ c ih =>
    intro v2 v3 J hc k
    have k := ly_revb 2 (c' := (4, [(0, .ref (q 0)), (1, .int v1), (2, .int v2), (3, .int v3)], [.ref (q 0), .int v2], me_w M J)) rfl k
    have k := lz_get (a := (q 0)) (g := 600) (M := me_w M J) (v := .ref (q 1)) rfl (nt_gfR rfl (hq.1 (0, 0, 1) (by decide))) k
    have k := lz_get (a := (q 1)) (g := 801) (M := me_w M J) (v := .int (J (q 1) 1)) rfl (congrArg Value.int (rfl)) k
    have k := ly_revb 1 (c' := (if (J (q 1) 1) ≤ v2 then 100 else 13, [(0, .ref (q 0)), (1, .int v1), (2, .int v2), (3, .int v3)], [], me_w M J)) rfl k
    by_cases h10 : (J (q 1) 1) ≤ v2
    · rw [if_pos h10] at k
      have k := lz_rv rfl rfl k
      rw [k, x81_2, if_pos h10]
    · rw [if_neg h10] at k
      have k := ly_revb 1 (c' := (14, [(0, .ref (q 0)), (1, .int v1), (2, .int v2), (3, .int v3)], [.ref (q 0)], me_w M J)) rfl k
      have k := lz_get (a := (q 0)) (g := 607) (M := me_w M J) (v := .ref (q 10)) rfl (nt_gfR rfl (hq.1 (0, 7, 10) (by decide))) k
      have k := ly_revb 1 (c' := (18, [(0, .ref (q 0)), (1, .int v1), (2, .int v2), (3, .int v3)], [.int v2, .ref (q 10)], me_w M J)) rfl k
      have k := mx_iald (v := J (q 10) v2.toNatClampNeg) rfl (hq.2.2.1 10 (by omega)) (rfl) k
      have k := ly_revb 2 (c' := (if (J (q 10) v2.toNatClampNeg) = (Int32.ofInt 1) then 23 else 31, [(0, .ref (q 0)), (1, .int v1), (2, .int v2), (3, .int v3)], [], me_w M J)) rfl k
      by_cases h20 : (J (q 10) v2.toNatClampNeg) = (Int32.ofInt 1)
      · rw [if_pos h20] at k
        have k := ly_revb 2 (c' := (25, [(0, .ref (q 0)), (1, .int v1), (2, .int v2), (3, .int v3)], [.int v2, .ref (q 0)], me_w M J)) rfl k
        obtain ⟨d1, o1, ed, kc, k⟩ := lz_c (g := 82) (q := 1) (vs := [.ref (q 0), .int v2]) (rest := []) rfl rfl (by decide) (Or.inr (Or.inl ⟨_, rfl, rfl⟩)) rfl k
        have e1 := xt82 hq kc
        subst e1
        have k : nt_rn X _ 81 (28, [(0, .ref (q 0)), (1, .int v1), (2, .int v2), (3, .int v3)], [.int (x82 q v2 J)], me_w M J) _ := k
        have k := ly_revb 5 (c' := (if (x82 q v2 J) = (Int32.ofInt (-1)) then 94 else 38, [(3, .int (x82 q v2 J)), (0, .ref (q 0)), (1, .int v1), (2, .int v2)], [], me_w M J)) rfl k
        by_cases h35 : (x82 q v2 J) = (Int32.ofInt (-1))
        · rw [if_pos h35] at k
          have k := ly_revb 2 (c' := (2, [(2, .int (v2 + (Int32.ofInt 1))), (3, .int (x82 q v2 J)), (0, .ref (q 0)), (1, .int v1)], [], me_w M J)) rfl k
          have k := nt_rn_w (a := [(2, .int (v2 + (Int32.ofInt 1))), (3, .int (x82 q v2 J)), (0, .ref (q 0)), (1, .int v1)]) (b := [(0, .ref (q 0)), (1, .int v1), (2, .int (v2 + (Int32.ofInt 1))), (3, .int (x82 q v2 J))]) ⟨rfl, rfl, rfl, rfl, trivial⟩ rfl k
          have k := ih (v2 + (Int32.ofInt 1)) (x82 q v2 J) J (lx_dec h10 hc) k
          rw [k, x81_2, if_neg h10, if_pos h20, if_pos h35]
        · rw [if_neg h35] at k
          have k := ly_revb 2 (c' := (40, [(3, .int (x82 q v2 J)), (0, .ref (q 0)), (1, .int v1), (2, .int v2)], [.ref (q 0), .ref (q 0)], me_w M J)) rfl k
          have k := lz_get (a := (q 0)) (g := 606) (M := me_w M J) (v := .int (J (q 0) 6)) rfl (congrArg Value.int (rfl)) k
          have k := ly_revb 6 (c' := (55, [(3, .int (x82 q v2 J)), (0, .ref (q 0)), (1, .int v1), (2, .int v2)], [.long 2147483648, .long ((((J (q 0) 6).toInt64) * 1103515245) + 12345), .ref (q 0)], me_w M J)) rfl k
          obtain ⟨hd55, k⟩ := mx_lrem rfl k
          have k := ly_revb 1 (c' := (57, [(3, .int (x82 q v2 J)), (0, .ref (q 0)), (1, .int v1), (2, .int v2)], [.int ((((((J (q 0) 6).toInt64) * 1103515245) + 12345) - ((((J (q 0) 6).toInt64) * 1103515245) + 12345) / 2147483648 * 2147483648).toInt32), .ref (q 0)], me_w M J)) rfl k
          have k := me_put rfl (by decide) k
          have k : nt_rn X _ 81 (60, [(3, .int (x82 q v2 J)), (0, .ref (q 0)), (1, .int v1), (2, .int v2)], [], me_w M (nt_u J (q 0) 6 ((((((J (q 0) 6).toInt64) * 1103515245) + 12345) - ((((J (q 0) 6).toInt64) * 1103515245) + 12345) / 2147483648 * 2147483648).toInt32))) _ := k
          have k := ly_revb 1 (c' := (61, [(3, .int (x82 q v2 J)), (0, .ref (q 0)), (1, .int v1), (2, .int v2)], [.ref (q 0)], me_w M (nt_u J (q 0) 6 ((((((J (q 0) 6).toInt64) * 1103515245) + 12345) - ((((J (q 0) 6).toInt64) * 1103515245) + 12345) / 2147483648 * 2147483648).toInt32)))) rfl k
          have k := lz_get (a := (q 0)) (g := 606) (M := me_w M (nt_u J (q 0) 6 ((((((J (q 0) 6).toInt64) * 1103515245) + 12345) - ((((J (q 0) 6).toInt64) * 1103515245) + 12345) / 2147483648 * 2147483648).toInt32))) (v := .int ((((((J (q 0) 6).toInt64) * 1103515245) + 12345) - ((((J (q 0) 6).toInt64) * 1103515245) + 12345) / 2147483648 * 2147483648).toInt32)) rfl (congrArg Value.int (mu_s)) k
          have k := ly_revb 1 (c' := (66, [(3, .int (x82 q v2 J)), (0, .ref (q 0)), (1, .int v1), (2, .int v2)], [.int (Int32.ofInt 65536), .int ((((((J (q 0) 6).toInt64) * 1103515245) + 12345) - ((((J (q 0) 6).toInt64) * 1103515245) + 12345) / 2147483648 * 2147483648).toInt32)], me_w M (nt_u J (q 0) 6 ((((((J (q 0) 6).toInt64) * 1103515245) + 12345) - ((((J (q 0) 6).toInt64) * 1103515245) + 12345) / 2147483648 * 2147483648).toInt32)))) rfl k
          obtain ⟨hd66, k⟩ := mx_idiv rfl k
          have k := ly_revb 1 (c' := (69, [(3, .int (x82 q v2 J)), (0, .ref (q 0)), (1, .int v1), (2, .int v2)], [.int (Int32.ofInt 100), .int (((((((J (q 0) 6).toInt64) * 1103515245) + 12345) - ((((J (q 0) 6).toInt64) * 1103515245) + 12345) / 2147483648 * 2147483648).toInt32) / (Int32.ofInt 65536))], me_w M (nt_u J (q 0) 6 ((((((J (q 0) 6).toInt64) * 1103515245) + 12345) - ((((J (q 0) 6).toInt64) * 1103515245) + 12345) / 2147483648 * 2147483648).toInt32)))) rfl k
          obtain ⟨hd69, k⟩ := mx_irem rfl k
          have k := ly_revb 2 (c' := (if v1 ≤ ((((((((J (q 0) 6).toInt64) * 1103515245) + 12345) - ((((J (q 0) 6).toInt64) * 1103515245) + 12345) / 2147483648 * 2147483648).toInt32) / (Int32.ofInt 65536)) - (((((((J (q 0) 6).toInt64) * 1103515245) + 12345) - ((((J (q 0) 6).toInt64) * 1103515245) + 12345) / 2147483648 * 2147483648).toInt32) / (Int32.ofInt 65536)) / (Int32.ofInt 100) * (Int32.ofInt 100)) then 94 else 74, [(3, .int (x82 q v2 J)), (0, .ref (q 0)), (1, .int v1), (2, .int v2)], [], me_w M (nt_u J (q 0) 6 ((((((J (q 0) 6).toInt64) * 1103515245) + 12345) - ((((J (q 0) 6).toInt64) * 1103515245) + 12345) / 2147483648 * 2147483648).toInt32)))) rfl k
          by_cases h71 : v1 ≤ ((((((((J (q 0) 6).toInt64) * 1103515245) + 12345) - ((((J (q 0) 6).toInt64) * 1103515245) + 12345) / 2147483648 * 2147483648).toInt32) / (Int32.ofInt 65536)) - (((((((J (q 0) 6).toInt64) * 1103515245) + 12345) - ((((J (q 0) 6).toInt64) * 1103515245) + 12345) / 2147483648 * 2147483648).toInt32) / (Int32.ofInt 65536)) / (Int32.ofInt 100) * (Int32.ofInt 100))
          · rw [if_pos h71] at k
            have k := ly_revb 2 (c' := (2, [(2, .int (v2 + (Int32.ofInt 1))), (3, .int (x82 q v2 J)), (0, .ref (q 0)), (1, .int v1)], [], me_w M (nt_u J (q 0) 6 ((((((J (q 0) 6).toInt64) * 1103515245) + 12345) - ((((J (q 0) 6).toInt64) * 1103515245) + 12345) / 2147483648 * 2147483648).toInt32)))) rfl k
            have k := nt_rn_w (a := [(2, .int (v2 + (Int32.ofInt 1))), (3, .int (x82 q v2 J)), (0, .ref (q 0)), (1, .int v1)]) (b := [(0, .ref (q 0)), (1, .int v1), (2, .int (v2 + (Int32.ofInt 1))), (3, .int (x82 q v2 J))]) ⟨rfl, rfl, rfl, rfl, trivial⟩ rfl k
            have k := ih (v2 + (Int32.ofInt 1)) (x82 q v2 J) (nt_u J (q 0) 6 ((((((J (q 0) 6).toInt64) * 1103515245) + 12345) - ((((J (q 0) 6).toInt64) * 1103515245) + 12345) / 2147483648 * 2147483648).toInt32)) (by rw [show (nt_u J (q 0) 6 ((((((J (q 0) 6).toInt64) * 1103515245) + 12345) - ((((J (q 0) 6).toInt64) * 1103515245) + 12345) / 2147483648 * 2147483648).toInt32)) (q 1) 1 = J (q 1) 1 from mu_j (hq.2.1 1 0 (by omega) (by omega) (by decide))]; exact lx_dec h10 hc) k
            rw [k, x81_2, if_neg h10, if_pos h20, if_neg h35, if_pos h71]
          · rw [if_neg h71] at k
            have k := ly_revb 1 (c' := (75, [(3, .int (x82 q v2 J)), (0, .ref (q 0)), (1, .int v1), (2, .int v2)], [.ref (q 0)], me_w M (nt_u J (q 0) 6 ((((((J (q 0) 6).toInt64) * 1103515245) + 12345) - ((((J (q 0) 6).toInt64) * 1103515245) + 12345) / 2147483648 * 2147483648).toInt32)))) rfl k
            have k := lz_get (a := (q 0)) (g := 610) (M := me_w M (nt_u J (q 0) 6 ((((((J (q 0) 6).toInt64) * 1103515245) + 12345) - ((((J (q 0) 6).toInt64) * 1103515245) + 12345) / 2147483648 * 2147483648).toInt32))) (v := .ref (q 13)) rfl (nt_gfR rfl (hq.1 (0, 10, 13) (by decide))) k
            have k := ly_revb 1 (c' := (79, [(3, .int (x82 q v2 J)), (0, .ref (q 0)), (1, .int v1), (2, .int v2)], [.int (x82 q v2 J), .ref (q 13)], me_w M (nt_u J (q 0) 6 ((((((J (q 0) 6).toInt64) * 1103515245) + 12345) - ((((J (q 0) 6).toInt64) * 1103515245) + 12345) / 2147483648 * 2147483648).toInt32)))) rfl k
            have k := mx_iald (v := J (q 13) ((x82 q v2 J).toNatClampNeg)) rfl (hq.2.2.1 13 (by omega)) (mu_j (hq.2.1 13 0 (by omega) (by omega) (by decide))) k
            have k := ly_revb 2 (c' := (if (J (q 13) ((x82 q v2 J).toNatClampNeg)) ≤ (Int32.ofInt 1) then 94 else 84, [(3, .int (x82 q v2 J)), (0, .ref (q 0)), (1, .int v1), (2, .int v2)], [], me_w M (nt_u J (q 0) 6 ((((((J (q 0) 6).toInt64) * 1103515245) + 12345) - ((((J (q 0) 6).toInt64) * 1103515245) + 12345) / 2147483648 * 2147483648).toInt32)))) rfl k
            by_cases h81 : (J (q 13) ((x82 q v2 J).toNatClampNeg)) ≤ (Int32.ofInt 1)
            · rw [if_pos h81] at k
              have k := ly_revb 2 (c' := (2, [(2, .int (v2 + (Int32.ofInt 1))), (3, .int (x82 q v2 J)), (0, .ref (q 0)), (1, .int v1)], [], me_w M (nt_u J (q 0) 6 ((((((J (q 0) 6).toInt64) * 1103515245) + 12345) - ((((J (q 0) 6).toInt64) * 1103515245) + 12345) / 2147483648 * 2147483648).toInt32)))) rfl k
              have k := nt_rn_w (a := [(2, .int (v2 + (Int32.ofInt 1))), (3, .int (x82 q v2 J)), (0, .ref (q 0)), (1, .int v1)]) (b := [(0, .ref (q 0)), (1, .int v1), (2, .int (v2 + (Int32.ofInt 1))), (3, .int (x82 q v2 J))]) ⟨rfl, rfl, rfl, rfl, trivial⟩ rfl k
              have k := ih (v2 + (Int32.ofInt 1)) (x82 q v2 J) (nt_u J (q 0) 6 ((((((J (q 0) 6).toInt64) * 1103515245) + 12345) - ((((J (q 0) 6).toInt64) * 1103515245) + 12345) / 2147483648 * 2147483648).toInt32)) (by rw [show (nt_u J (q 0) 6 ((((((J (q 0) 6).toInt64) * 1103515245) + 12345) - ((((J (q 0) 6).toInt64) * 1103515245) + 12345) / 2147483648 * 2147483648).toInt32)) (q 1) 1 = J (q 1) 1 from mu_j (hq.2.1 1 0 (by omega) (by omega) (by decide))]; exact lx_dec h10 hc) k
              rw [k, x81_2, if_neg h10, if_pos h20, if_neg h35, if_neg h71, if_pos h81]
            · rw [if_neg h81] at k
              have k := ly_revb 1 (c' := (85, [(3, .int (x82 q v2 J)), (0, .ref (q 0)), (1, .int v1), (2, .int v2)], [.ref (q 0)], me_w M (nt_u J (q 0) 6 ((((((J (q 0) 6).toInt64) * 1103515245) + 12345) - ((((J (q 0) 6).toInt64) * 1103515245) + 12345) / 2147483648 * 2147483648).toInt32)))) rfl k
              have k := lz_get (a := (q 0)) (g := 610) (M := me_w M (nt_u J (q 0) 6 ((((((J (q 0) 6).toInt64) * 1103515245) + 12345) - ((((J (q 0) 6).toInt64) * 1103515245) + 12345) / 2147483648 * 2147483648).toInt32))) (v := .ref (q 13)) rfl (nt_gfR rfl (hq.1 (0, 10, 13) (by decide))) k
              have k := ly_revb 2 (c' := (90, [(3, .int (x82 q v2 J)), (0, .ref (q 0)), (1, .int v1), (2, .int v2)], [.int (x82 q v2 J), .ref (q 13), .int (x82 q v2 J), .ref (q 13)], me_w M (nt_u J (q 0) 6 ((((((J (q 0) 6).toInt64) * 1103515245) + 12345) - ((((J (q 0) 6).toInt64) * 1103515245) + 12345) / 2147483648 * 2147483648).toInt32)))) rfl k
              have k := mx_iald (v := J (q 13) ((x82 q v2 J).toNatClampNeg)) rfl (hq.2.2.1 13 (by omega)) (mu_j (hq.2.1 13 0 (by omega) (by omega) (by decide))) k
              have k := ly_revb 2 (c' := (93, [(3, .int (x82 q v2 J)), (0, .ref (q 0)), (1, .int v1), (2, .int v2)], [.int ((J (q 13) ((x82 q v2 J).toNatClampNeg)) - (Int32.ofInt 1)), .int (x82 q v2 J), .ref (q 13)], me_w M (nt_u J (q 0) 6 ((((((J (q 0) 6).toInt64) * 1103515245) + 12345) - ((((J (q 0) 6).toInt64) * 1103515245) + 12345) / 2147483648 * 2147483648).toInt32)))) rfl k
              have k := mx_iast (q := (x82 q v2 J).toNatClampNeg) rfl rfl k
              have k : nt_rn X _ 81 (94, [(3, .int (x82 q v2 J)), (0, .ref (q 0)), (1, .int v1), (2, .int v2)], [], me_w M (nt_u (nt_u J (q 0) 6 ((((((J (q 0) 6).toInt64) * 1103515245) + 12345) - ((((J (q 0) 6).toInt64) * 1103515245) + 12345) / 2147483648 * 2147483648).toInt32)) (q 13) ((x82 q v2 J).toNatClampNeg) ((J (q 13) ((x82 q v2 J).toNatClampNeg)) - (Int32.ofInt 1)))) _ := k
              have k := ly_revb 2 (c' := (2, [(2, .int (v2 + (Int32.ofInt 1))), (3, .int (x82 q v2 J)), (0, .ref (q 0)), (1, .int v1)], [], me_w M (nt_u (nt_u J (q 0) 6 ((((((J (q 0) 6).toInt64) * 1103515245) + 12345) - ((((J (q 0) 6).toInt64) * 1103515245) + 12345) / 2147483648 * 2147483648).toInt32)) (q 13) ((x82 q v2 J).toNatClampNeg) ((J (q 13) ((x82 q v2 J).toNatClampNeg)) - (Int32.ofInt 1))))) rfl k
              have k := nt_rn_w (a := [(2, .int (v2 + (Int32.ofInt 1))), (3, .int (x82 q v2 J)), (0, .ref (q 0)), (1, .int v1)]) (b := [(0, .ref (q 0)), (1, .int v1), (2, .int (v2 + (Int32.ofInt 1))), (3, .int (x82 q v2 J))]) ⟨rfl, rfl, rfl, rfl, trivial⟩ rfl k
              have k := ih (v2 + (Int32.ofInt 1)) (x82 q v2 J) (nt_u (nt_u J (q 0) 6 ((((((J (q 0) 6).toInt64) * 1103515245) + 12345) - ((((J (q 0) 6).toInt64) * 1103515245) + 12345) / 2147483648 * 2147483648).toInt32)) (q 13) ((x82 q v2 J).toNatClampNeg) ((J (q 13) ((x82 q v2 J).toNatClampNeg)) - (Int32.ofInt 1))) (by rw [show (nt_u (nt_u J (q 0) 6 ((((((J (q 0) 6).toInt64) * 1103515245) + 12345) - ((((J (q 0) 6).toInt64) * 1103515245) + 12345) / 2147483648 * 2147483648).toInt32)) (q 13) ((x82 q v2 J).toNatClampNeg) ((J (q 13) ((x82 q v2 J).toNatClampNeg)) - (Int32.ofInt 1))) (q 1) 1 = J (q 1) 1 from (mu_j (hq.2.1 1 13 (by omega) (by omega) (by decide))).trans (mu_j (hq.2.1 1 0 (by omega) (by omega) (by decide)))]; exact lx_dec h10 hc) k
              rw [k, x81_2, if_neg h10, if_pos h20, if_neg h35, if_neg h71, if_neg h81]
      · rw [if_neg h20] at k
        have k := ly_revb 5 (c' := (if (Int32.ofInt (-1)) = (Int32.ofInt (-1)) then 94 else 38, [(3, .int (Int32.ofInt (-1))), (0, .ref (q 0)), (1, .int v1), (2, .int v2)], [], me_w M J)) rfl k
        by_cases h35 : (Int32.ofInt (-1)) = (Int32.ofInt (-1))
        · rw [if_pos h35] at k
          have k := ly_revb 2 (c' := (2, [(2, .int (v2 + (Int32.ofInt 1))), (3, .int (Int32.ofInt (-1))), (0, .ref (q 0)), (1, .int v1)], [], me_w M J)) rfl k
          have k := nt_rn_w (a := [(2, .int (v2 + (Int32.ofInt 1))), (3, .int (Int32.ofInt (-1))), (0, .ref (q 0)), (1, .int v1)]) (b := [(0, .ref (q 0)), (1, .int v1), (2, .int (v2 + (Int32.ofInt 1))), (3, .int (Int32.ofInt (-1)))]) ⟨rfl, rfl, rfl, rfl, trivial⟩ rfl k
          have k := ih (v2 + (Int32.ofInt 1)) (Int32.ofInt (-1)) J (lx_dec h10 hc) k
          rw [k, x81_2, if_neg h10, if_neg h20, if_pos h35]
        · rw [if_neg h35] at k
          have k := ly_revb 2 (c' := (40, [(3, .int (Int32.ofInt (-1))), (0, .ref (q 0)), (1, .int v1), (2, .int v2)], [.ref (q 0), .ref (q 0)], me_w M J)) rfl k
          have k := lz_get (a := (q 0)) (g := 606) (M := me_w M J) (v := .int (J (q 0) 6)) rfl (congrArg Value.int (rfl)) k
          have k := ly_revb 6 (c' := (55, [(3, .int (Int32.ofInt (-1))), (0, .ref (q 0)), (1, .int v1), (2, .int v2)], [.long 2147483648, .long ((((J (q 0) 6).toInt64) * 1103515245) + 12345), .ref (q 0)], me_w M J)) rfl k
          obtain ⟨hd55, k⟩ := mx_lrem rfl k
          have k := ly_revb 1 (c' := (57, [(3, .int (Int32.ofInt (-1))), (0, .ref (q 0)), (1, .int v1), (2, .int v2)], [.int ((((((J (q 0) 6).toInt64) * 1103515245) + 12345) - ((((J (q 0) 6).toInt64) * 1103515245) + 12345) / 2147483648 * 2147483648).toInt32), .ref (q 0)], me_w M J)) rfl k
          have k := me_put rfl (by decide) k
          have k : nt_rn X _ 81 (60, [(3, .int (Int32.ofInt (-1))), (0, .ref (q 0)), (1, .int v1), (2, .int v2)], [], me_w M (nt_u J (q 0) 6 ((((((J (q 0) 6).toInt64) * 1103515245) + 12345) - ((((J (q 0) 6).toInt64) * 1103515245) + 12345) / 2147483648 * 2147483648).toInt32))) _ := k
          have k := ly_revb 1 (c' := (61, [(3, .int (Int32.ofInt (-1))), (0, .ref (q 0)), (1, .int v1), (2, .int v2)], [.ref (q 0)], me_w M (nt_u J (q 0) 6 ((((((J (q 0) 6).toInt64) * 1103515245) + 12345) - ((((J (q 0) 6).toInt64) * 1103515245) + 12345) / 2147483648 * 2147483648).toInt32)))) rfl k
          have k := lz_get (a := (q 0)) (g := 606) (M := me_w M (nt_u J (q 0) 6 ((((((J (q 0) 6).toInt64) * 1103515245) + 12345) - ((((J (q 0) 6).toInt64) * 1103515245) + 12345) / 2147483648 * 2147483648).toInt32))) (v := .int ((((((J (q 0) 6).toInt64) * 1103515245) + 12345) - ((((J (q 0) 6).toInt64) * 1103515245) + 12345) / 2147483648 * 2147483648).toInt32)) rfl (congrArg Value.int (mu_s)) k
          have k := ly_revb 1 (c' := (66, [(3, .int (Int32.ofInt (-1))), (0, .ref (q 0)), (1, .int v1), (2, .int v2)], [.int (Int32.ofInt 65536), .int ((((((J (q 0) 6).toInt64) * 1103515245) + 12345) - ((((J (q 0) 6).toInt64) * 1103515245) + 12345) / 2147483648 * 2147483648).toInt32)], me_w M (nt_u J (q 0) 6 ((((((J (q 0) 6).toInt64) * 1103515245) + 12345) - ((((J (q 0) 6).toInt64) * 1103515245) + 12345) / 2147483648 * 2147483648).toInt32)))) rfl k
          obtain ⟨hd66, k⟩ := mx_idiv rfl k
          have k := ly_revb 1 (c' := (69, [(3, .int (Int32.ofInt (-1))), (0, .ref (q 0)), (1, .int v1), (2, .int v2)], [.int (Int32.ofInt 100), .int (((((((J (q 0) 6).toInt64) * 1103515245) + 12345) - ((((J (q 0) 6).toInt64) * 1103515245) + 12345) / 2147483648 * 2147483648).toInt32) / (Int32.ofInt 65536))], me_w M (nt_u J (q 0) 6 ((((((J (q 0) 6).toInt64) * 1103515245) + 12345) - ((((J (q 0) 6).toInt64) * 1103515245) + 12345) / 2147483648 * 2147483648).toInt32)))) rfl k
          obtain ⟨hd69, k⟩ := mx_irem rfl k
          have k := ly_revb 2 (c' := (if v1 ≤ ((((((((J (q 0) 6).toInt64) * 1103515245) + 12345) - ((((J (q 0) 6).toInt64) * 1103515245) + 12345) / 2147483648 * 2147483648).toInt32) / (Int32.ofInt 65536)) - (((((((J (q 0) 6).toInt64) * 1103515245) + 12345) - ((((J (q 0) 6).toInt64) * 1103515245) + 12345) / 2147483648 * 2147483648).toInt32) / (Int32.ofInt 65536)) / (Int32.ofInt 100) * (Int32.ofInt 100)) then 94 else 74, [(3, .int (Int32.ofInt (-1))), (0, .ref (q 0)), (1, .int v1), (2, .int v2)], [], me_w M (nt_u J (q 0) 6 ((((((J (q 0) 6).toInt64) * 1103515245) + 12345) - ((((J (q 0) 6).toInt64) * 1103515245) + 12345) / 2147483648 * 2147483648).toInt32)))) rfl k
          by_cases h71 : v1 ≤ ((((((((J (q 0) 6).toInt64) * 1103515245) + 12345) - ((((J (q 0) 6).toInt64) * 1103515245) + 12345) / 2147483648 * 2147483648).toInt32) / (Int32.ofInt 65536)) - (((((((J (q 0) 6).toInt64) * 1103515245) + 12345) - ((((J (q 0) 6).toInt64) * 1103515245) + 12345) / 2147483648 * 2147483648).toInt32) / (Int32.ofInt 65536)) / (Int32.ofInt 100) * (Int32.ofInt 100))
          · rw [if_pos h71] at k
            have k := ly_revb 2 (c' := (2, [(2, .int (v2 + (Int32.ofInt 1))), (3, .int (Int32.ofInt (-1))), (0, .ref (q 0)), (1, .int v1)], [], me_w M (nt_u J (q 0) 6 ((((((J (q 0) 6).toInt64) * 1103515245) + 12345) - ((((J (q 0) 6).toInt64) * 1103515245) + 12345) / 2147483648 * 2147483648).toInt32)))) rfl k
            have k := nt_rn_w (a := [(2, .int (v2 + (Int32.ofInt 1))), (3, .int (Int32.ofInt (-1))), (0, .ref (q 0)), (1, .int v1)]) (b := [(0, .ref (q 0)), (1, .int v1), (2, .int (v2 + (Int32.ofInt 1))), (3, .int (Int32.ofInt (-1)))]) ⟨rfl, rfl, rfl, rfl, trivial⟩ rfl k
            have k := ih (v2 + (Int32.ofInt 1)) (Int32.ofInt (-1)) (nt_u J (q 0) 6 ((((((J (q 0) 6).toInt64) * 1103515245) + 12345) - ((((J (q 0) 6).toInt64) * 1103515245) + 12345) / 2147483648 * 2147483648).toInt32)) (by rw [show (nt_u J (q 0) 6 ((((((J (q 0) 6).toInt64) * 1103515245) + 12345) - ((((J (q 0) 6).toInt64) * 1103515245) + 12345) / 2147483648 * 2147483648).toInt32)) (q 1) 1 = J (q 1) 1 from mu_j (hq.2.1 1 0 (by omega) (by omega) (by decide))]; exact lx_dec h10 hc) k
            rw [k, x81_2, if_neg h10, if_neg h20, if_neg h35, if_pos h71]
          · rw [if_neg h71] at k
            have k := ly_revb 1 (c' := (75, [(3, .int (Int32.ofInt (-1))), (0, .ref (q 0)), (1, .int v1), (2, .int v2)], [.ref (q 0)], me_w M (nt_u J (q 0) 6 ((((((J (q 0) 6).toInt64) * 1103515245) + 12345) - ((((J (q 0) 6).toInt64) * 1103515245) + 12345) / 2147483648 * 2147483648).toInt32)))) rfl k
            have k := lz_get (a := (q 0)) (g := 610) (M := me_w M (nt_u J (q 0) 6 ((((((J (q 0) 6).toInt64) * 1103515245) + 12345) - ((((J (q 0) 6).toInt64) * 1103515245) + 12345) / 2147483648 * 2147483648).toInt32))) (v := .ref (q 13)) rfl (nt_gfR rfl (hq.1 (0, 10, 13) (by decide))) k
            have k := ly_revb 1 (c' := (79, [(3, .int (Int32.ofInt (-1))), (0, .ref (q 0)), (1, .int v1), (2, .int v2)], [.int (Int32.ofInt (-1)), .ref (q 13)], me_w M (nt_u J (q 0) 6 ((((((J (q 0) 6).toInt64) * 1103515245) + 12345) - ((((J (q 0) 6).toInt64) * 1103515245) + 12345) / 2147483648 * 2147483648).toInt32)))) rfl k
            have k := mx_iald (v := J (q 13) ((Int32.ofInt (-1)).toNatClampNeg)) rfl (hq.2.2.1 13 (by omega)) (mu_j (hq.2.1 13 0 (by omega) (by omega) (by decide))) k
            have k := ly_revb 2 (c' := (if (J (q 13) ((Int32.ofInt (-1)).toNatClampNeg)) ≤ (Int32.ofInt 1) then 94 else 84, [(3, .int (Int32.ofInt (-1))), (0, .ref (q 0)), (1, .int v1), (2, .int v2)], [], me_w M (nt_u J (q 0) 6 ((((((J (q 0) 6).toInt64) * 1103515245) + 12345) - ((((J (q 0) 6).toInt64) * 1103515245) + 12345) / 2147483648 * 2147483648).toInt32)))) rfl k
            by_cases h81 : (J (q 13) ((Int32.ofInt (-1)).toNatClampNeg)) ≤ (Int32.ofInt 1)
            · rw [if_pos h81] at k
              have k := ly_revb 2 (c' := (2, [(2, .int (v2 + (Int32.ofInt 1))), (3, .int (Int32.ofInt (-1))), (0, .ref (q 0)), (1, .int v1)], [], me_w M (nt_u J (q 0) 6 ((((((J (q 0) 6).toInt64) * 1103515245) + 12345) - ((((J (q 0) 6).toInt64) * 1103515245) + 12345) / 2147483648 * 2147483648).toInt32)))) rfl k
              have k := nt_rn_w (a := [(2, .int (v2 + (Int32.ofInt 1))), (3, .int (Int32.ofInt (-1))), (0, .ref (q 0)), (1, .int v1)]) (b := [(0, .ref (q 0)), (1, .int v1), (2, .int (v2 + (Int32.ofInt 1))), (3, .int (Int32.ofInt (-1)))]) ⟨rfl, rfl, rfl, rfl, trivial⟩ rfl k
              have k := ih (v2 + (Int32.ofInt 1)) (Int32.ofInt (-1)) (nt_u J (q 0) 6 ((((((J (q 0) 6).toInt64) * 1103515245) + 12345) - ((((J (q 0) 6).toInt64) * 1103515245) + 12345) / 2147483648 * 2147483648).toInt32)) (by rw [show (nt_u J (q 0) 6 ((((((J (q 0) 6).toInt64) * 1103515245) + 12345) - ((((J (q 0) 6).toInt64) * 1103515245) + 12345) / 2147483648 * 2147483648).toInt32)) (q 1) 1 = J (q 1) 1 from mu_j (hq.2.1 1 0 (by omega) (by omega) (by decide))]; exact lx_dec h10 hc) k
              rw [k, x81_2, if_neg h10, if_neg h20, if_neg h35, if_neg h71, if_pos h81]
            · rw [if_neg h81] at k
              have k := ly_revb 1 (c' := (85, [(3, .int (Int32.ofInt (-1))), (0, .ref (q 0)), (1, .int v1), (2, .int v2)], [.ref (q 0)], me_w M (nt_u J (q 0) 6 ((((((J (q 0) 6).toInt64) * 1103515245) + 12345) - ((((J (q 0) 6).toInt64) * 1103515245) + 12345) / 2147483648 * 2147483648).toInt32)))) rfl k
              have k := lz_get (a := (q 0)) (g := 610) (M := me_w M (nt_u J (q 0) 6 ((((((J (q 0) 6).toInt64) * 1103515245) + 12345) - ((((J (q 0) 6).toInt64) * 1103515245) + 12345) / 2147483648 * 2147483648).toInt32))) (v := .ref (q 13)) rfl (nt_gfR rfl (hq.1 (0, 10, 13) (by decide))) k
              have k := ly_revb 2 (c' := (90, [(3, .int (Int32.ofInt (-1))), (0, .ref (q 0)), (1, .int v1), (2, .int v2)], [.int (Int32.ofInt (-1)), .ref (q 13), .int (Int32.ofInt (-1)), .ref (q 13)], me_w M (nt_u J (q 0) 6 ((((((J (q 0) 6).toInt64) * 1103515245) + 12345) - ((((J (q 0) 6).toInt64) * 1103515245) + 12345) / 2147483648 * 2147483648).toInt32)))) rfl k
              have k := mx_iald (v := J (q 13) ((Int32.ofInt (-1)).toNatClampNeg)) rfl (hq.2.2.1 13 (by omega)) (mu_j (hq.2.1 13 0 (by omega) (by omega) (by decide))) k
              have k := ly_revb 2 (c' := (93, [(3, .int (Int32.ofInt (-1))), (0, .ref (q 0)), (1, .int v1), (2, .int v2)], [.int ((J (q 13) ((Int32.ofInt (-1)).toNatClampNeg)) - (Int32.ofInt 1)), .int (Int32.ofInt (-1)), .ref (q 13)], me_w M (nt_u J (q 0) 6 ((((((J (q 0) 6).toInt64) * 1103515245) + 12345) - ((((J (q 0) 6).toInt64) * 1103515245) + 12345) / 2147483648 * 2147483648).toInt32)))) rfl k
              have k := mx_iast (q := (Int32.ofInt (-1)).toNatClampNeg) rfl rfl k
              have k : nt_rn X _ 81 (94, [(3, .int (Int32.ofInt (-1))), (0, .ref (q 0)), (1, .int v1), (2, .int v2)], [], me_w M (nt_u (nt_u J (q 0) 6 ((((((J (q 0) 6).toInt64) * 1103515245) + 12345) - ((((J (q 0) 6).toInt64) * 1103515245) + 12345) / 2147483648 * 2147483648).toInt32)) (q 13) ((Int32.ofInt (-1)).toNatClampNeg) ((J (q 13) ((Int32.ofInt (-1)).toNatClampNeg)) - (Int32.ofInt 1)))) _ := k
              have k := ly_revb 2 (c' := (2, [(2, .int (v2 + (Int32.ofInt 1))), (3, .int (Int32.ofInt (-1))), (0, .ref (q 0)), (1, .int v1)], [], me_w M (nt_u (nt_u J (q 0) 6 ((((((J (q 0) 6).toInt64) * 1103515245) + 12345) - ((((J (q 0) 6).toInt64) * 1103515245) + 12345) / 2147483648 * 2147483648).toInt32)) (q 13) ((Int32.ofInt (-1)).toNatClampNeg) ((J (q 13) ((Int32.ofInt (-1)).toNatClampNeg)) - (Int32.ofInt 1))))) rfl k
              have k := nt_rn_w (a := [(2, .int (v2 + (Int32.ofInt 1))), (3, .int (Int32.ofInt (-1))), (0, .ref (q 0)), (1, .int v1)]) (b := [(0, .ref (q 0)), (1, .int v1), (2, .int (v2 + (Int32.ofInt 1))), (3, .int (Int32.ofInt (-1)))]) ⟨rfl, rfl, rfl, rfl, trivial⟩ rfl k
              have k := ih (v2 + (Int32.ofInt 1)) (Int32.ofInt (-1)) (nt_u (nt_u J (q 0) 6 ((((((J (q 0) 6).toInt64) * 1103515245) + 12345) - ((((J (q 0) 6).toInt64) * 1103515245) + 12345) / 2147483648 * 2147483648).toInt32)) (q 13) ((Int32.ofInt (-1)).toNatClampNeg) ((J (q 13) ((Int32.ofInt (-1)).toNatClampNeg)) - (Int32.ofInt 1))) (by rw [show (nt_u (nt_u J (q 0) 6 ((((((J (q 0) 6).toInt64) * 1103515245) + 12345) - ((((J (q 0) 6).toInt64) * 1103515245) + 12345) / 2147483648 * 2147483648).toInt32)) (q 13) ((Int32.ofInt (-1)).toNatClampNeg) ((J (q 13) ((Int32.ofInt (-1)).toNatClampNeg)) - (Int32.ofInt 1))) (q 1) 1 = J (q 1) 1 from (mu_j (hq.2.1 1 13 (by omega) (by omega) (by decide))).trans (mu_j (hq.2.1 1 0 (by omega) (by omega) (by decide)))]; exact lx_dec h10 hc) k
              rw [k, x81_2, if_neg h10, if_neg h20, if_neg h35, if_neg h71, if_neg h81]
theorem x81_2_rule {q : Nat → Nat} {v1 : Int32} {I : Nat → Int32 → (Nat → Nat → Int32) → Prop} {Q : (Nat → Nat → Int32) → Prop} (h0 : ∀ (v2 : Int32) (J : Nat → Nat → Int32), I 0 v2 J → Q J) (h1 : ∀ (c : Nat) (v2 : Int32) (J : Nat → Nat → Int32), I (c + 1) v2 J →
    if (J (q 1) 1) ≤ v2 then (Q J)
    else if (J (q 10) v2.toNatClampNeg) = (Int32.ofInt 1) then if (x82 q v2 J) = (Int32.ofInt (-1)) then (I c (v2 + (Int32.ofInt 1)) J)
        else if v1 ≤ ((((((((J (q 0) 6).toInt64) * 1103515245) + 12345) - ((((J (q 0) 6).toInt64) * 1103515245) + 12345) / 2147483648 * 2147483648).toInt32) / (Int32.ofInt 65536)) - (((((((J (q 0) 6).toInt64) * 1103515245) + 12345) - ((((J (q 0) 6).toInt64) * 1103515245) + 12345) / 2147483648 * 2147483648).toInt32) / (Int32.ofInt 65536)) / (Int32.ofInt 100) * (Int32.ofInt 100)) then (I c (v2 + (Int32.ofInt 1)) (nt_u J (q 0) 6 ((((((J (q 0) 6).toInt64) * 1103515245) + 12345) - ((((J (q 0) 6).toInt64) * 1103515245) + 12345) / 2147483648 * 2147483648).toInt32)))
          else if (J (q 13) ((x82 q v2 J).toNatClampNeg)) ≤ (Int32.ofInt 1) then (I c (v2 + (Int32.ofInt 1)) (nt_u J (q 0) 6 ((((((J (q 0) 6).toInt64) * 1103515245) + 12345) - ((((J (q 0) 6).toInt64) * 1103515245) + 12345) / 2147483648 * 2147483648).toInt32)))
            else (I c (v2 + (Int32.ofInt 1)) (nt_u (nt_u J (q 0) 6 ((((((J (q 0) 6).toInt64) * 1103515245) + 12345) - ((((J (q 0) 6).toInt64) * 1103515245) + 12345) / 2147483648 * 2147483648).toInt32)) (q 13) ((x82 q v2 J).toNatClampNeg) ((J (q 13) ((x82 q v2 J).toNatClampNeg)) - (Int32.ofInt 1))))
      else if (Int32.ofInt (-1)) = (Int32.ofInt (-1)) then (I c (v2 + (Int32.ofInt 1)) J)
        else if v1 ≤ ((((((((J (q 0) 6).toInt64) * 1103515245) + 12345) - ((((J (q 0) 6).toInt64) * 1103515245) + 12345) / 2147483648 * 2147483648).toInt32) / (Int32.ofInt 65536)) - (((((((J (q 0) 6).toInt64) * 1103515245) + 12345) - ((((J (q 0) 6).toInt64) * 1103515245) + 12345) / 2147483648 * 2147483648).toInt32) / (Int32.ofInt 65536)) / (Int32.ofInt 100) * (Int32.ofInt 100)) then (I c (v2 + (Int32.ofInt 1)) (nt_u J (q 0) 6 ((((((J (q 0) 6).toInt64) * 1103515245) + 12345) - ((((J (q 0) 6).toInt64) * 1103515245) + 12345) / 2147483648 * 2147483648).toInt32)))
          else if (J (q 13) ((Int32.ofInt (-1)).toNatClampNeg)) ≤ (Int32.ofInt 1) then (I c (v2 + (Int32.ofInt 1)) (nt_u J (q 0) 6 ((((((J (q 0) 6).toInt64) * 1103515245) + 12345) - ((((J (q 0) 6).toInt64) * 1103515245) + 12345) / 2147483648 * 2147483648).toInt32)))
            else (I c (v2 + (Int32.ofInt 1)) (nt_u (nt_u J (q 0) 6 ((((((J (q 0) 6).toInt64) * 1103515245) + 12345) - ((((J (q 0) 6).toInt64) * 1103515245) + 12345) / 2147483648 * 2147483648).toInt32)) (q 13) ((Int32.ofInt (-1)).toNatClampNeg) ((J (q 13) ((Int32.ofInt (-1)).toNatClampNeg)) - (Int32.ofInt 1))))) : ∀ (c : Nat) (v2 : Int32) (J : Nat → Nat → Int32), I c v2 J → Q (x81_2 q v1 c v2 J) := by
  intro c
  induction c with
  | zero =>
    intro v2 J hi
    rw [x81_2]
    exact h0 v2 J hi
  | succ c ih =>
    intro v2 J hi
    have hi := h1 c v2 J hi
    rw [x81_2]
    by_cases h : (J (q 1) 1) ≤ v2
    · rw [if_pos h] at hi ⊢
      exact hi
    · rw [if_neg h] at hi ⊢
      by_cases h : (J (q 10) v2.toNatClampNeg) = (Int32.ofInt 1)
      · rw [if_pos h] at hi ⊢
        by_cases h : (x82 q v2 J) = (Int32.ofInt (-1))
        · rw [if_pos h] at hi ⊢
          exact ih _ _ hi
        · rw [if_neg h] at hi ⊢
          by_cases h : v1 ≤ ((((((((J (q 0) 6).toInt64) * 1103515245) + 12345) - ((((J (q 0) 6).toInt64) * 1103515245) + 12345) / 2147483648 * 2147483648).toInt32) / (Int32.ofInt 65536)) - (((((((J (q 0) 6).toInt64) * 1103515245) + 12345) - ((((J (q 0) 6).toInt64) * 1103515245) + 12345) / 2147483648 * 2147483648).toInt32) / (Int32.ofInt 65536)) / (Int32.ofInt 100) * (Int32.ofInt 100))
          · rw [if_pos h] at hi ⊢
            exact ih _ _ hi
          · rw [if_neg h] at hi ⊢
            by_cases h : (J (q 13) ((x82 q v2 J).toNatClampNeg)) ≤ (Int32.ofInt 1)
            · rw [if_pos h] at hi ⊢
              exact ih _ _ hi
            · rw [if_neg h] at hi ⊢
              exact ih _ _ hi
      · rw [if_neg h] at hi ⊢
        by_cases h : (Int32.ofInt (-1)) = (Int32.ofInt (-1))
        · rw [if_pos h] at hi ⊢
          exact ih _ _ hi
        · rw [if_neg h] at hi ⊢
          by_cases h : v1 ≤ ((((((((J (q 0) 6).toInt64) * 1103515245) + 12345) - ((((J (q 0) 6).toInt64) * 1103515245) + 12345) / 2147483648 * 2147483648).toInt32) / (Int32.ofInt 65536)) - (((((((J (q 0) 6).toInt64) * 1103515245) + 12345) - ((((J (q 0) 6).toInt64) * 1103515245) + 12345) / 2147483648 * 2147483648).toInt32) / (Int32.ofInt 65536)) / (Int32.ofInt 100) * (Int32.ofInt 100))
          · rw [if_pos h] at hi ⊢
            exact ih _ _ hi
          · rw [if_neg h] at hi ⊢
            by_cases h : (J (q 13) ((Int32.ofInt (-1)).toNatClampNeg)) ≤ (Int32.ofInt 1)
            · rw [if_pos h] at hi ⊢
              exact ih _ _ hi
            · rw [if_neg h] at hi ⊢
              exact ih _ _ hi
def x81 (q : Nat → Nat) (v1 : Int32) (J : Nat → Nat → Int32) : (Nat → Nat → Int32) := (x81_2 q v1 ((J (q 1) 1).toNatClampNeg) (Int32.ofInt 0) J)
theorem xt81 {X : nt_X} {d : Nat} {M : nt_M} {o : Option Value × nt_M} {q : Nat → Nat} {v1 : Int32} {J : Nat → Nat → Int32} (hq : xs_Q M q) (k : nt_ev X d 81 [.ref (q 0), .int v1] (me_w M J) o) : o = (none, me_w M (x81 q v1 J)) := by
  have k : nt_rn X d 81 (0, [(0, .ref (q 0)), (1, .int v1)], [], me_w M J) o := k
  have k := ly_revb 2 (c' := (2, [(2, .int (Int32.ofInt 0)), (0, .ref (q 0)), (1, .int v1)], [], me_w M J)) rfl k
  have k := nt_rn_w (a := [(2, .int (Int32.ofInt 0)), (0, .ref (q 0)), (1, .int v1)]) (b := [(0, .ref (q 0)), (1, .int v1), (2, .int (Int32.ofInt 0)), (3, .int (Int32.ofInt 0))]) ⟨rfl, rfl, rfl, trivial⟩ rfl k
  have k := xt81_2 hq  ((J (q 1) 1).toNatClampNeg) (Int32.ofInt 0) (Int32.ofInt 0) J (lx_beg (by decide)) k
  rw [k, x81]
theorem x81_2_frJ {q : Nat → Nat} {v1 : Int32} {b : Nat} : ∀ (c : Nat) (v2 : Int32) (J : Nat → Nat → Int32), b ≠ q 0 → b ≠ q 13 → x81_2 q v1 c v2 J b = J b := by
  intro c
  induction c with
  | zero =>
    intro v2 J n0 n1
    rw [x81_2]
    all_goals first | (dsimp only; exact (show J b = J b from rfl)) | exact (show J b = J b from rfl)
  | succ c ih =>
    intro v2 J n0 n1
    rw [x81_2]
    by_cases h : (J (q 1) 1) ≤ v2
    · rw [if_pos h]
      all_goals first | (dsimp only; exact (show J b = J b from rfl)) | exact (show J b = J b from rfl)
    · rw [if_neg h]
      by_cases h : (J (q 10) v2.toNatClampNeg) = (Int32.ofInt 1)
      · rw [if_pos h]
        by_cases h : (x82 q v2 J) = (Int32.ofInt (-1))
        · rw [if_pos h]
          exact (ih _ _ n0 n1).trans (rfl)
        · rw [if_neg h]
          by_cases h : v1 ≤ ((((((((J (q 0) 6).toInt64) * 1103515245) + 12345) - ((((J (q 0) 6).toInt64) * 1103515245) + 12345) / 2147483648 * 2147483648).toInt32) / (Int32.ofInt 65536)) - (((((((J (q 0) 6).toInt64) * 1103515245) + 12345) - ((((J (q 0) 6).toInt64) * 1103515245) + 12345) / 2147483648 * 2147483648).toInt32) / (Int32.ofInt 65536)) / (Int32.ofInt 100) * (Int32.ofInt 100))
          · rw [if_pos h]
            exact (ih _ _ n0 n1).trans (mu_o n0)
          · rw [if_neg h]
            by_cases h : (J (q 13) ((x82 q v2 J).toNatClampNeg)) ≤ (Int32.ofInt 1)
            · rw [if_pos h]
              exact (ih _ _ n0 n1).trans (mu_o n0)
            · rw [if_neg h]
              exact (ih _ _ n0 n1).trans ((mu_o n1).trans (mu_o n0))
      · rw [if_neg h]
        by_cases h : (Int32.ofInt (-1)) = (Int32.ofInt (-1))
        · rw [if_pos h]
          exact (ih _ _ n0 n1).trans (rfl)
        · rw [if_neg h]
          by_cases h : v1 ≤ ((((((((J (q 0) 6).toInt64) * 1103515245) + 12345) - ((((J (q 0) 6).toInt64) * 1103515245) + 12345) / 2147483648 * 2147483648).toInt32) / (Int32.ofInt 65536)) - (((((((J (q 0) 6).toInt64) * 1103515245) + 12345) - ((((J (q 0) 6).toInt64) * 1103515245) + 12345) / 2147483648 * 2147483648).toInt32) / (Int32.ofInt 65536)) / (Int32.ofInt 100) * (Int32.ofInt 100))
          · rw [if_pos h]
            exact (ih _ _ n0 n1).trans (mu_o n0)
          · rw [if_neg h]
            by_cases h : (J (q 13) ((Int32.ofInt (-1)).toNatClampNeg)) ≤ (Int32.ofInt 1)
            · rw [if_pos h]
              exact (ih _ _ n0 n1).trans (mu_o n0)
            · rw [if_neg h]
              exact (ih _ _ n0 n1).trans ((mu_o n1).trans (mu_o n0))
theorem x81_frJ {q : Nat → Nat} {v1 : Int32} {J : Nat → Nat → Int32} {b : Nat} (n0 : b ≠ q 0) (n1 : b ≠ q 13) : x81 q v1 J b = J b := by
  unfold x81
  exact (x81_2_frJ _ _ _ n0 n1).trans (rfl)
/-! java/lang/Integer.bitCount -/
def x236 (v0 : Int32) : Int32 := ((((((((v0 - (((v0.toUInt32 >>> ((Int32.ofInt 1).toUInt32 &&& Int32.toUInt32 31)).toInt32) &&& (Int32.ofInt 1431655765))) &&& (Int32.ofInt 858993459)) + ((((v0 - (((v0.toUInt32 >>> ((Int32.ofInt 1).toUInt32 &&& Int32.toUInt32 31)).toInt32) &&& (Int32.ofInt 1431655765))).toUInt32 >>> ((Int32.ofInt 2).toUInt32 &&& Int32.toUInt32 31)).toInt32) &&& (Int32.ofInt 858993459))) + (((((v0 - (((v0.toUInt32 >>> ((Int32.ofInt 1).toUInt32 &&& Int32.toUInt32 31)).toInt32) &&& (Int32.ofInt 1431655765))) &&& (Int32.ofInt 858993459)) + ((((v0 - (((v0.toUInt32 >>> ((Int32.ofInt 1).toUInt32 &&& Int32.toUInt32 31)).toInt32) &&& (Int32.ofInt 1431655765))).toUInt32 >>> ((Int32.ofInt 2).toUInt32 &&& Int32.toUInt32 31)).toInt32) &&& (Int32.ofInt 858993459))).toUInt32 >>> ((Int32.ofInt 4).toUInt32 &&& Int32.toUInt32 31)).toInt32)) &&& (Int32.ofInt 252645135)) + (((((((v0 - (((v0.toUInt32 >>> ((Int32.ofInt 1).toUInt32 &&& Int32.toUInt32 31)).toInt32) &&& (Int32.ofInt 1431655765))) &&& (Int32.ofInt 858993459)) + ((((v0 - (((v0.toUInt32 >>> ((Int32.ofInt 1).toUInt32 &&& Int32.toUInt32 31)).toInt32) &&& (Int32.ofInt 1431655765))).toUInt32 >>> ((Int32.ofInt 2).toUInt32 &&& Int32.toUInt32 31)).toInt32) &&& (Int32.ofInt 858993459))) + (((((v0 - (((v0.toUInt32 >>> ((Int32.ofInt 1).toUInt32 &&& Int32.toUInt32 31)).toInt32) &&& (Int32.ofInt 1431655765))) &&& (Int32.ofInt 858993459)) + ((((v0 - (((v0.toUInt32 >>> ((Int32.ofInt 1).toUInt32 &&& Int32.toUInt32 31)).toInt32) &&& (Int32.ofInt 1431655765))).toUInt32 >>> ((Int32.ofInt 2).toUInt32 &&& Int32.toUInt32 31)).toInt32) &&& (Int32.ofInt 858993459))).toUInt32 >>> ((Int32.ofInt 4).toUInt32 &&& Int32.toUInt32 31)).toInt32)) &&& (Int32.ofInt 252645135)).toUInt32 >>> ((Int32.ofInt 8).toUInt32 &&& Int32.toUInt32 31)).toInt32)) + ((((((((v0 - (((v0.toUInt32 >>> ((Int32.ofInt 1).toUInt32 &&& Int32.toUInt32 31)).toInt32) &&& (Int32.ofInt 1431655765))) &&& (Int32.ofInt 858993459)) + ((((v0 - (((v0.toUInt32 >>> ((Int32.ofInt 1).toUInt32 &&& Int32.toUInt32 31)).toInt32) &&& (Int32.ofInt 1431655765))).toUInt32 >>> ((Int32.ofInt 2).toUInt32 &&& Int32.toUInt32 31)).toInt32) &&& (Int32.ofInt 858993459))) + (((((v0 - (((v0.toUInt32 >>> ((Int32.ofInt 1).toUInt32 &&& Int32.toUInt32 31)).toInt32) &&& (Int32.ofInt 1431655765))) &&& (Int32.ofInt 858993459)) + ((((v0 - (((v0.toUInt32 >>> ((Int32.ofInt 1).toUInt32 &&& Int32.toUInt32 31)).toInt32) &&& (Int32.ofInt 1431655765))).toUInt32 >>> ((Int32.ofInt 2).toUInt32 &&& Int32.toUInt32 31)).toInt32) &&& (Int32.ofInt 858993459))).toUInt32 >>> ((Int32.ofInt 4).toUInt32 &&& Int32.toUInt32 31)).toInt32)) &&& (Int32.ofInt 252645135)) + (((((((v0 - (((v0.toUInt32 >>> ((Int32.ofInt 1).toUInt32 &&& Int32.toUInt32 31)).toInt32) &&& (Int32.ofInt 1431655765))) &&& (Int32.ofInt 858993459)) + ((((v0 - (((v0.toUInt32 >>> ((Int32.ofInt 1).toUInt32 &&& Int32.toUInt32 31)).toInt32) &&& (Int32.ofInt 1431655765))).toUInt32 >>> ((Int32.ofInt 2).toUInt32 &&& Int32.toUInt32 31)).toInt32) &&& (Int32.ofInt 858993459))) + (((((v0 - (((v0.toUInt32 >>> ((Int32.ofInt 1).toUInt32 &&& Int32.toUInt32 31)).toInt32) &&& (Int32.ofInt 1431655765))) &&& (Int32.ofInt 858993459)) + ((((v0 - (((v0.toUInt32 >>> ((Int32.ofInt 1).toUInt32 &&& Int32.toUInt32 31)).toInt32) &&& (Int32.ofInt 1431655765))).toUInt32 >>> ((Int32.ofInt 2).toUInt32 &&& Int32.toUInt32 31)).toInt32) &&& (Int32.ofInt 858993459))).toUInt32 >>> ((Int32.ofInt 4).toUInt32 &&& Int32.toUInt32 31)).toInt32)) &&& (Int32.ofInt 252645135)).toUInt32 >>> ((Int32.ofInt 8).toUInt32 &&& Int32.toUInt32 31)).toInt32)).toUInt32 >>> ((Int32.ofInt 16).toUInt32 &&& Int32.toUInt32 31)).toInt32)) &&& (Int32.ofInt 63))
theorem xt236 {X : nt_X} {d : Nat} {M : nt_M} {o : Option Value × nt_M} {v0 : Int32} {J : Nat → Nat → Int32}  (k : nt_ev X d 236 [.int v0] (me_w M J) o) : o = (some (.int (x236 v0)), me_w M J) := by
  have k : nt_rn X d 236 (0, [(0, .int v0)], [], me_w M J) o := k
  have k := ly_revb 41 (c' := (52, [(0, .int (((((((v0 - (((v0.toUInt32 >>> ((Int32.ofInt 1).toUInt32 &&& Int32.toUInt32 31)).toInt32) &&& (Int32.ofInt 1431655765))) &&& (Int32.ofInt 858993459)) + ((((v0 - (((v0.toUInt32 >>> ((Int32.ofInt 1).toUInt32 &&& Int32.toUInt32 31)).toInt32) &&& (Int32.ofInt 1431655765))).toUInt32 >>> ((Int32.ofInt 2).toUInt32 &&& Int32.toUInt32 31)).toInt32) &&& (Int32.ofInt 858993459))) + (((((v0 - (((v0.toUInt32 >>> ((Int32.ofInt 1).toUInt32 &&& Int32.toUInt32 31)).toInt32) &&& (Int32.ofInt 1431655765))) &&& (Int32.ofInt 858993459)) + ((((v0 - (((v0.toUInt32 >>> ((Int32.ofInt 1).toUInt32 &&& Int32.toUInt32 31)).toInt32) &&& (Int32.ofInt 1431655765))).toUInt32 >>> ((Int32.ofInt 2).toUInt32 &&& Int32.toUInt32 31)).toInt32) &&& (Int32.ofInt 858993459))).toUInt32 >>> ((Int32.ofInt 4).toUInt32 &&& Int32.toUInt32 31)).toInt32)) &&& (Int32.ofInt 252645135)) + (((((((v0 - (((v0.toUInt32 >>> ((Int32.ofInt 1).toUInt32 &&& Int32.toUInt32 31)).toInt32) &&& (Int32.ofInt 1431655765))) &&& (Int32.ofInt 858993459)) + ((((v0 - (((v0.toUInt32 >>> ((Int32.ofInt 1).toUInt32 &&& Int32.toUInt32 31)).toInt32) &&& (Int32.ofInt 1431655765))).toUInt32 >>> ((Int32.ofInt 2).toUInt32 &&& Int32.toUInt32 31)).toInt32) &&& (Int32.ofInt 858993459))) + (((((v0 - (((v0.toUInt32 >>> ((Int32.ofInt 1).toUInt32 &&& Int32.toUInt32 31)).toInt32) &&& (Int32.ofInt 1431655765))) &&& (Int32.ofInt 858993459)) + ((((v0 - (((v0.toUInt32 >>> ((Int32.ofInt 1).toUInt32 &&& Int32.toUInt32 31)).toInt32) &&& (Int32.ofInt 1431655765))).toUInt32 >>> ((Int32.ofInt 2).toUInt32 &&& Int32.toUInt32 31)).toInt32) &&& (Int32.ofInt 858993459))).toUInt32 >>> ((Int32.ofInt 4).toUInt32 &&& Int32.toUInt32 31)).toInt32)) &&& (Int32.ofInt 252645135)).toUInt32 >>> ((Int32.ofInt 8).toUInt32 &&& Int32.toUInt32 31)).toInt32)) + ((((((((v0 - (((v0.toUInt32 >>> ((Int32.ofInt 1).toUInt32 &&& Int32.toUInt32 31)).toInt32) &&& (Int32.ofInt 1431655765))) &&& (Int32.ofInt 858993459)) + ((((v0 - (((v0.toUInt32 >>> ((Int32.ofInt 1).toUInt32 &&& Int32.toUInt32 31)).toInt32) &&& (Int32.ofInt 1431655765))).toUInt32 >>> ((Int32.ofInt 2).toUInt32 &&& Int32.toUInt32 31)).toInt32) &&& (Int32.ofInt 858993459))) + (((((v0 - (((v0.toUInt32 >>> ((Int32.ofInt 1).toUInt32 &&& Int32.toUInt32 31)).toInt32) &&& (Int32.ofInt 1431655765))) &&& (Int32.ofInt 858993459)) + ((((v0 - (((v0.toUInt32 >>> ((Int32.ofInt 1).toUInt32 &&& Int32.toUInt32 31)).toInt32) &&& (Int32.ofInt 1431655765))).toUInt32 >>> ((Int32.ofInt 2).toUInt32 &&& Int32.toUInt32 31)).toInt32) &&& (Int32.ofInt 858993459))).toUInt32 >>> ((Int32.ofInt 4).toUInt32 &&& Int32.toUInt32 31)).toInt32)) &&& (Int32.ofInt 252645135)) + (((((((v0 - (((v0.toUInt32 >>> ((Int32.ofInt 1).toUInt32 &&& Int32.toUInt32 31)).toInt32) &&& (Int32.ofInt 1431655765))) &&& (Int32.ofInt 858993459)) + ((((v0 - (((v0.toUInt32 >>> ((Int32.ofInt 1).toUInt32 &&& Int32.toUInt32 31)).toInt32) &&& (Int32.ofInt 1431655765))).toUInt32 >>> ((Int32.ofInt 2).toUInt32 &&& Int32.toUInt32 31)).toInt32) &&& (Int32.ofInt 858993459))) + (((((v0 - (((v0.toUInt32 >>> ((Int32.ofInt 1).toUInt32 &&& Int32.toUInt32 31)).toInt32) &&& (Int32.ofInt 1431655765))) &&& (Int32.ofInt 858993459)) + ((((v0 - (((v0.toUInt32 >>> ((Int32.ofInt 1).toUInt32 &&& Int32.toUInt32 31)).toInt32) &&& (Int32.ofInt 1431655765))).toUInt32 >>> ((Int32.ofInt 2).toUInt32 &&& Int32.toUInt32 31)).toInt32) &&& (Int32.ofInt 858993459))).toUInt32 >>> ((Int32.ofInt 4).toUInt32 &&& Int32.toUInt32 31)).toInt32)) &&& (Int32.ofInt 252645135)).toUInt32 >>> ((Int32.ofInt 8).toUInt32 &&& Int32.toUInt32 31)).toInt32)).toUInt32 >>> ((Int32.ofInt 16).toUInt32 &&& Int32.toUInt32 31)).toInt32)))], [.int ((((((((v0 - (((v0.toUInt32 >>> ((Int32.ofInt 1).toUInt32 &&& Int32.toUInt32 31)).toInt32) &&& (Int32.ofInt 1431655765))) &&& (Int32.ofInt 858993459)) + ((((v0 - (((v0.toUInt32 >>> ((Int32.ofInt 1).toUInt32 &&& Int32.toUInt32 31)).toInt32) &&& (Int32.ofInt 1431655765))).toUInt32 >>> ((Int32.ofInt 2).toUInt32 &&& Int32.toUInt32 31)).toInt32) &&& (Int32.ofInt 858993459))) + (((((v0 - (((v0.toUInt32 >>> ((Int32.ofInt 1).toUInt32 &&& Int32.toUInt32 31)).toInt32) &&& (Int32.ofInt 1431655765))) &&& (Int32.ofInt 858993459)) + ((((v0 - (((v0.toUInt32 >>> ((Int32.ofInt 1).toUInt32 &&& Int32.toUInt32 31)).toInt32) &&& (Int32.ofInt 1431655765))).toUInt32 >>> ((Int32.ofInt 2).toUInt32 &&& Int32.toUInt32 31)).toInt32) &&& (Int32.ofInt 858993459))).toUInt32 >>> ((Int32.ofInt 4).toUInt32 &&& Int32.toUInt32 31)).toInt32)) &&& (Int32.ofInt 252645135)) + (((((((v0 - (((v0.toUInt32 >>> ((Int32.ofInt 1).toUInt32 &&& Int32.toUInt32 31)).toInt32) &&& (Int32.ofInt 1431655765))) &&& (Int32.ofInt 858993459)) + ((((v0 - (((v0.toUInt32 >>> ((Int32.ofInt 1).toUInt32 &&& Int32.toUInt32 31)).toInt32) &&& (Int32.ofInt 1431655765))).toUInt32 >>> ((Int32.ofInt 2).toUInt32 &&& Int32.toUInt32 31)).toInt32) &&& (Int32.ofInt 858993459))) + (((((v0 - (((v0.toUInt32 >>> ((Int32.ofInt 1).toUInt32 &&& Int32.toUInt32 31)).toInt32) &&& (Int32.ofInt 1431655765))) &&& (Int32.ofInt 858993459)) + ((((v0 - (((v0.toUInt32 >>> ((Int32.ofInt 1).toUInt32 &&& Int32.toUInt32 31)).toInt32) &&& (Int32.ofInt 1431655765))).toUInt32 >>> ((Int32.ofInt 2).toUInt32 &&& Int32.toUInt32 31)).toInt32) &&& (Int32.ofInt 858993459))).toUInt32 >>> ((Int32.ofInt 4).toUInt32 &&& Int32.toUInt32 31)).toInt32)) &&& (Int32.ofInt 252645135)).toUInt32 >>> ((Int32.ofInt 8).toUInt32 &&& Int32.toUInt32 31)).toInt32)) + ((((((((v0 - (((v0.toUInt32 >>> ((Int32.ofInt 1).toUInt32 &&& Int32.toUInt32 31)).toInt32) &&& (Int32.ofInt 1431655765))) &&& (Int32.ofInt 858993459)) + ((((v0 - (((v0.toUInt32 >>> ((Int32.ofInt 1).toUInt32 &&& Int32.toUInt32 31)).toInt32) &&& (Int32.ofInt 1431655765))).toUInt32 >>> ((Int32.ofInt 2).toUInt32 &&& Int32.toUInt32 31)).toInt32) &&& (Int32.ofInt 858993459))) + (((((v0 - (((v0.toUInt32 >>> ((Int32.ofInt 1).toUInt32 &&& Int32.toUInt32 31)).toInt32) &&& (Int32.ofInt 1431655765))) &&& (Int32.ofInt 858993459)) + ((((v0 - (((v0.toUInt32 >>> ((Int32.ofInt 1).toUInt32 &&& Int32.toUInt32 31)).toInt32) &&& (Int32.ofInt 1431655765))).toUInt32 >>> ((Int32.ofInt 2).toUInt32 &&& Int32.toUInt32 31)).toInt32) &&& (Int32.ofInt 858993459))).toUInt32 >>> ((Int32.ofInt 4).toUInt32 &&& Int32.toUInt32 31)).toInt32)) &&& (Int32.ofInt 252645135)) + (((((((v0 - (((v0.toUInt32 >>> ((Int32.ofInt 1).toUInt32 &&& Int32.toUInt32 31)).toInt32) &&& (Int32.ofInt 1431655765))) &&& (Int32.ofInt 858993459)) + ((((v0 - (((v0.toUInt32 >>> ((Int32.ofInt 1).toUInt32 &&& Int32.toUInt32 31)).toInt32) &&& (Int32.ofInt 1431655765))).toUInt32 >>> ((Int32.ofInt 2).toUInt32 &&& Int32.toUInt32 31)).toInt32) &&& (Int32.ofInt 858993459))) + (((((v0 - (((v0.toUInt32 >>> ((Int32.ofInt 1).toUInt32 &&& Int32.toUInt32 31)).toInt32) &&& (Int32.ofInt 1431655765))) &&& (Int32.ofInt 858993459)) + ((((v0 - (((v0.toUInt32 >>> ((Int32.ofInt 1).toUInt32 &&& Int32.toUInt32 31)).toInt32) &&& (Int32.ofInt 1431655765))).toUInt32 >>> ((Int32.ofInt 2).toUInt32 &&& Int32.toUInt32 31)).toInt32) &&& (Int32.ofInt 858993459))).toUInt32 >>> ((Int32.ofInt 4).toUInt32 &&& Int32.toUInt32 31)).toInt32)) &&& (Int32.ofInt 252645135)).toUInt32 >>> ((Int32.ofInt 8).toUInt32 &&& Int32.toUInt32 31)).toInt32)).toUInt32 >>> ((Int32.ofInt 16).toUInt32 &&& Int32.toUInt32 31)).toInt32)) &&& (Int32.ofInt 63))], me_w M J)) rfl k
  have k := lz_ri rfl (by decide) k
  rw [k, x236]
/-! .years -/
def x125_114 (p : Nat → Nat) (sp : Nat) (ln : Nat) (v1 : Int32) (v2 : Int32) (v3 : Int32) (v4 : Int32) (v5 : Int32) (v6 : Int32) (v7 : Int32) (v9 : Int32) : Nat → Int32 → (Nat → Nat → Int32) → (Nat → Nat → Int64) → (Nat → Nat → Int32) × (Nat → Nat → Int64)
  | 0, v10, J, L => (J, L)
  | c + 1, v10, J, L => if v3 ≤ v10 then (J, L)
    else if (Int32.ofInt 99) < (J (p 48) 2) then (J, L)
      else (x125_114 p sp ln v1 v2 v3 v4 v5 v6 v7 v9 c (v10 + (Int32.ofInt 1)) (x81 (fun i => p (48 + i)) v4 ((x1 p (fun i => p (48 + i)) sp ln J L).1)) ((x1 p (fun i => p (48 + i)) sp ln J L).2))
theorem xt125_114 {X : nt_X} {d : Nat} {M : nt_M} {o : Option Value × nt_M} {p : Nat → Nat} {sp : Nat} {ln : Nat} {ru : Nat} {v1 : Int32} {v2 : Int32} {v3 : Int32} {v4 : Int32} {v5 : Int32} {v6 : Int32} {v7 : Int32} {v8 : Int32} {v9 : Int32} (hp : xs_P M p) (hn : xs_Q M (fun i => p (31 + i))) (hm : xs_Q M (fun i => p (48 + i))) (hk : xs_N M (fun i => p (48 + i))) (hs : xs_S M p ru sp ln) (h0 : ¬ v1 < 0) (hr : nt_R M (p 23) v1.toNatClampNeg = some ru) : ∀ (c : Nat) (v10 : Int32) (J : Nat → Nat → Int32) (L : Nat → Nat → Int64), (¬ J (p 16) 4 ≤ v1 ∧ v3.toInt - v10.toInt ≤ c) → nt_rn X d 125 (114, [(0, .ref (p 16)), (1, .int v1), (2, .int v2), (3, .int v3), (4, .int v4), (5, .int v5), (6, .int v6), (7, .int v7), (8, .int v8), (9, .int v9), (10, .int v10)], [], me_w (lw M L) J) o → ∃ (w10 : Int32), nt_rn X d 125 (163, [(0, .ref (p 16)), (1, .int v1), (2, .int v2), (3, .int v3), (4, .int v4), (5, .int v5), (6, .int v6), (7, .int v7), (8, .int v8), (9, .int v9), (10, .int w10)], [], me_w (lw M ((x125_114 p sp ln v1 v2 v3 v4 v5 v6 v7 v9 c v10 J L).2)) ((x125_114 p sp ln v1 v2 v3 v4 v5 v6 v7 v9 c v10 J L).1)) o := by
  intro c
  induction c with
  | zero =>
    intro v10 J L hc k
    have k := ly_revb 3 (c' := (if v3 ≤ v10 then 163 else 120, [(0, .ref (p 16)), (1, .int v1), (2, .int v2), (3, .int v3), (4, .int v4), (5, .int v5), (6, .int v6), (7, .int v7), (8, .int v8), (9, .int v9), (10, .int v10)], [], me_w (lw M L) J)) rfl k
    have h117 : v3 ≤ v10 := lx_end hc.2
    rw [if_pos h117] at k
    have k := nt_rn_w (a := [(0, .ref (p 16)), (1, .int v1), (2, .int v2), (3, .int v3), (4, .int v4), (5, .int v5), (6, .int v6), (7, .int v7), (8, .int v8), (9, .int v9), (10, .int v10)]) (b := [(0, .ref (p 16)), (1, .int v1), (2, .int v2), (3, .int v3), (4, .int v4), (5, .int v5), (6, .int v6), (7, .int v7), (8, .int v8), (9, .int v9), (10, .int v10)]) ⟨rfl, rfl, rfl, rfl, rfl, rfl, rfl, rfl, rfl, rfl, rfl, trivial⟩ rfl k
    rw [x125_114]
    exact ⟨_, k⟩
  | succ c ih =>
    intro v10 J L hc k
    have k := ly_revb 3 (c' := (if v3 ≤ v10 then 163 else 120, [(0, .ref (p 16)), (1, .int v1), (2, .int v2), (3, .int v3), (4, .int v4), (5, .int v5), (6, .int v6), (7, .int v7), (8, .int v8), (9, .int v9), (10, .int v10)], [], me_w (lw M L) J)) rfl k
    by_cases h117 : v3 ≤ v10
    · rw [if_pos h117] at k
      have k := nt_rn_w (a := [(0, .ref (p 16)), (1, .int v1), (2, .int v2), (3, .int v3), (4, .int v4), (5, .int v5), (6, .int v6), (7, .int v7), (8, .int v8), (9, .int v9), (10, .int v10)]) (b := [(0, .ref (p 16)), (1, .int v1), (2, .int v2), (3, .int v3), (4, .int v4), (5, .int v5), (6, .int v6), (7, .int v7), (8, .int v8), (9, .int v9), (10, .int v10)]) ⟨rfl, rfl, rfl, rfl, rfl, rfl, rfl, rfl, rfl, rfl, rfl, trivial⟩ rfl k
      rw [x125_114, if_pos h117]
      exact ⟨_, k⟩
    · rw [if_neg h117] at k
      have k := ly_revb 1 (c' := (121, [(0, .ref (p 16)), (1, .int v1), (2, .int v2), (3, .int v3), (4, .int v4), (5, .int v5), (6, .int v6), (7, .int v7), (8, .int v8), (9, .int v9), (10, .int v10)], [.ref (p 16)], me_w (lw M L) J)) rfl k
      have k := lz_get (a := (p 16)) (g := 1008) (M := me_w (lw M L) J) (v := .ref (p 48)) rfl (nt_gfR rfl (hp.1 (16, 8, 48) (by decide))) k
      have k := lz_get (a := (p 48)) (g := 602) (M := me_w (lw M L) J) (v := .int (J (p 48) 2)) rfl (congrArg Value.int (rfl)) k
      have k := ly_revb 2 (c' := (if (Int32.ofInt 99) < (J (p 48) 2) then 163 else 132, [(0, .ref (p 16)), (1, .int v1), (2, .int v2), (3, .int v3), (4, .int v4), (5, .int v5), (6, .int v6), (7, .int v7), (8, .int v8), (9, .int v9), (10, .int v10)], [], me_w (lw M L) J)) rfl k
      by_cases h129 : (Int32.ofInt 99) < (J (p 48) 2)
      · rw [if_pos h129] at k
        have k := nt_rn_w (a := [(0, .ref (p 16)), (1, .int v1), (2, .int v2), (3, .int v3), (4, .int v4), (5, .int v5), (6, .int v6), (7, .int v7), (8, .int v8), (9, .int v9), (10, .int v10)]) (b := [(0, .ref (p 16)), (1, .int v1), (2, .int v2), (3, .int v3), (4, .int v4), (5, .int v5), (6, .int v6), (7, .int v7), (8, .int v8), (9, .int v9), (10, .int v10)]) ⟨rfl, rfl, rfl, rfl, rfl, rfl, rfl, rfl, rfl, rfl, rfl, trivial⟩ rfl k
        rw [x125_114, if_neg h117, if_pos h129]
        exact ⟨_, k⟩
      · rw [if_neg h129] at k
        have k := ly_revb 1 (c' := (133, [(0, .ref (p 16)), (1, .int v1), (2, .int v2), (3, .int v3), (4, .int v4), (5, .int v5), (6, .int v6), (7, .int v7), (8, .int v8), (9, .int v9), (10, .int v10)], [.ref (p 16)], me_w (lw M L) J)) rfl k
        have k := lz_get (a := (p 16)) (g := 1005) (M := me_w (lw M L) J) (v := .ref (p 24)) rfl (nt_gfR rfl (hp.1 (16, 5, 24) (by decide))) k
        have k := ly_revb 1 (c' := (137, [(0, .ref (p 16)), (1, .int v1), (2, .int v2), (3, .int v3), (4, .int v4), (5, .int v5), (6, .int v6), (7, .int v7), (8, .int v8), (9, .int v9), (10, .int v10)], [.ref (p 16), .ref (p 24)], me_w (lw M L) J)) rfl k
        have k := lz_get (a := (p 16)) (g := 1008) (M := me_w (lw M L) J) (v := .ref (p 48)) rfl (nt_gfR rfl (hp.1 (16, 8, 48) (by decide))) k
        have k := ly_revb 2 (c' := (142, [(0, .ref (p 16)), (1, .int v1), (2, .int v2), (3, .int v3), (4, .int v4), (5, .int v5), (6, .int v6), (7, .int v7), (8, .int v8), (9, .int v9), (10, .int v10)], [.int v1, .ref (p 16), .ref (p 48), .ref (p 24)], me_w (lw M L) J)) rfl k
        obtain ⟨d1, o1, ed, kc, k⟩ := lz_c (g := 112) (q := 1) (vs := [.ref (p 16), .int v1]) (rest := [.ref (p 48), .ref (p 24)]) rfl rfl (by decide) (Or.inr (Or.inl ⟨_, rfl, rfl⟩)) rfl k
        have e1 := xr112 (M := lw M L) (xs_lp hp) h0 hc.1 hr kc
        subst e1
        have k : nt_rn X _ 125 (145, [(0, .ref (p 16)), (1, .int v1), (2, .int v2), (3, .int v3), (4, .int v4), (5, .int v5), (6, .int v6), (7, .int v7), (8, .int v8), (9, .int v9), (10, .int v10)], [.ref ru, .ref (p 48), .ref (p 24)], me_w (lw M L) J) _ := k
        obtain ⟨d1, o1, ed, kc, k⟩ := lz_c (g := 1) (q := 1) (vs := [.ref (p 24), .ref (p 48), .ref ru]) (rest := []) rfl rfl (by decide) (Or.inr (Or.inl ⟨_, rfl, rfl⟩)) rfl k
        have e1 := xt1 hp hm (xs_x48 hp) hs kc
        subst e1
        have k : nt_rn X _ 125 (148, [(0, .ref (p 16)), (1, .int v1), (2, .int v2), (3, .int v3), (4, .int v4), (5, .int v5), (6, .int v6), (7, .int v7), (8, .int v8), (9, .int v9), (10, .int v10)], [], me_w (lw M ((x1 p (fun i => p (48 + i)) sp ln J L).2)) ((x1 p (fun i => p (48 + i)) sp ln J L).1)) _ := k
        have k := ly_revb 1 (c' := (149, [(0, .ref (p 16)), (1, .int v1), (2, .int v2), (3, .int v3), (4, .int v4), (5, .int v5), (6, .int v6), (7, .int v7), (8, .int v8), (9, .int v9), (10, .int v10)], [.ref (p 16)], me_w (lw M ((x1 p (fun i => p (48 + i)) sp ln J L).2)) ((x1 p (fun i => p (48 + i)) sp ln J L).1))) rfl k
        have k := lz_get (a := (p 16)) (g := 1008) (M := me_w (lw M ((x1 p (fun i => p (48 + i)) sp ln J L).2)) ((x1 p (fun i => p (48 + i)) sp ln J L).1)) (v := .ref (p 48)) rfl (nt_gfR rfl (hp.1 (16, 8, 48) (by decide))) k
        have k := ly_revb 1 (c' := (154, [(0, .ref (p 16)), (1, .int v1), (2, .int v2), (3, .int v3), (4, .int v4), (5, .int v5), (6, .int v6), (7, .int v7), (8, .int v8), (9, .int v9), (10, .int v10)], [.int v4, .ref (p 48)], me_w (lw M ((x1 p (fun i => p (48 + i)) sp ln J L).2)) ((x1 p (fun i => p (48 + i)) sp ln J L).1))) rfl k
        obtain ⟨d1, o1, ed, kc, k⟩ := lz_c (g := 81) (q := 1) (vs := [.ref (p 48), .int v4]) (rest := []) rfl rfl (by decide) (Or.inr (Or.inl ⟨_, rfl, rfl⟩)) rfl k
        have e1 := xt81 (xs_lq hm) kc
        subst e1
        have k : nt_rn X _ 125 (157, [(0, .ref (p 16)), (1, .int v1), (2, .int v2), (3, .int v3), (4, .int v4), (5, .int v5), (6, .int v6), (7, .int v7), (8, .int v8), (9, .int v9), (10, .int v10)], [], me_w (lw M ((x1 p (fun i => p (48 + i)) sp ln J L).2)) (x81 (fun i => p (48 + i)) v4 ((x1 p (fun i => p (48 + i)) sp ln J L).1))) _ := k
        have k := ly_revb 2 (c' := (114, [(10, .int (v10 + (Int32.ofInt 1))), (0, .ref (p 16)), (1, .int v1), (2, .int v2), (3, .int v3), (4, .int v4), (5, .int v5), (6, .int v6), (7, .int v7), (8, .int v8), (9, .int v9)], [], me_w (lw M ((x1 p (fun i => p (48 + i)) sp ln J L).2)) (x81 (fun i => p (48 + i)) v4 ((x1 p (fun i => p (48 + i)) sp ln J L).1)))) rfl k
        have k := nt_rn_w (a := [(10, .int (v10 + (Int32.ofInt 1))), (0, .ref (p 16)), (1, .int v1), (2, .int v2), (3, .int v3), (4, .int v4), (5, .int v5), (6, .int v6), (7, .int v7), (8, .int v8), (9, .int v9)]) (b := [(0, .ref (p 16)), (1, .int v1), (2, .int v2), (3, .int v3), (4, .int v4), (5, .int v5), (6, .int v6), (7, .int v7), (8, .int v8), (9, .int v9), (10, .int (v10 + (Int32.ofInt 1)))]) ⟨rfl, rfl, rfl, rfl, rfl, rfl, rfl, rfl, rfl, rfl, rfl, trivial⟩ rfl k
        have k := ih (v10 + (Int32.ofInt 1)) (x81 (fun i => p (48 + i)) v4 ((x1 p (fun i => p (48 + i)) sp ln J L).1)) ((x1 p (fun i => p (48 + i)) sp ln J L).2) (⟨by rw [show (x81 (fun i => p (48 + i)) v4 ((x1 p (fun i => p (48 + i)) sp ln J L).1)) (p 16) 4 = J (p 16) 4 from (congrFun (x81_frJ  (hp.2.1 16 48 (by omega) (by omega) (by decide)) (hp.2.1 16 61 (by omega) (by omega) (by decide))) 4).trans (congrFun (x1_frJ  (hp.2.1 16 25 (by omega) (by omega) (by decide)) (hp.2.1 16 48 (by omega) (by omega) (by decide)) (hp.2.1 16 58 (by omega) (by omega) (by decide)) (hp.2.1 16 59 (by omega) (by omega) (by decide)) (hp.2.1 16 60 (by omega) (by omega) (by decide)) (hp.2.1 16 61 (by omega) (by omega) (by decide)) (hp.2.1 16 62 (by omega) (by omega) (by decide)) (hp.2.1 16 63 (by omega) (by omega) (by decide)) (hp.2.1 16 64 (by omega) (by omega) (by decide))) 4)]; exact hc.1, lx_dec h117 hc.2⟩) k
        rw [x125_114, if_neg h117, if_neg h129]
        exact k
theorem x125_114_rule {p : Nat → Nat} {sp : Nat} {ln : Nat} {v1 : Int32} {v2 : Int32} {v3 : Int32} {v4 : Int32} {v5 : Int32} {v6 : Int32} {v7 : Int32} {v9 : Int32} {I : Nat → Int32 → (Nat → Nat → Int32) → (Nat → Nat → Int64) → Prop} {Q : (Nat → Nat → Int32) × (Nat → Nat → Int64) → Prop} (h0 : ∀ (v10 : Int32) (J : Nat → Nat → Int32) (L : Nat → Nat → Int64), I 0 v10 J L → Q (J, L)) (h1 : ∀ (c : Nat) (v10 : Int32) (J : Nat → Nat → Int32) (L : Nat → Nat → Int64), I (c + 1) v10 J L →
    if v3 ≤ v10 then (Q (J, L))
    else if (Int32.ofInt 99) < (J (p 48) 2) then (Q (J, L))
      else (I c (v10 + (Int32.ofInt 1)) (x81 (fun i => p (48 + i)) v4 ((x1 p (fun i => p (48 + i)) sp ln J L).1)) ((x1 p (fun i => p (48 + i)) sp ln J L).2))) : ∀ (c : Nat) (v10 : Int32) (J : Nat → Nat → Int32) (L : Nat → Nat → Int64), I c v10 J L → Q (x125_114 p sp ln v1 v2 v3 v4 v5 v6 v7 v9 c v10 J L) := by
  intro c
  induction c with
  | zero =>
    intro v10 J L hi
    rw [x125_114]
    exact h0 v10 J L hi
  | succ c ih =>
    intro v10 J L hi
    have hi := h1 c v10 J L hi
    rw [x125_114]
    by_cases h : v3 ≤ v10
    · rw [if_pos h] at hi ⊢
      exact hi
    · rw [if_neg h] at hi ⊢
      by_cases h : (Int32.ofInt 99) < (J (p 48) 2)
      · rw [if_pos h] at hi ⊢
        exact hi
      · rw [if_neg h] at hi ⊢
        exact ih _ _ _ hi
theorem x125_114_frJ {p : Nat → Nat} {sp : Nat} {ln : Nat} {v1 : Int32} {v2 : Int32} {v3 : Int32} {v4 : Int32} {v5 : Int32} {v6 : Int32} {v7 : Int32} {v9 : Int32} {b : Nat} : ∀ (c : Nat) (v10 : Int32) (J : Nat → Nat → Int32) (L : Nat → Nat → Int64), b ≠ p 25 → b ≠ p 48 → b ≠ p 58 → b ≠ p 59 → b ≠ p 60 → b ≠ p 61 → b ≠ p 62 → b ≠ p 63 → b ≠ p 64 → (x125_114 p sp ln v1 v2 v3 v4 v5 v6 v7 v9 c v10 J L).1 b = J b := by
  intro c
  induction c with
  | zero =>
    intro v10 J L n0 n1 n2 n3 n4 n5 n6 n7 n8
    rw [x125_114]
    all_goals first | (dsimp only; exact (show J b = J b from rfl)) | exact (show J b = J b from rfl)
  | succ c ih =>
    intro v10 J L n0 n1 n2 n3 n4 n5 n6 n7 n8
    rw [x125_114]
    by_cases h : v3 ≤ v10
    · rw [if_pos h]
      all_goals first | (dsimp only; exact (show J b = J b from rfl)) | exact (show J b = J b from rfl)
    · rw [if_neg h]
      by_cases h : (Int32.ofInt 99) < (J (p 48) 2)
      · rw [if_pos h]
        all_goals first | (dsimp only; exact (show J b = J b from rfl)) | exact (show J b = J b from rfl)
      · rw [if_neg h]
        exact (ih _ _ _ n0 n1 n2 n3 n4 n5 n6 n7 n8).trans ((x81_frJ  n1 n5).trans (x1_frJ  n0 n1 n2 n3 n4 n5 n6 n7 n8))
theorem x125_114_frL {p : Nat → Nat} {sp : Nat} {ln : Nat} {v1 : Int32} {v2 : Int32} {v3 : Int32} {v4 : Int32} {v5 : Int32} {v6 : Int32} {v7 : Int32} {v9 : Int32} {b : Nat} : ∀ (c : Nat) (v10 : Int32) (J : Nat → Nat → Int32) (L : Nat → Nat → Int64), b ≠ p 25 → b ≠ p 26 → b ≠ p 27 → (x125_114 p sp ln v1 v2 v3 v4 v5 v6 v7 v9 c v10 J L).2 b = L b := by
  intro c
  induction c with
  | zero =>
    intro v10 J L n0 n1 n2
    rw [x125_114]
    all_goals first | (dsimp only; exact (show L b = L b from rfl)) | exact (show L b = L b from rfl)
  | succ c ih =>
    intro v10 J L n0 n1 n2
    rw [x125_114]
    by_cases h : v3 ≤ v10
    · rw [if_pos h]
      all_goals first | (dsimp only; exact (show L b = L b from rfl)) | exact (show L b = L b from rfl)
    · rw [if_neg h]
      by_cases h : (Int32.ofInt 99) < (J (p 48) 2)
      · rw [if_pos h]
        all_goals first | (dsimp only; exact (show L b = L b from rfl)) | exact (show L b = L b from rfl)
      · rw [if_neg h]
        exact (ih _ _ _ n0 n1 n2).trans (x1_frL n0 n1 n2)
def x125_85 (p : Nat → Nat) (sp : Nat) (ln : Nat) (v1 : Int32) (v2 : Int32) (v3 : Int32) (v4 : Int32) (v5 : Int32) : Nat → Int32 → Int32 → Int32 → Int32 → (Nat → Nat → Int32) → (Nat → Nat → Int64) → Int32 × (Nat → Nat → Int32) × (Nat → Nat → Int64)
  | 0, v6, v7, v8, v9, J, L => if v5 = 0 then (v6, J, L)
    else (v7, J, L)
  | c + 1, v6, v7, v8, v9, J, L => if v2 ≤ v9 then if v5 = 0 then (v6, J, L)
      else (v7, J, L)
    else (x125_85 p sp ln v1 v2 v3 v4 v5 c (v6 + ((((x125_114 p sp ln v1 v2 v3 v4 v5 v6 v7 v9 v3.toNatClampNeg (Int32.ofInt 0) (nt_u (x80 (fun i => p (48 + i)) (fun i => p (31 + i)) J) (p 48) 6 v8) L).1) (p 48) 5) - (J (p 31) 5))) (v7 + (x236 (x79 (fun i => p (48 + i)) ((x125_114 p sp ln v1 v2 v3 v4 v5 v6 v7 v9 v3.toNatClampNeg (Int32.ofInt 0) (nt_u (x80 (fun i => p (48 + i)) (fun i => p (31 + i)) J) (p 48) 6 v8) L).1)))) (((x125_114 p sp ln v1 v2 v3 v4 v5 v6 v7 v9 v3.toNatClampNeg (Int32.ofInt 0) (nt_u (x80 (fun i => p (48 + i)) (fun i => p (31 + i)) J) (p 48) 6 v8) L).1) (p 48) 6) (v9 + (Int32.ofInt 1)) ((x125_114 p sp ln v1 v2 v3 v4 v5 v6 v7 v9 v3.toNatClampNeg (Int32.ofInt 0) (nt_u (x80 (fun i => p (48 + i)) (fun i => p (31 + i)) J) (p 48) 6 v8) L).1) ((x125_114 p sp ln v1 v2 v3 v4 v5 v6 v7 v9 v3.toNatClampNeg (Int32.ofInt 0) (nt_u (x80 (fun i => p (48 + i)) (fun i => p (31 + i)) J) (p 48) 6 v8) L).2))
theorem xt125_85 {X : nt_X} {d : Nat} {M : nt_M} {o : Option Value × nt_M} {p : Nat → Nat} {sp : Nat} {ln : Nat} {ru : Nat} {v1 : Int32} {v2 : Int32} {v3 : Int32} {v4 : Int32} {v5 : Int32} (hp : xs_P M p) (hn : xs_Q M (fun i => p (31 + i))) (hm : xs_Q M (fun i => p (48 + i))) (hk : xs_N M (fun i => p (48 + i))) (hs : xs_S M p ru sp ln) (h0 : ¬ v1 < 0) (hr : nt_R M (p 23) v1.toNatClampNeg = some ru) : ∀ (c : Nat) (v6 : Int32) (v7 : Int32) (v8 : Int32) (v9 : Int32) (v10 : Int32) (J : Nat → Nat → Int32) (L : Nat → Nat → Int64), (¬ J (p 16) 4 ≤ v1 ∧ v2.toInt - v9.toInt ≤ c) → nt_rn X d 125 (85, [(0, .ref (p 16)), (1, .int v1), (2, .int v2), (3, .int v3), (4, .int v4), (5, .int v5), (6, .int v6), (7, .int v7), (8, .int v8), (9, .int v9), (10, .int v10)], [], me_w (lw M L) J) o → o = (some (.int ((x125_85 p sp ln v1 v2 v3 v4 v5 c v6 v7 v8 v9 J L).1)), me_w (lw M ((x125_85 p sp ln v1 v2 v3 v4 v5 c v6 v7 v8 v9 J L).2.2)) ((x125_85 p sp ln v1 v2 v3 v4 v5 c v6 v7 v8 v9 J L).2.1)) := by
  intro c
  induction c with
  | zero =>
    intro v6 v7 v8 v9 v10 J L hc k
    have k := ly_revb 3 (c' := (if v2 ≤ v9 then 213 else 91, [(0, .ref (p 16)), (1, .int v1), (2, .int v2), (3, .int v3), (4, .int v4), (5, .int v5), (6, .int v6), (7, .int v7), (8, .int v8), (9, .int v9), (10, .int v10)], [], me_w (lw M L) J)) rfl k
    have h88 : v2 ≤ v9 := lx_end hc.2
    rw [if_pos h88] at k
    have k := ly_revb 2 (c' := (if v5 = 0 then 218 else 223, [(0, .ref (p 16)), (1, .int v1), (2, .int v2), (3, .int v3), (4, .int v4), (5, .int v5), (6, .int v6), (7, .int v7), (8, .int v8), (9, .int v9), (10, .int v10)], [], me_w (lw M L) J)) rfl k
    by_cases h215 : v5 = 0
    · rw [if_pos h215] at k
      have k := ly_revb 2 (c' := (225, [(0, .ref (p 16)), (1, .int v1), (2, .int v2), (3, .int v3), (4, .int v4), (5, .int v5), (6, .int v6), (7, .int v7), (8, .int v8), (9, .int v9), (10, .int v10)], [.int v6], me_w (lw M L) J)) rfl k
      have k := lz_ri rfl (by decide) k
      rw [k, x125_85, if_pos h215]
    · rw [if_neg h215] at k
      have k := ly_revb 1 (c' := (225, [(0, .ref (p 16)), (1, .int v1), (2, .int v2), (3, .int v3), (4, .int v4), (5, .int v5), (6, .int v6), (7, .int v7), (8, .int v8), (9, .int v9), (10, .int v10)], [.int v7], me_w (lw M L) J)) rfl k
      have k := lz_ri rfl (by decide) k
      rw [k, x125_85, if_neg h215]
  | succ c ih =>
    intro v6 v7 v8 v9 v10 J L hc k
    have k := ly_revb 3 (c' := (if v2 ≤ v9 then 213 else 91, [(0, .ref (p 16)), (1, .int v1), (2, .int v2), (3, .int v3), (4, .int v4), (5, .int v5), (6, .int v6), (7, .int v7), (8, .int v8), (9, .int v9), (10, .int v10)], [], me_w (lw M L) J)) rfl k
    by_cases h88 : v2 ≤ v9
    · rw [if_pos h88] at k
      have k := ly_revb 2 (c' := (if v5 = 0 then 218 else 223, [(0, .ref (p 16)), (1, .int v1), (2, .int v2), (3, .int v3), (4, .int v4), (5, .int v5), (6, .int v6), (7, .int v7), (8, .int v8), (9, .int v9), (10, .int v10)], [], me_w (lw M L) J)) rfl k
      by_cases h215 : v5 = 0
      · rw [if_pos h215] at k
        have k := ly_revb 2 (c' := (225, [(0, .ref (p 16)), (1, .int v1), (2, .int v2), (3, .int v3), (4, .int v4), (5, .int v5), (6, .int v6), (7, .int v7), (8, .int v8), (9, .int v9), (10, .int v10)], [.int v6], me_w (lw M L) J)) rfl k
        have k := lz_ri rfl (by decide) k
        rw [k, x125_85, if_pos h88, if_pos h215]
      · rw [if_neg h215] at k
        have k := ly_revb 1 (c' := (225, [(0, .ref (p 16)), (1, .int v1), (2, .int v2), (3, .int v3), (4, .int v4), (5, .int v5), (6, .int v6), (7, .int v7), (8, .int v8), (9, .int v9), (10, .int v10)], [.int v7], me_w (lw M L) J)) rfl k
        have k := lz_ri rfl (by decide) k
        rw [k, x125_85, if_pos h88, if_neg h215]
    · rw [if_neg h88] at k
      have k := ly_revb 1 (c' := (92, [(0, .ref (p 16)), (1, .int v1), (2, .int v2), (3, .int v3), (4, .int v4), (5, .int v5), (6, .int v6), (7, .int v7), (8, .int v8), (9, .int v9), (10, .int v10)], [.ref (p 16)], me_w (lw M L) J)) rfl k
      have k := lz_get (a := (p 16)) (g := 1008) (M := me_w (lw M L) J) (v := .ref (p 48)) rfl (nt_gfR rfl (hp.1 (16, 8, 48) (by decide))) k
      have k := ly_revb 1 (c' := (96, [(0, .ref (p 16)), (1, .int v1), (2, .int v2), (3, .int v3), (4, .int v4), (5, .int v5), (6, .int v6), (7, .int v7), (8, .int v8), (9, .int v9), (10, .int v10)], [.ref (p 16), .ref (p 48)], me_w (lw M L) J)) rfl k
      have k := lz_get (a := (p 16)) (g := 1007) (M := me_w (lw M L) J) (v := .ref (p 31)) rfl (nt_gfR rfl (hp.1 (16, 7, 31) (by decide))) k
      obtain ⟨d1, o1, ed, kc, k⟩ := lz_c (g := 80) (q := 1) (vs := [.ref (p 48), .ref (p 31)]) (rest := []) rfl rfl (by decide) (Or.inr (Or.inl ⟨_, rfl, rfl⟩)) rfl k
      have e1 := xt80 (xs_lq hm) (xs_lq hn) (xs_d48 hp) (xs_ln hk) kc
      subst e1
      have k : nt_rn X _ 125 (102, [(0, .ref (p 16)), (1, .int v1), (2, .int v2), (3, .int v3), (4, .int v4), (5, .int v5), (6, .int v6), (7, .int v7), (8, .int v8), (9, .int v9), (10, .int v10)], [], me_w (lw M L) (x80 (fun i => p (48 + i)) (fun i => p (31 + i)) J)) _ := k
      have k := ly_revb 1 (c' := (103, [(0, .ref (p 16)), (1, .int v1), (2, .int v2), (3, .int v3), (4, .int v4), (5, .int v5), (6, .int v6), (7, .int v7), (8, .int v8), (9, .int v9), (10, .int v10)], [.ref (p 16)], me_w (lw M L) (x80 (fun i => p (48 + i)) (fun i => p (31 + i)) J))) rfl k
      have k := lz_get (a := (p 16)) (g := 1008) (M := me_w (lw M L) (x80 (fun i => p (48 + i)) (fun i => p (31 + i)) J)) (v := .ref (p 48)) rfl (nt_gfR rfl (hp.1 (16, 8, 48) (by decide))) k
      have k := ly_revb 1 (c' := (108, [(0, .ref (p 16)), (1, .int v1), (2, .int v2), (3, .int v3), (4, .int v4), (5, .int v5), (6, .int v6), (7, .int v7), (8, .int v8), (9, .int v9), (10, .int v10)], [.int v8, .ref (p 48)], me_w (lw M L) (x80 (fun i => p (48 + i)) (fun i => p (31 + i)) J))) rfl k
      have k := me_put rfl (by decide) k
      have k : nt_rn X _ 125 (111, [(0, .ref (p 16)), (1, .int v1), (2, .int v2), (3, .int v3), (4, .int v4), (5, .int v5), (6, .int v6), (7, .int v7), (8, .int v8), (9, .int v9), (10, .int v10)], [], me_w (lw M L) (nt_u (x80 (fun i => p (48 + i)) (fun i => p (31 + i)) J) (p 48) 6 v8)) _ := k
      have k := ly_revb 2 (c' := (114, [(10, .int (Int32.ofInt 0)), (0, .ref (p 16)), (1, .int v1), (2, .int v2), (3, .int v3), (4, .int v4), (5, .int v5), (6, .int v6), (7, .int v7), (8, .int v8), (9, .int v9)], [], me_w (lw M L) (nt_u (x80 (fun i => p (48 + i)) (fun i => p (31 + i)) J) (p 48) 6 v8))) rfl k
      have k := nt_rn_w (a := [(10, .int (Int32.ofInt 0)), (0, .ref (p 16)), (1, .int v1), (2, .int v2), (3, .int v3), (4, .int v4), (5, .int v5), (6, .int v6), (7, .int v7), (8, .int v8), (9, .int v9)]) (b := [(0, .ref (p 16)), (1, .int v1), (2, .int v2), (3, .int v3), (4, .int v4), (5, .int v5), (6, .int v6), (7, .int v7), (8, .int v8), (9, .int v9), (10, .int (Int32.ofInt 0))]) ⟨rfl, rfl, rfl, rfl, rfl, rfl, rfl, rfl, rfl, rfl, rfl, trivial⟩ rfl k
      have k := xt125_114 hp hn hm hk hs h0 hr  v3.toNatClampNeg (Int32.ofInt 0) (nt_u (x80 (fun i => p (48 + i)) (fun i => p (31 + i)) J) (p 48) 6 v8) L (⟨by rw [show (nt_u (x80 (fun i => p (48 + i)) (fun i => p (31 + i)) J) (p 48) 6 v8) (p 16) 4 = J (p 16) 4 from (mu_j (hp.2.1 16 48 (by omega) (by omega) (by decide))).trans (congrFun (x80_frJ  (hp.2.1 16 48 (by omega) (by omega) (by decide)) (hp.2.1 16 49 (by omega) (by omega) (by decide)) (hp.2.1 16 50 (by omega) (by omega) (by decide)) (hp.2.1 16 51 (by omega) (by omega) (by decide)) (hp.2.1 16 52 (by omega) (by omega) (by decide)) (hp.2.1 16 53 (by omega) (by omega) (by decide)) (hp.2.1 16 54 (by omega) (by omega) (by decide)) (hp.2.1 16 55 (by omega) (by omega) (by decide)) (hp.2.1 16 56 (by omega) (by omega) (by decide)) (hp.2.1 16 57 (by omega) (by omega) (by decide)) (hp.2.1 16 58 (by omega) (by omega) (by decide)) (hp.2.1 16 59 (by omega) (by omega) (by decide)) (hp.2.1 16 60 (by omega) (by omega) (by decide)) (hp.2.1 16 61 (by omega) (by omega) (by decide)) (hp.2.1 16 62 (by omega) (by omega) (by decide)) (hp.2.1 16 63 (by omega) (by omega) (by decide)) (hp.2.1 16 64 (by omega) (by omega) (by decide))) 4)]; exact hc.1, lx_beg (by decide)⟩) k
      obtain ⟨w10, k⟩ := k
      have k : nt_rn X _ 125 (163, [(0, .ref (p 16)), (1, .int v1), (2, .int v2), (3, .int v3), (4, .int v4), (5, .int v5), (6, .int v6), (7, .int v7), (8, .int v8), (9, .int v9), (10, .int w10)], [], me_w (lw M ((x125_114 p sp ln v1 v2 v3 v4 v5 v6 v7 v9 v3.toNatClampNeg (Int32.ofInt 0) (nt_u (x80 (fun i => p (48 + i)) (fun i => p (31 + i)) J) (p 48) 6 v8) L).2)) ((x125_114 p sp ln v1 v2 v3 v4 v5 v6 v7 v9 v3.toNatClampNeg (Int32.ofInt 0) (nt_u (x80 (fun i => p (48 + i)) (fun i => p (31 + i)) J) (p 48) 6 v8) L).1)) _ := k
      have k := ly_revb 1 (c' := (164, [(0, .ref (p 16)), (1, .int v1), (2, .int v2), (3, .int v3), (4, .int v4), (5, .int v5), (6, .int v6), (7, .int v7), (8, .int v8), (9, .int v9), (10, .int w10)], [.ref (p 16)], me_w (lw M ((x125_114 p sp ln v1 v2 v3 v4 v5 v6 v7 v9 v3.toNatClampNeg (Int32.ofInt 0) (nt_u (x80 (fun i => p (48 + i)) (fun i => p (31 + i)) J) (p 48) 6 v8) L).2)) ((x125_114 p sp ln v1 v2 v3 v4 v5 v6 v7 v9 v3.toNatClampNeg (Int32.ofInt 0) (nt_u (x80 (fun i => p (48 + i)) (fun i => p (31 + i)) J) (p 48) 6 v8) L).1))) rfl k
      have k := lz_get (a := (p 16)) (g := 1008) (M := me_w (lw M ((x125_114 p sp ln v1 v2 v3 v4 v5 v6 v7 v9 v3.toNatClampNeg (Int32.ofInt 0) (nt_u (x80 (fun i => p (48 + i)) (fun i => p (31 + i)) J) (p 48) 6 v8) L).2)) ((x125_114 p sp ln v1 v2 v3 v4 v5 v6 v7 v9 v3.toNatClampNeg (Int32.ofInt 0) (nt_u (x80 (fun i => p (48 + i)) (fun i => p (31 + i)) J) (p 48) 6 v8) L).1)) (v := .ref (p 48)) rfl (nt_gfR rfl (hp.1 (16, 8, 48) (by decide))) k
      have k := lz_get (a := (p 48)) (g := 606) (M := me_w (lw M ((x125_114 p sp ln v1 v2 v3 v4 v5 v6 v7 v9 v3.toNatClampNeg (Int32.ofInt 0) (nt_u (x80 (fun i => p (48 + i)) (fun i => p (31 + i)) J) (p 48) 6 v8) L).2)) ((x125_114 p sp ln v1 v2 v3 v4 v5 v6 v7 v9 v3.toNatClampNeg (Int32.ofInt 0) (nt_u (x80 (fun i => p (48 + i)) (fun i => p (31 + i)) J) (p 48) 6 v8) L).1)) (v := .int (((x125_114 p sp ln v1 v2 v3 v4 v5 v6 v7 v9 v3.toNatClampNeg (Int32.ofInt 0) (nt_u (x80 (fun i => p (48 + i)) (fun i => p (31 + i)) J) (p 48) 6 v8) L).1) (p 48) 6)) rfl (congrArg Value.int (rfl)) k
      have k := ly_revb 3 (c' := (175, [(8, .int (((x125_114 p sp ln v1 v2 v3 v4 v5 v6 v7 v9 v3.toNatClampNeg (Int32.ofInt 0) (nt_u (x80 (fun i => p (48 + i)) (fun i => p (31 + i)) J) (p 48) 6 v8) L).1) (p 48) 6)), (0, .ref (p 16)), (1, .int v1), (2, .int v2), (3, .int v3), (4, .int v4), (5, .int v5), (6, .int v6), (7, .int v7), (9, .int v9), (10, .int w10)], [.ref (p 16), .int v6], me_w (lw M ((x125_114 p sp ln v1 v2 v3 v4 v5 v6 v7 v9 v3.toNatClampNeg (Int32.ofInt 0) (nt_u (x80 (fun i => p (48 + i)) (fun i => p (31 + i)) J) (p 48) 6 v8) L).2)) ((x125_114 p sp ln v1 v2 v3 v4 v5 v6 v7 v9 v3.toNatClampNeg (Int32.ofInt 0) (nt_u (x80 (fun i => p (48 + i)) (fun i => p (31 + i)) J) (p 48) 6 v8) L).1))) rfl k
      have k := lz_get (a := (p 16)) (g := 1008) (M := me_w (lw M ((x125_114 p sp ln v1 v2 v3 v4 v5 v6 v7 v9 v3.toNatClampNeg (Int32.ofInt 0) (nt_u (x80 (fun i => p (48 + i)) (fun i => p (31 + i)) J) (p 48) 6 v8) L).2)) ((x125_114 p sp ln v1 v2 v3 v4 v5 v6 v7 v9 v3.toNatClampNeg (Int32.ofInt 0) (nt_u (x80 (fun i => p (48 + i)) (fun i => p (31 + i)) J) (p 48) 6 v8) L).1)) (v := .ref (p 48)) rfl (nt_gfR rfl (hp.1 (16, 8, 48) (by decide))) k
      have k := lz_get (a := (p 48)) (g := 605) (M := me_w (lw M ((x125_114 p sp ln v1 v2 v3 v4 v5 v6 v7 v9 v3.toNatClampNeg (Int32.ofInt 0) (nt_u (x80 (fun i => p (48 + i)) (fun i => p (31 + i)) J) (p 48) 6 v8) L).2)) ((x125_114 p sp ln v1 v2 v3 v4 v5 v6 v7 v9 v3.toNatClampNeg (Int32.ofInt 0) (nt_u (x80 (fun i => p (48 + i)) (fun i => p (31 + i)) J) (p 48) 6 v8) L).1)) (v := .int (((x125_114 p sp ln v1 v2 v3 v4 v5 v6 v7 v9 v3.toNatClampNeg (Int32.ofInt 0) (nt_u (x80 (fun i => p (48 + i)) (fun i => p (31 + i)) J) (p 48) 6 v8) L).1) (p 48) 5)) rfl (congrArg Value.int (rfl)) k
      have k := ly_revb 1 (c' := (182, [(8, .int (((x125_114 p sp ln v1 v2 v3 v4 v5 v6 v7 v9 v3.toNatClampNeg (Int32.ofInt 0) (nt_u (x80 (fun i => p (48 + i)) (fun i => p (31 + i)) J) (p 48) 6 v8) L).1) (p 48) 6)), (0, .ref (p 16)), (1, .int v1), (2, .int v2), (3, .int v3), (4, .int v4), (5, .int v5), (6, .int v6), (7, .int v7), (9, .int v9), (10, .int w10)], [.ref (p 16), .int (((x125_114 p sp ln v1 v2 v3 v4 v5 v6 v7 v9 v3.toNatClampNeg (Int32.ofInt 0) (nt_u (x80 (fun i => p (48 + i)) (fun i => p (31 + i)) J) (p 48) 6 v8) L).1) (p 48) 5), .int v6], me_w (lw M ((x125_114 p sp ln v1 v2 v3 v4 v5 v6 v7 v9 v3.toNatClampNeg (Int32.ofInt 0) (nt_u (x80 (fun i => p (48 + i)) (fun i => p (31 + i)) J) (p 48) 6 v8) L).2)) ((x125_114 p sp ln v1 v2 v3 v4 v5 v6 v7 v9 v3.toNatClampNeg (Int32.ofInt 0) (nt_u (x80 (fun i => p (48 + i)) (fun i => p (31 + i)) J) (p 48) 6 v8) L).1))) rfl k
      have k := lz_get (a := (p 16)) (g := 1007) (M := me_w (lw M ((x125_114 p sp ln v1 v2 v3 v4 v5 v6 v7 v9 v3.toNatClampNeg (Int32.ofInt 0) (nt_u (x80 (fun i => p (48 + i)) (fun i => p (31 + i)) J) (p 48) 6 v8) L).2)) ((x125_114 p sp ln v1 v2 v3 v4 v5 v6 v7 v9 v3.toNatClampNeg (Int32.ofInt 0) (nt_u (x80 (fun i => p (48 + i)) (fun i => p (31 + i)) J) (p 48) 6 v8) L).1)) (v := .ref (p 31)) rfl (nt_gfR rfl (hp.1 (16, 7, 31) (by decide))) k
      have k := lz_get (a := (p 31)) (g := 605) (M := me_w (lw M ((x125_114 p sp ln v1 v2 v3 v4 v5 v6 v7 v9 v3.toNatClampNeg (Int32.ofInt 0) (nt_u (x80 (fun i => p (48 + i)) (fun i => p (31 + i)) J) (p 48) 6 v8) L).2)) ((x125_114 p sp ln v1 v2 v3 v4 v5 v6 v7 v9 v3.toNatClampNeg (Int32.ofInt 0) (nt_u (x80 (fun i => p (48 + i)) (fun i => p (31 + i)) J) (p 48) 6 v8) L).1)) (v := .int (J (p 31) 5)) rfl (congrArg Value.int ((congrFun (x125_114_frJ _ _ _ _ (hp.2.1 31 25 (by omega) (by omega) (by decide)) (hp.2.1 31 48 (by omega) (by omega) (by decide)) (hp.2.1 31 58 (by omega) (by omega) (by decide)) (hp.2.1 31 59 (by omega) (by omega) (by decide)) (hp.2.1 31 60 (by omega) (by omega) (by decide)) (hp.2.1 31 61 (by omega) (by omega) (by decide)) (hp.2.1 31 62 (by omega) (by omega) (by decide)) (hp.2.1 31 63 (by omega) (by omega) (by decide)) (hp.2.1 31 64 (by omega) (by omega) (by decide))) 5).trans ((mu_j (hp.2.1 31 48 (by omega) (by omega) (by decide))).trans (congrFun (x80_frJ  (hp.2.1 31 48 (by omega) (by omega) (by decide)) (hp.2.1 31 49 (by omega) (by omega) (by decide)) (hp.2.1 31 50 (by omega) (by omega) (by decide)) (hp.2.1 31 51 (by omega) (by omega) (by decide)) (hp.2.1 31 52 (by omega) (by omega) (by decide)) (hp.2.1 31 53 (by omega) (by omega) (by decide)) (hp.2.1 31 54 (by omega) (by omega) (by decide)) (hp.2.1 31 55 (by omega) (by omega) (by decide)) (hp.2.1 31 56 (by omega) (by omega) (by decide)) (hp.2.1 31 57 (by omega) (by omega) (by decide)) (hp.2.1 31 58 (by omega) (by omega) (by decide)) (hp.2.1 31 59 (by omega) (by omega) (by decide)) (hp.2.1 31 60 (by omega) (by omega) (by decide)) (hp.2.1 31 61 (by omega) (by omega) (by decide)) (hp.2.1 31 62 (by omega) (by omega) (by decide)) (hp.2.1 31 63 (by omega) (by omega) (by decide)) (hp.2.1 31 64 (by omega) (by omega) (by decide))) 5)))) k
      have k := ly_revb 5 (c' := (195, [(6, .int (v6 + ((((x125_114 p sp ln v1 v2 v3 v4 v5 v6 v7 v9 v3.toNatClampNeg (Int32.ofInt 0) (nt_u (x80 (fun i => p (48 + i)) (fun i => p (31 + i)) J) (p 48) 6 v8) L).1) (p 48) 5) - (J (p 31) 5)))), (8, .int (((x125_114 p sp ln v1 v2 v3 v4 v5 v6 v7 v9 v3.toNatClampNeg (Int32.ofInt 0) (nt_u (x80 (fun i => p (48 + i)) (fun i => p (31 + i)) J) (p 48) 6 v8) L).1) (p 48) 6)), (0, .ref (p 16)), (1, .int v1), (2, .int v2), (3, .int v3), (4, .int v4), (5, .int v5), (7, .int v7), (9, .int v9), (10, .int w10)], [.ref (p 16), .int v7], me_w (lw M ((x125_114 p sp ln v1 v2 v3 v4 v5 v6 v7 v9 v3.toNatClampNeg (Int32.ofInt 0) (nt_u (x80 (fun i => p (48 + i)) (fun i => p (31 + i)) J) (p 48) 6 v8) L).2)) ((x125_114 p sp ln v1 v2 v3 v4 v5 v6 v7 v9 v3.toNatClampNeg (Int32.ofInt 0) (nt_u (x80 (fun i => p (48 + i)) (fun i => p (31 + i)) J) (p 48) 6 v8) L).1))) rfl k
      have k := lz_get (a := (p 16)) (g := 1008) (M := me_w (lw M ((x125_114 p sp ln v1 v2 v3 v4 v5 v6 v7 v9 v3.toNatClampNeg (Int32.ofInt 0) (nt_u (x80 (fun i => p (48 + i)) (fun i => p (31 + i)) J) (p 48) 6 v8) L).2)) ((x125_114 p sp ln v1 v2 v3 v4 v5 v6 v7 v9 v3.toNatClampNeg (Int32.ofInt 0) (nt_u (x80 (fun i => p (48 + i)) (fun i => p (31 + i)) J) (p 48) 6 v8) L).1)) (v := .ref (p 48)) rfl (nt_gfR rfl (hp.1 (16, 8, 48) (by decide))) k
      obtain ⟨d1, o1, ed, kc, k⟩ := lz_c (g := 79) (q := 1) (vs := [.ref (p 48)]) (rest := [.int v7]) rfl rfl (by decide) (Or.inr (Or.inl ⟨_, rfl, rfl⟩)) rfl k
      have e1 := xt79 (xs_lq hm) kc
      subst e1
      have k : nt_rn X _ 125 (201, [(6, .int (v6 + ((((x125_114 p sp ln v1 v2 v3 v4 v5 v6 v7 v9 v3.toNatClampNeg (Int32.ofInt 0) (nt_u (x80 (fun i => p (48 + i)) (fun i => p (31 + i)) J) (p 48) 6 v8) L).1) (p 48) 5) - (J (p 31) 5)))), (8, .int (((x125_114 p sp ln v1 v2 v3 v4 v5 v6 v7 v9 v3.toNatClampNeg (Int32.ofInt 0) (nt_u (x80 (fun i => p (48 + i)) (fun i => p (31 + i)) J) (p 48) 6 v8) L).1) (p 48) 6)), (0, .ref (p 16)), (1, .int v1), (2, .int v2), (3, .int v3), (4, .int v4), (5, .int v5), (7, .int v7), (9, .int v9), (10, .int w10)], [.int (x79 (fun i => p (48 + i)) ((x125_114 p sp ln v1 v2 v3 v4 v5 v6 v7 v9 v3.toNatClampNeg (Int32.ofInt 0) (nt_u (x80 (fun i => p (48 + i)) (fun i => p (31 + i)) J) (p 48) 6 v8) L).1)), .int v7], me_w (lw M ((x125_114 p sp ln v1 v2 v3 v4 v5 v6 v7 v9 v3.toNatClampNeg (Int32.ofInt 0) (nt_u (x80 (fun i => p (48 + i)) (fun i => p (31 + i)) J) (p 48) 6 v8) L).2)) ((x125_114 p sp ln v1 v2 v3 v4 v5 v6 v7 v9 v3.toNatClampNeg (Int32.ofInt 0) (nt_u (x80 (fun i => p (48 + i)) (fun i => p (31 + i)) J) (p 48) 6 v8) L).1)) _ := k
      obtain ⟨d1, o1, ed, kc, k⟩ := lz_c (g := 236) (q := 0) (vs := [.int (x79 (fun i => p (48 + i)) ((x125_114 p sp ln v1 v2 v3 v4 v5 v6 v7 v9 v3.toNatClampNeg (Int32.ofInt 0) (nt_u (x80 (fun i => p (48 + i)) (fun i => p (31 + i)) J) (p 48) 6 v8) L).1))]) (rest := [.int v7]) rfl rfl (by decide) (Or.inl ⟨_, rfl, rfl⟩) rfl k
      have e1 := xt236  kc
      subst e1
      have k : nt_rn X _ 125 (204, [(6, .int (v6 + ((((x125_114 p sp ln v1 v2 v3 v4 v5 v6 v7 v9 v3.toNatClampNeg (Int32.ofInt 0) (nt_u (x80 (fun i => p (48 + i)) (fun i => p (31 + i)) J) (p 48) 6 v8) L).1) (p 48) 5) - (J (p 31) 5)))), (8, .int (((x125_114 p sp ln v1 v2 v3 v4 v5 v6 v7 v9 v3.toNatClampNeg (Int32.ofInt 0) (nt_u (x80 (fun i => p (48 + i)) (fun i => p (31 + i)) J) (p 48) 6 v8) L).1) (p 48) 6)), (0, .ref (p 16)), (1, .int v1), (2, .int v2), (3, .int v3), (4, .int v4), (5, .int v5), (7, .int v7), (9, .int v9), (10, .int w10)], [.int (x236 (x79 (fun i => p (48 + i)) ((x125_114 p sp ln v1 v2 v3 v4 v5 v6 v7 v9 v3.toNatClampNeg (Int32.ofInt 0) (nt_u (x80 (fun i => p (48 + i)) (fun i => p (31 + i)) J) (p 48) 6 v8) L).1))), .int v7], me_w (lw M ((x125_114 p sp ln v1 v2 v3 v4 v5 v6 v7 v9 v3.toNatClampNeg (Int32.ofInt 0) (nt_u (x80 (fun i => p (48 + i)) (fun i => p (31 + i)) J) (p 48) 6 v8) L).2)) ((x125_114 p sp ln v1 v2 v3 v4 v5 v6 v7 v9 v3.toNatClampNeg (Int32.ofInt 0) (nt_u (x80 (fun i => p (48 + i)) (fun i => p (31 + i)) J) (p 48) 6 v8) L).1)) _ := k
      have k := ly_revb 4 (c' := (85, [(9, .int (v9 + (Int32.ofInt 1))), (7, .int (v7 + (x236 (x79 (fun i => p (48 + i)) ((x125_114 p sp ln v1 v2 v3 v4 v5 v6 v7 v9 v3.toNatClampNeg (Int32.ofInt 0) (nt_u (x80 (fun i => p (48 + i)) (fun i => p (31 + i)) J) (p 48) 6 v8) L).1))))), (6, .int (v6 + ((((x125_114 p sp ln v1 v2 v3 v4 v5 v6 v7 v9 v3.toNatClampNeg (Int32.ofInt 0) (nt_u (x80 (fun i => p (48 + i)) (fun i => p (31 + i)) J) (p 48) 6 v8) L).1) (p 48) 5) - (J (p 31) 5)))), (8, .int (((x125_114 p sp ln v1 v2 v3 v4 v5 v6 v7 v9 v3.toNatClampNeg (Int32.ofInt 0) (nt_u (x80 (fun i => p (48 + i)) (fun i => p (31 + i)) J) (p 48) 6 v8) L).1) (p 48) 6)), (0, .ref (p 16)), (1, .int v1), (2, .int v2), (3, .int v3), (4, .int v4), (5, .int v5), (10, .int w10)], [], me_w (lw M ((x125_114 p sp ln v1 v2 v3 v4 v5 v6 v7 v9 v3.toNatClampNeg (Int32.ofInt 0) (nt_u (x80 (fun i => p (48 + i)) (fun i => p (31 + i)) J) (p 48) 6 v8) L).2)) ((x125_114 p sp ln v1 v2 v3 v4 v5 v6 v7 v9 v3.toNatClampNeg (Int32.ofInt 0) (nt_u (x80 (fun i => p (48 + i)) (fun i => p (31 + i)) J) (p 48) 6 v8) L).1))) rfl k
      have k := nt_rn_w (a := [(9, .int (v9 + (Int32.ofInt 1))), (7, .int (v7 + (x236 (x79 (fun i => p (48 + i)) ((x125_114 p sp ln v1 v2 v3 v4 v5 v6 v7 v9 v3.toNatClampNeg (Int32.ofInt 0) (nt_u (x80 (fun i => p (48 + i)) (fun i => p (31 + i)) J) (p 48) 6 v8) L).1))))), (6, .int (v6 + ((((x125_114 p sp ln v1 v2 v3 v4 v5 v6 v7 v9 v3.toNatClampNeg (Int32.ofInt 0) (nt_u (x80 (fun i => p (48 + i)) (fun i => p (31 + i)) J) (p 48) 6 v8) L).1) (p 48) 5) - (J (p 31) 5)))), (8, .int (((x125_114 p sp ln v1 v2 v3 v4 v5 v6 v7 v9 v3.toNatClampNeg (Int32.ofInt 0) (nt_u (x80 (fun i => p (48 + i)) (fun i => p (31 + i)) J) (p 48) 6 v8) L).1) (p 48) 6)), (0, .ref (p 16)), (1, .int v1), (2, .int v2), (3, .int v3), (4, .int v4), (5, .int v5), (10, .int w10)]) (b := [(0, .ref (p 16)), (1, .int v1), (2, .int v2), (3, .int v3), (4, .int v4), (5, .int v5), (6, .int (v6 + ((((x125_114 p sp ln v1 v2 v3 v4 v5 v6 v7 v9 v3.toNatClampNeg (Int32.ofInt 0) (nt_u (x80 (fun i => p (48 + i)) (fun i => p (31 + i)) J) (p 48) 6 v8) L).1) (p 48) 5) - (J (p 31) 5)))), (7, .int (v7 + (x236 (x79 (fun i => p (48 + i)) ((x125_114 p sp ln v1 v2 v3 v4 v5 v6 v7 v9 v3.toNatClampNeg (Int32.ofInt 0) (nt_u (x80 (fun i => p (48 + i)) (fun i => p (31 + i)) J) (p 48) 6 v8) L).1))))), (8, .int (((x125_114 p sp ln v1 v2 v3 v4 v5 v6 v7 v9 v3.toNatClampNeg (Int32.ofInt 0) (nt_u (x80 (fun i => p (48 + i)) (fun i => p (31 + i)) J) (p 48) 6 v8) L).1) (p 48) 6)), (9, .int (v9 + (Int32.ofInt 1))), (10, .int w10)]) ⟨rfl, rfl, rfl, rfl, rfl, rfl, rfl, rfl, rfl, rfl, rfl, trivial⟩ rfl k
      have k := ih (v6 + ((((x125_114 p sp ln v1 v2 v3 v4 v5 v6 v7 v9 v3.toNatClampNeg (Int32.ofInt 0) (nt_u (x80 (fun i => p (48 + i)) (fun i => p (31 + i)) J) (p 48) 6 v8) L).1) (p 48) 5) - (J (p 31) 5))) (v7 + (x236 (x79 (fun i => p (48 + i)) ((x125_114 p sp ln v1 v2 v3 v4 v5 v6 v7 v9 v3.toNatClampNeg (Int32.ofInt 0) (nt_u (x80 (fun i => p (48 + i)) (fun i => p (31 + i)) J) (p 48) 6 v8) L).1)))) (((x125_114 p sp ln v1 v2 v3 v4 v5 v6 v7 v9 v3.toNatClampNeg (Int32.ofInt 0) (nt_u (x80 (fun i => p (48 + i)) (fun i => p (31 + i)) J) (p 48) 6 v8) L).1) (p 48) 6) (v9 + (Int32.ofInt 1)) w10 ((x125_114 p sp ln v1 v2 v3 v4 v5 v6 v7 v9 v3.toNatClampNeg (Int32.ofInt 0) (nt_u (x80 (fun i => p (48 + i)) (fun i => p (31 + i)) J) (p 48) 6 v8) L).1) ((x125_114 p sp ln v1 v2 v3 v4 v5 v6 v7 v9 v3.toNatClampNeg (Int32.ofInt 0) (nt_u (x80 (fun i => p (48 + i)) (fun i => p (31 + i)) J) (p 48) 6 v8) L).2) (⟨by rw [show ((x125_114 p sp ln v1 v2 v3 v4 v5 v6 v7 v9 v3.toNatClampNeg (Int32.ofInt 0) (nt_u (x80 (fun i => p (48 + i)) (fun i => p (31 + i)) J) (p 48) 6 v8) L).1) (p 16) 4 = J (p 16) 4 from (congrFun (x125_114_frJ _ _ _ _ (hp.2.1 16 25 (by omega) (by omega) (by decide)) (hp.2.1 16 48 (by omega) (by omega) (by decide)) (hp.2.1 16 58 (by omega) (by omega) (by decide)) (hp.2.1 16 59 (by omega) (by omega) (by decide)) (hp.2.1 16 60 (by omega) (by omega) (by decide)) (hp.2.1 16 61 (by omega) (by omega) (by decide)) (hp.2.1 16 62 (by omega) (by omega) (by decide)) (hp.2.1 16 63 (by omega) (by omega) (by decide)) (hp.2.1 16 64 (by omega) (by omega) (by decide))) 4).trans ((mu_j (hp.2.1 16 48 (by omega) (by omega) (by decide))).trans (congrFun (x80_frJ  (hp.2.1 16 48 (by omega) (by omega) (by decide)) (hp.2.1 16 49 (by omega) (by omega) (by decide)) (hp.2.1 16 50 (by omega) (by omega) (by decide)) (hp.2.1 16 51 (by omega) (by omega) (by decide)) (hp.2.1 16 52 (by omega) (by omega) (by decide)) (hp.2.1 16 53 (by omega) (by omega) (by decide)) (hp.2.1 16 54 (by omega) (by omega) (by decide)) (hp.2.1 16 55 (by omega) (by omega) (by decide)) (hp.2.1 16 56 (by omega) (by omega) (by decide)) (hp.2.1 16 57 (by omega) (by omega) (by decide)) (hp.2.1 16 58 (by omega) (by omega) (by decide)) (hp.2.1 16 59 (by omega) (by omega) (by decide)) (hp.2.1 16 60 (by omega) (by omega) (by decide)) (hp.2.1 16 61 (by omega) (by omega) (by decide)) (hp.2.1 16 62 (by omega) (by omega) (by decide)) (hp.2.1 16 63 (by omega) (by omega) (by decide)) (hp.2.1 16 64 (by omega) (by omega) (by decide))) 4))]; exact hc.1, lx_dec h88 hc.2⟩) k
      rw [k, x125_85, if_neg h88]
theorem x125_85_rule {p : Nat → Nat} {sp : Nat} {ln : Nat} {v1 : Int32} {v2 : Int32} {v3 : Int32} {v4 : Int32} {v5 : Int32} {I : Nat → Int32 → Int32 → Int32 → Int32 → (Nat → Nat → Int32) → (Nat → Nat → Int64) → Prop} {Q : Int32 × (Nat → Nat → Int32) × (Nat → Nat → Int64) → Prop} (h0 : ∀ (v6 : Int32) (v7 : Int32) (v8 : Int32) (v9 : Int32) (J : Nat → Nat → Int32) (L : Nat → Nat → Int64), I 0 v6 v7 v8 v9 J L → Q (if v5 = 0 then (v6, J, L)
    else (v7, J, L))) (h1 : ∀ (c : Nat) (v6 : Int32) (v7 : Int32) (v8 : Int32) (v9 : Int32) (J : Nat → Nat → Int32) (L : Nat → Nat → Int64), I (c + 1) v6 v7 v8 v9 J L →
    if v2 ≤ v9 then if v5 = 0 then (Q (v6, J, L))
      else (Q (v7, J, L))
    else (I c (v6 + ((((x125_114 p sp ln v1 v2 v3 v4 v5 v6 v7 v9 v3.toNatClampNeg (Int32.ofInt 0) (nt_u (x80 (fun i => p (48 + i)) (fun i => p (31 + i)) J) (p 48) 6 v8) L).1) (p 48) 5) - (J (p 31) 5))) (v7 + (x236 (x79 (fun i => p (48 + i)) ((x125_114 p sp ln v1 v2 v3 v4 v5 v6 v7 v9 v3.toNatClampNeg (Int32.ofInt 0) (nt_u (x80 (fun i => p (48 + i)) (fun i => p (31 + i)) J) (p 48) 6 v8) L).1)))) (((x125_114 p sp ln v1 v2 v3 v4 v5 v6 v7 v9 v3.toNatClampNeg (Int32.ofInt 0) (nt_u (x80 (fun i => p (48 + i)) (fun i => p (31 + i)) J) (p 48) 6 v8) L).1) (p 48) 6) (v9 + (Int32.ofInt 1)) ((x125_114 p sp ln v1 v2 v3 v4 v5 v6 v7 v9 v3.toNatClampNeg (Int32.ofInt 0) (nt_u (x80 (fun i => p (48 + i)) (fun i => p (31 + i)) J) (p 48) 6 v8) L).1) ((x125_114 p sp ln v1 v2 v3 v4 v5 v6 v7 v9 v3.toNatClampNeg (Int32.ofInt 0) (nt_u (x80 (fun i => p (48 + i)) (fun i => p (31 + i)) J) (p 48) 6 v8) L).2))) : ∀ (c : Nat) (v6 : Int32) (v7 : Int32) (v8 : Int32) (v9 : Int32) (J : Nat → Nat → Int32) (L : Nat → Nat → Int64), I c v6 v7 v8 v9 J L → Q (x125_85 p sp ln v1 v2 v3 v4 v5 c v6 v7 v8 v9 J L) := by
  intro c
  induction c with
  | zero =>
    intro v6 v7 v8 v9 J L hi
    rw [x125_85]
    exact h0 v6 v7 v8 v9 J L hi
  | succ c ih =>
    intro v6 v7 v8 v9 J L hi
    have hi := h1 c v6 v7 v8 v9 J L hi
    rw [x125_85]
    by_cases h : v2 ≤ v9
    · rw [if_pos h] at hi ⊢
      by_cases h : v5 = 0
      · rw [if_pos h] at hi ⊢
        exact hi
      · rw [if_neg h] at hi ⊢
        exact hi
    · rw [if_neg h] at hi ⊢
      exact ih _ _ _ _ _ _ hi
def x125 (p : Nat → Nat) (sp : Nat) (ln : Nat) (v1 : Int32) (v2 : Int32) (v3 : Int32) (v4 : Int32) (v5 : Int32) (J : Nat → Nat → Int32) (L : Nat → Nat → Int64) : Int32 × (Nat → Nat → Int32) × (Nat → Nat → Int64) := if (J (p 31) 1) = 0 then (Int32.ofInt (-1), J, L)
  else if (x111 p v1 J) = 0 then (Int32.ofInt (-1), J, L)
    else if v2 < (Int32.ofInt 1) then (Int32.ofInt (-1), J, L)
      else if (Int32.ofInt 20) < v2 then (Int32.ofInt (-1), J, L)
        else if v3 < (Int32.ofInt 1) then (Int32.ofInt (-1), J, L)
          else if v3 ≤ (Int32.ofInt 100) then if v4 < 0 then (Int32.ofInt (-1), J, L)
              else if (Int32.ofInt 100) < v4 then (Int32.ofInt (-1), J, L)
                else if v5 < 0 then (Int32.ofInt (-1), J, L)
                  else if v5 ≤ (Int32.ofInt 1) then (x125_85 p sp ln v1 v2 v3 v4 v5 v2.toNatClampNeg (Int32.ofInt 0) (Int32.ofInt 0) (J (p 31) 6) (Int32.ofInt 0) J L)
                    else (Int32.ofInt (-1), J, L)
            else (Int32.ofInt (-1), J, L)
theorem xt125 {X : nt_X} {d : Nat} {M : nt_M} {o : Option Value × nt_M} {p : Nat → Nat} {sp : Nat} {ln : Nat} {ru : Nat} {v1 : Int32} {v2 : Int32} {v3 : Int32} {v4 : Int32} {v5 : Int32} {J : Nat → Nat → Int32} {L : Nat → Nat → Int64} (hp : xs_P M p) (hn : xs_Q M (fun i => p (31 + i))) (hm : xs_Q M (fun i => p (48 + i))) (hk : xs_N M (fun i => p (48 + i))) (hs : xs_S M p ru sp ln) (h0 : ¬ v1 < 0) (hr : nt_R M (p 23) v1.toNatClampNeg = some ru) (h1 : ¬ J (p 16) 4 ≤ v1) (k : nt_ev X d 125 [.ref (p 16), .int v1, .int v2, .int v3, .int v4, .int v5] (me_w (lw M L) J) o) : o = (some (.int ((x125 p sp ln v1 v2 v3 v4 v5 J L).1)), me_w (lw M ((x125 p sp ln v1 v2 v3 v4 v5 J L).2.2)) ((x125 p sp ln v1 v2 v3 v4 v5 J L).2.1)) := by
  have k : nt_rn X d 125 (0, [(0, .ref (p 16)), (1, .int v1), (2, .int v2), (3, .int v3), (4, .int v4), (5, .int v5)], [], me_w (lw M L) J) o := k
  have k := ly_revb 1 (c' := (1, [(0, .ref (p 16)), (1, .int v1), (2, .int v2), (3, .int v3), (4, .int v4), (5, .int v5)], [.ref (p 16)], me_w (lw M L) J)) rfl k
  have k := lz_get (a := (p 16)) (g := 1007) (M := me_w (lw M L) J) (v := .ref (p 31)) rfl (nt_gfR rfl (hp.1 (16, 7, 31) (by decide))) k
  have k := lz_get (a := (p 31)) (g := 601) (M := me_w (lw M L) J) (v := .int (J (p 31) 1)) rfl (congrArg Value.int (rfl)) k
  have k := ly_revb 1 (c' := (if (J (p 31) 1) = 0 then 40 else 10, [(0, .ref (p 16)), (1, .int v1), (2, .int v2), (3, .int v3), (4, .int v4), (5, .int v5)], [], me_w (lw M L) J)) rfl k
  by_cases h7 : (J (p 31) 1) = 0
  · rw [if_pos h7] at k
    have k := ly_revb 1 (c' := (41, [(0, .ref (p 16)), (1, .int v1), (2, .int v2), (3, .int v3), (4, .int v4), (5, .int v5)], [.int (Int32.ofInt (-1))], me_w (lw M L) J)) rfl k
    have k := lz_ri rfl (by decide) k
    rw [k, x125, if_pos h7]
  · rw [if_neg h7] at k
    have k := ly_revb 2 (c' := (12, [(0, .ref (p 16)), (1, .int v1), (2, .int v2), (3, .int v3), (4, .int v4), (5, .int v5)], [.int v1, .ref (p 16)], me_w (lw M L) J)) rfl k
    obtain ⟨d1, o1, ed, kc, k⟩ := lz_c (g := 111) (q := 1) (vs := [.ref (p 16), .int v1]) (rest := []) rfl rfl (by decide) (Or.inr (Or.inl ⟨_, rfl, rfl⟩)) rfl k
    have e1 := xt111 (xs_lp hp) kc
    subst e1
    have k : nt_rn X _ 125 (15, [(0, .ref (p 16)), (1, .int v1), (2, .int v2), (3, .int v3), (4, .int v4), (5, .int v5)], [.int (x111 p v1 J)], me_w (lw M L) J) _ := k
    have k := ly_revb 1 (c' := (if (x111 p v1 J) = 0 then 40 else 18, [(0, .ref (p 16)), (1, .int v1), (2, .int v2), (3, .int v3), (4, .int v4), (5, .int v5)], [], me_w (lw M L) J)) rfl k
    by_cases h15 : (x111 p v1 J) = 0
    · rw [if_pos h15] at k
      have k := ly_revb 1 (c' := (41, [(0, .ref (p 16)), (1, .int v1), (2, .int v2), (3, .int v3), (4, .int v4), (5, .int v5)], [.int (Int32.ofInt (-1))], me_w (lw M L) J)) rfl k
      have k := lz_ri rfl (by decide) k
      rw [k, x125, if_neg h7, if_pos h15]
    · rw [if_neg h15] at k
      have k := ly_revb 3 (c' := (if v2 < (Int32.ofInt 1) then 40 else 23, [(0, .ref (p 16)), (1, .int v1), (2, .int v2), (3, .int v3), (4, .int v4), (5, .int v5)], [], me_w (lw M L) J)) rfl k
      by_cases h20 : v2 < (Int32.ofInt 1)
      · rw [if_pos h20] at k
        have k := ly_revb 1 (c' := (41, [(0, .ref (p 16)), (1, .int v1), (2, .int v2), (3, .int v3), (4, .int v4), (5, .int v5)], [.int (Int32.ofInt (-1))], me_w (lw M L) J)) rfl k
        have k := lz_ri rfl (by decide) k
        rw [k, x125, if_neg h7, if_neg h15, if_pos h20]
      · rw [if_neg h20] at k
        have k := ly_revb 3 (c' := (if (Int32.ofInt 20) < v2 then 40 else 29, [(0, .ref (p 16)), (1, .int v1), (2, .int v2), (3, .int v3), (4, .int v4), (5, .int v5)], [], me_w (lw M L) J)) rfl k
        by_cases h26 : (Int32.ofInt 20) < v2
        · rw [if_pos h26] at k
          have k := ly_revb 1 (c' := (41, [(0, .ref (p 16)), (1, .int v1), (2, .int v2), (3, .int v3), (4, .int v4), (5, .int v5)], [.int (Int32.ofInt (-1))], me_w (lw M L) J)) rfl k
          have k := lz_ri rfl (by decide) k
          rw [k, x125, if_neg h7, if_neg h15, if_neg h20, if_pos h26]
        · rw [if_neg h26] at k
          have k := ly_revb 3 (c' := (if v3 < (Int32.ofInt 1) then 40 else 34, [(0, .ref (p 16)), (1, .int v1), (2, .int v2), (3, .int v3), (4, .int v4), (5, .int v5)], [], me_w (lw M L) J)) rfl k
          by_cases h31 : v3 < (Int32.ofInt 1)
          · rw [if_pos h31] at k
            have k := ly_revb 1 (c' := (41, [(0, .ref (p 16)), (1, .int v1), (2, .int v2), (3, .int v3), (4, .int v4), (5, .int v5)], [.int (Int32.ofInt (-1))], me_w (lw M L) J)) rfl k
            have k := lz_ri rfl (by decide) k
            rw [k, x125, if_neg h7, if_neg h15, if_neg h20, if_neg h26, if_pos h31]
          · rw [if_neg h31] at k
            have k := ly_revb 3 (c' := (if v3 ≤ (Int32.ofInt 100) then 42 else 40, [(0, .ref (p 16)), (1, .int v1), (2, .int v2), (3, .int v3), (4, .int v4), (5, .int v5)], [], me_w (lw M L) J)) rfl k
            by_cases h37 : v3 ≤ (Int32.ofInt 100)
            · rw [if_pos h37] at k
              have k := ly_revb 2 (c' := (if v4 < 0 then 65 else 47, [(0, .ref (p 16)), (1, .int v1), (2, .int v2), (3, .int v3), (4, .int v4), (5, .int v5)], [], me_w (lw M L) J)) rfl k
              by_cases h44 : v4 < 0
              · rw [if_pos h44] at k
                have k := ly_revb 1 (c' := (66, [(0, .ref (p 16)), (1, .int v1), (2, .int v2), (3, .int v3), (4, .int v4), (5, .int v5)], [.int (Int32.ofInt (-1))], me_w (lw M L) J)) rfl k
                have k := lz_ri rfl (by decide) k
                rw [k, x125, if_neg h7, if_neg h15, if_neg h20, if_neg h26, if_neg h31, if_pos h37, if_pos h44]
              · rw [if_neg h44] at k
                have k := ly_revb 3 (c' := (if (Int32.ofInt 100) < v4 then 65 else 54, [(0, .ref (p 16)), (1, .int v1), (2, .int v2), (3, .int v3), (4, .int v4), (5, .int v5)], [], me_w (lw M L) J)) rfl k
                by_cases h51 : (Int32.ofInt 100) < v4
                · rw [if_pos h51] at k
                  have k := ly_revb 1 (c' := (66, [(0, .ref (p 16)), (1, .int v1), (2, .int v2), (3, .int v3), (4, .int v4), (5, .int v5)], [.int (Int32.ofInt (-1))], me_w (lw M L) J)) rfl k
                  have k := lz_ri rfl (by decide) k
                  rw [k, x125, if_neg h7, if_neg h15, if_neg h20, if_neg h26, if_neg h31, if_pos h37, if_neg h44, if_pos h51]
                · rw [if_neg h51] at k
                  have k := ly_revb 2 (c' := (if v5 < 0 then 65 else 59, [(0, .ref (p 16)), (1, .int v1), (2, .int v2), (3, .int v3), (4, .int v4), (5, .int v5)], [], me_w (lw M L) J)) rfl k
                  by_cases h56 : v5 < 0
                  · rw [if_pos h56] at k
                    have k := ly_revb 1 (c' := (66, [(0, .ref (p 16)), (1, .int v1), (2, .int v2), (3, .int v3), (4, .int v4), (5, .int v5)], [.int (Int32.ofInt (-1))], me_w (lw M L) J)) rfl k
                    have k := lz_ri rfl (by decide) k
                    rw [k, x125, if_neg h7, if_neg h15, if_neg h20, if_neg h26, if_neg h31, if_pos h37, if_neg h44, if_neg h51, if_pos h56]
                  · rw [if_neg h56] at k
                    have k := ly_revb 3 (c' := (if v5 ≤ (Int32.ofInt 1) then 67 else 65, [(0, .ref (p 16)), (1, .int v1), (2, .int v2), (3, .int v3), (4, .int v4), (5, .int v5)], [], me_w (lw M L) J)) rfl k
                    by_cases h62 : v5 ≤ (Int32.ofInt 1)
                    · rw [if_pos h62] at k
                      have k := ly_revb 5 (c' := (74, [(7, .int (Int32.ofInt 0)), (6, .int (Int32.ofInt 0)), (0, .ref (p 16)), (1, .int v1), (2, .int v2), (3, .int v3), (4, .int v4), (5, .int v5)], [.ref (p 16)], me_w (lw M L) J)) rfl k
                      have k := lz_get (a := (p 16)) (g := 1007) (M := me_w (lw M L) J) (v := .ref (p 31)) rfl (nt_gfR rfl (hp.1 (16, 7, 31) (by decide))) k
                      have k := lz_get (a := (p 31)) (g := 606) (M := me_w (lw M L) J) (v := .int (J (p 31) 6)) rfl (congrArg Value.int (rfl)) k
                      have k := ly_revb 3 (c' := (85, [(9, .int (Int32.ofInt 0)), (8, .int (J (p 31) 6)), (7, .int (Int32.ofInt 0)), (6, .int (Int32.ofInt 0)), (0, .ref (p 16)), (1, .int v1), (2, .int v2), (3, .int v3), (4, .int v4), (5, .int v5)], [], me_w (lw M L) J)) rfl k
                      have k := nt_rn_w (a := [(9, .int (Int32.ofInt 0)), (8, .int (J (p 31) 6)), (7, .int (Int32.ofInt 0)), (6, .int (Int32.ofInt 0)), (0, .ref (p 16)), (1, .int v1), (2, .int v2), (3, .int v3), (4, .int v4), (5, .int v5)]) (b := [(0, .ref (p 16)), (1, .int v1), (2, .int v2), (3, .int v3), (4, .int v4), (5, .int v5), (6, .int (Int32.ofInt 0)), (7, .int (Int32.ofInt 0)), (8, .int (J (p 31) 6)), (9, .int (Int32.ofInt 0)), (10, .int (Int32.ofInt 0))]) ⟨rfl, rfl, rfl, rfl, rfl, rfl, rfl, rfl, rfl, rfl, trivial⟩ rfl k
                      have k := xt125_85 hp hn hm hk hs h0 hr  v2.toNatClampNeg (Int32.ofInt 0) (Int32.ofInt 0) (J (p 31) 6) (Int32.ofInt 0) (Int32.ofInt 0) J L (⟨h1, lx_beg (by decide)⟩) k
                      rw [k, x125, if_neg h7, if_neg h15, if_neg h20, if_neg h26, if_neg h31, if_pos h37, if_neg h44, if_neg h51, if_neg h56, if_pos h62]
                    · rw [if_neg h62] at k
                      have k := ly_revb 1 (c' := (66, [(0, .ref (p 16)), (1, .int v1), (2, .int v2), (3, .int v3), (4, .int v4), (5, .int v5)], [.int (Int32.ofInt (-1))], me_w (lw M L) J)) rfl k
                      have k := lz_ri rfl (by decide) k
                      rw [k, x125, if_neg h7, if_neg h15, if_neg h20, if_neg h26, if_neg h31, if_pos h37, if_neg h44, if_neg h51, if_neg h56, if_neg h62]
            · rw [if_neg h37] at k
              have k := ly_revb 1 (c' := (41, [(0, .ref (p 16)), (1, .int v1), (2, .int v2), (3, .int v3), (4, .int v4), (5, .int v5)], [.int (Int32.ofInt (-1))], me_w (lw M L) J)) rfl k
              have k := lz_ri rfl (by decide) k
              rw [k, x125, if_neg h7, if_neg h15, if_neg h20, if_neg h26, if_neg h31, if_neg h37]
theorem x125_85_frJ {p : Nat → Nat} {sp : Nat} {ln : Nat} {v1 : Int32} {v2 : Int32} {v3 : Int32} {v4 : Int32} {v5 : Int32} {b : Nat} : ∀ (c : Nat) (v6 : Int32) (v7 : Int32) (v8 : Int32) (v9 : Int32) (J : Nat → Nat → Int32) (L : Nat → Nat → Int64), b ≠ p 25 → b ≠ p 48 → b ≠ p 49 → b ≠ p 50 → b ≠ p 51 → b ≠ p 52 → b ≠ p 53 → b ≠ p 54 → b ≠ p 55 → b ≠ p 56 → b ≠ p 57 → b ≠ p 58 → b ≠ p 59 → b ≠ p 60 → b ≠ p 61 → b ≠ p 62 → b ≠ p 63 → b ≠ p 64 → (x125_85 p sp ln v1 v2 v3 v4 v5 c v6 v7 v8 v9 J L).2.1 b = J b := by
  intro c
  induction c with
  | zero =>
    intro v6 v7 v8 v9 J L n0 n1 n2 n3 n4 n5 n6 n7 n8 n9 n10 n11 n12 n13 n14 n15 n16 n17
    rw [x125_85]
    by_cases h : v5 = 0
    · rw [if_pos h]
      all_goals first | (dsimp only; exact (show J b = J b from rfl)) | exact (show J b = J b from rfl)
    · rw [if_neg h]
      all_goals first | (dsimp only; exact (show J b = J b from rfl)) | exact (show J b = J b from rfl)
  | succ c ih =>
    intro v6 v7 v8 v9 J L n0 n1 n2 n3 n4 n5 n6 n7 n8 n9 n10 n11 n12 n13 n14 n15 n16 n17
    rw [x125_85]
    by_cases h : v2 ≤ v9
    · rw [if_pos h]
      by_cases h : v5 = 0
      · rw [if_pos h]
        all_goals first | (dsimp only; exact (show J b = J b from rfl)) | exact (show J b = J b from rfl)
      · rw [if_neg h]
        all_goals first | (dsimp only; exact (show J b = J b from rfl)) | exact (show J b = J b from rfl)
    · rw [if_neg h]
      exact (ih _ _ _ _ _ _ n0 n1 n2 n3 n4 n5 n6 n7 n8 n9 n10 n11 n12 n13 n14 n15 n16 n17).trans ((x125_114_frJ _ _ _ _ n0 n1 n11 n12 n13 n14 n15 n16 n17).trans ((mu_o n1).trans (x80_frJ  n1 n2 n3 n4 n5 n6 n7 n8 n9 n10 n11 n12 n13 n14 n15 n16 n17)))
theorem x125_frJ {p : Nat → Nat} {sp : Nat} {ln : Nat} {v1 : Int32} {v2 : Int32} {v3 : Int32} {v4 : Int32} {v5 : Int32} {J : Nat → Nat → Int32} {L : Nat → Nat → Int64} {b : Nat} (n0 : b ≠ p 25) (n1 : b ≠ p 48) (n2 : b ≠ p 49) (n3 : b ≠ p 50) (n4 : b ≠ p 51) (n5 : b ≠ p 52) (n6 : b ≠ p 53) (n7 : b ≠ p 54) (n8 : b ≠ p 55) (n9 : b ≠ p 56) (n10 : b ≠ p 57) (n11 : b ≠ p 58) (n12 : b ≠ p 59) (n13 : b ≠ p 60) (n14 : b ≠ p 61) (n15 : b ≠ p 62) (n16 : b ≠ p 63) (n17 : b ≠ p 64) : (x125 p sp ln v1 v2 v3 v4 v5 J L).2.1 b = J b := by
  unfold x125
  by_cases h : (J (p 31) 1) = 0
  · rw [if_pos h]
    all_goals first | (dsimp only; exact (show J b = J b from rfl)) | exact (show J b = J b from rfl)
  · rw [if_neg h]
    by_cases h : (x111 p v1 J) = 0
    · rw [if_pos h]
      all_goals first | (dsimp only; exact (show J b = J b from rfl)) | exact (show J b = J b from rfl)
    · rw [if_neg h]
      by_cases h : v2 < (Int32.ofInt 1)
      · rw [if_pos h]
        all_goals first | (dsimp only; exact (show J b = J b from rfl)) | exact (show J b = J b from rfl)
      · rw [if_neg h]
        by_cases h : (Int32.ofInt 20) < v2
        · rw [if_pos h]
          all_goals first | (dsimp only; exact (show J b = J b from rfl)) | exact (show J b = J b from rfl)
        · rw [if_neg h]
          by_cases h : v3 < (Int32.ofInt 1)
          · rw [if_pos h]
            all_goals first | (dsimp only; exact (show J b = J b from rfl)) | exact (show J b = J b from rfl)
          · rw [if_neg h]
            by_cases h : v3 ≤ (Int32.ofInt 100)
            · rw [if_pos h]
              by_cases h : v4 < 0
              · rw [if_pos h]
                all_goals first | (dsimp only; exact (show J b = J b from rfl)) | exact (show J b = J b from rfl)
              · rw [if_neg h]
                by_cases h : (Int32.ofInt 100) < v4
                · rw [if_pos h]
                  all_goals first | (dsimp only; exact (show J b = J b from rfl)) | exact (show J b = J b from rfl)
                · rw [if_neg h]
                  by_cases h : v5 < 0
                  · rw [if_pos h]
                    all_goals first | (dsimp only; exact (show J b = J b from rfl)) | exact (show J b = J b from rfl)
                  · rw [if_neg h]
                    by_cases h : v5 ≤ (Int32.ofInt 1)
                    · rw [if_pos h]
                      exact (x125_85_frJ _ _ _ _ _ _ _ n0 n1 n2 n3 n4 n5 n6 n7 n8 n9 n10 n11 n12 n13 n14 n15 n16 n17).trans (rfl)
                    · rw [if_neg h]
                      all_goals first | (dsimp only; exact (show J b = J b from rfl)) | exact (show J b = J b from rfl)
            · rw [if_neg h]
              all_goals first | (dsimp only; exact (show J b = J b from rfl)) | exact (show J b = J b from rfl)
theorem x125_85_frL {p : Nat → Nat} {sp : Nat} {ln : Nat} {v1 : Int32} {v2 : Int32} {v3 : Int32} {v4 : Int32} {v5 : Int32} {b : Nat} : ∀ (c : Nat) (v6 : Int32) (v7 : Int32) (v8 : Int32) (v9 : Int32) (J : Nat → Nat → Int32) (L : Nat → Nat → Int64), b ≠ p 25 → b ≠ p 26 → b ≠ p 27 → (x125_85 p sp ln v1 v2 v3 v4 v5 c v6 v7 v8 v9 J L).2.2 b = L b := by
  intro c
  induction c with
  | zero =>
    intro v6 v7 v8 v9 J L n0 n1 n2
    rw [x125_85]
    by_cases h : v5 = 0
    · rw [if_pos h]
      all_goals first | (dsimp only; exact (show L b = L b from rfl)) | exact (show L b = L b from rfl)
    · rw [if_neg h]
      all_goals first | (dsimp only; exact (show L b = L b from rfl)) | exact (show L b = L b from rfl)
  | succ c ih =>
    intro v6 v7 v8 v9 J L n0 n1 n2
    rw [x125_85]
    by_cases h : v2 ≤ v9
    · rw [if_pos h]
      by_cases h : v5 = 0
      · rw [if_pos h]
        all_goals first | (dsimp only; exact (show L b = L b from rfl)) | exact (show L b = L b from rfl)
      · rw [if_neg h]
        all_goals first | (dsimp only; exact (show L b = L b from rfl)) | exact (show L b = L b from rfl)
    · rw [if_neg h]
      exact (ih _ _ _ _ _ _ n0 n1 n2).trans (x125_114_frL _ _ _ _ n0 n1 n2)
theorem x125_frL {p : Nat → Nat} {sp : Nat} {ln : Nat} {v1 : Int32} {v2 : Int32} {v3 : Int32} {v4 : Int32} {v5 : Int32} {J : Nat → Nat → Int32} {L : Nat → Nat → Int64} {b : Nat} (n0 : b ≠ p 25) (n1 : b ≠ p 26) (n2 : b ≠ p 27) : (x125 p sp ln v1 v2 v3 v4 v5 J L).2.2 b = L b := by
  unfold x125
  by_cases h : (J (p 31) 1) = 0
  · rw [if_pos h]
    all_goals first | (dsimp only; exact (show L b = L b from rfl)) | exact (show L b = L b from rfl)
  · rw [if_neg h]
    by_cases h : (x111 p v1 J) = 0
    · rw [if_pos h]
      all_goals first | (dsimp only; exact (show L b = L b from rfl)) | exact (show L b = L b from rfl)
    · rw [if_neg h]
      by_cases h : v2 < (Int32.ofInt 1)
      · rw [if_pos h]
        all_goals first | (dsimp only; exact (show L b = L b from rfl)) | exact (show L b = L b from rfl)
      · rw [if_neg h]
        by_cases h : (Int32.ofInt 20) < v2
        · rw [if_pos h]
          all_goals first | (dsimp only; exact (show L b = L b from rfl)) | exact (show L b = L b from rfl)
        · rw [if_neg h]
          by_cases h : v3 < (Int32.ofInt 1)
          · rw [if_pos h]
            all_goals first | (dsimp only; exact (show L b = L b from rfl)) | exact (show L b = L b from rfl)
          · rw [if_neg h]
            by_cases h : v3 ≤ (Int32.ofInt 100)
            · rw [if_pos h]
              by_cases h : v4 < 0
              · rw [if_pos h]
                all_goals first | (dsimp only; exact (show L b = L b from rfl)) | exact (show L b = L b from rfl)
              · rw [if_neg h]
                by_cases h : (Int32.ofInt 100) < v4
                · rw [if_pos h]
                  all_goals first | (dsimp only; exact (show L b = L b from rfl)) | exact (show L b = L b from rfl)
                · rw [if_neg h]
                  by_cases h : v5 < 0
                  · rw [if_pos h]
                    all_goals first | (dsimp only; exact (show L b = L b from rfl)) | exact (show L b = L b from rfl)
                  · rw [if_neg h]
                    by_cases h : v5 ≤ (Int32.ofInt 1)
                    · rw [if_pos h]
                      exact (x125_85_frL _ _ _ _ _ _ _ n0 n1 n2).trans (rfl)
                    · rw [if_neg h]
                      all_goals first | (dsimp only; exact (show L b = L b from rfl)) | exact (show L b = L b from rfl)
            · rw [if_neg h]
              all_goals first | (dsimp only; exact (show L b = L b from rfl)) | exact (show L b = L b from rfl)
/-! .years -/
def x125N_114 (p : Nat → Nat) (v1 : Int32) (v2 : Int32) (v3 : Int32) (v4 : Int32) (v5 : Int32) (v6 : Int32) (v7 : Int32) (v9 : Int32) : Nat → Int32 → (Nat → Nat → Int32) → (Nat → Nat → Int32)
  | 0, v10, J => J
  | c + 1, v10, J => if v3 ≤ v10 then J
    else if (Int32.ofInt 99) < (J (p 48) 2) then J
      else (x125N_114 p v1 v2 v3 v4 v5 v6 v7 v9 c (v10 + (Int32.ofInt 1)) (x81 (fun i => p (48 + i)) v4 (x1N p (fun i => p (48 + i)) J)))
theorem xt125N_114 {X : nt_X} {d : Nat} {M : nt_M} {o : Option Value × nt_M} {p : Nat → Nat} {v1 : Int32} {v2 : Int32} {v3 : Int32} {v4 : Int32} {v5 : Int32} {v6 : Int32} {v7 : Int32} {v8 : Int32} {v9 : Int32} (hp : xs_P M p) (hn : xs_Q M (fun i => p (31 + i))) (hm : xs_Q M (fun i => p (48 + i))) (hk : xs_N M (fun i => p (48 + i))) (h0 : v1 < 0) : ∀ (c : Nat) (v10 : Int32) (J : Nat → Nat → Int32), v3.toInt - v10.toInt ≤ c → nt_rn X d 125 (114, [(0, .ref (p 16)), (1, .int v1), (2, .int v2), (3, .int v3), (4, .int v4), (5, .int v5), (6, .int v6), (7, .int v7), (8, .int v8), (9, .int v9), (10, .int v10)], [], me_w M J) o → ∃ (w10 : Int32), nt_rn X d 125 (163, [(0, .ref (p 16)), (1, .int v1), (2, .int v2), (3, .int v3), (4, .int v4), (5, .int v5), (6, .int v6), (7, .int v7), (8, .int v8), (9, .int v9), (10, .int w10)], [], me_w M (x125N_114 p v1 v2 v3 v4 v5 v6 v7 v9 c v10 J)) o := by
  intro c
  induction c with
  | zero =>
    intro v10 J hc k
    have k := ly_revb 3 (c' := (if v3 ≤ v10 then 163 else 120, [(0, .ref (p 16)), (1, .int v1), (2, .int v2), (3, .int v3), (4, .int v4), (5, .int v5), (6, .int v6), (7, .int v7), (8, .int v8), (9, .int v9), (10, .int v10)], [], me_w M J)) rfl k
    have h117 : v3 ≤ v10 := lx_end hc
    rw [if_pos h117] at k
    have k := nt_rn_w (a := [(0, .ref (p 16)), (1, .int v1), (2, .int v2), (3, .int v3), (4, .int v4), (5, .int v5), (6, .int v6), (7, .int v7), (8, .int v8), (9, .int v9), (10, .int v10)]) (b := [(0, .ref (p 16)), (1, .int v1), (2, .int v2), (3, .int v3), (4, .int v4), (5, .int v5), (6, .int v6), (7, .int v7), (8, .int v8), (9, .int v9), (10, .int v10)]) ⟨rfl, rfl, rfl, rfl, rfl, rfl, rfl, rfl, rfl, rfl, rfl, trivial⟩ rfl k
    rw [x125N_114]
    exact ⟨_, k⟩
  | succ c ih =>
    intro v10 J hc k
    have k := ly_revb 3 (c' := (if v3 ≤ v10 then 163 else 120, [(0, .ref (p 16)), (1, .int v1), (2, .int v2), (3, .int v3), (4, .int v4), (5, .int v5), (6, .int v6), (7, .int v7), (8, .int v8), (9, .int v9), (10, .int v10)], [], me_w M J)) rfl k
    by_cases h117 : v3 ≤ v10
    · rw [if_pos h117] at k
      have k := nt_rn_w (a := [(0, .ref (p 16)), (1, .int v1), (2, .int v2), (3, .int v3), (4, .int v4), (5, .int v5), (6, .int v6), (7, .int v7), (8, .int v8), (9, .int v9), (10, .int v10)]) (b := [(0, .ref (p 16)), (1, .int v1), (2, .int v2), (3, .int v3), (4, .int v4), (5, .int v5), (6, .int v6), (7, .int v7), (8, .int v8), (9, .int v9), (10, .int v10)]) ⟨rfl, rfl, rfl, rfl, rfl, rfl, rfl, rfl, rfl, rfl, rfl, trivial⟩ rfl k
      rw [x125N_114, if_pos h117]
      exact ⟨_, k⟩
    · rw [if_neg h117] at k
      have k := ly_revb 1 (c' := (121, [(0, .ref (p 16)), (1, .int v1), (2, .int v2), (3, .int v3), (4, .int v4), (5, .int v5), (6, .int v6), (7, .int v7), (8, .int v8), (9, .int v9), (10, .int v10)], [.ref (p 16)], me_w M J)) rfl k
      have k := lz_get (a := (p 16)) (g := 1008) (M := me_w M J) (v := .ref (p 48)) rfl (nt_gfR rfl (hp.1 (16, 8, 48) (by decide))) k
      have k := lz_get (a := (p 48)) (g := 602) (M := me_w M J) (v := .int (J (p 48) 2)) rfl (congrArg Value.int (rfl)) k
      have k := ly_revb 2 (c' := (if (Int32.ofInt 99) < (J (p 48) 2) then 163 else 132, [(0, .ref (p 16)), (1, .int v1), (2, .int v2), (3, .int v3), (4, .int v4), (5, .int v5), (6, .int v6), (7, .int v7), (8, .int v8), (9, .int v9), (10, .int v10)], [], me_w M J)) rfl k
      by_cases h129 : (Int32.ofInt 99) < (J (p 48) 2)
      · rw [if_pos h129] at k
        have k := nt_rn_w (a := [(0, .ref (p 16)), (1, .int v1), (2, .int v2), (3, .int v3), (4, .int v4), (5, .int v5), (6, .int v6), (7, .int v7), (8, .int v8), (9, .int v9), (10, .int v10)]) (b := [(0, .ref (p 16)), (1, .int v1), (2, .int v2), (3, .int v3), (4, .int v4), (5, .int v5), (6, .int v6), (7, .int v7), (8, .int v8), (9, .int v9), (10, .int v10)]) ⟨rfl, rfl, rfl, rfl, rfl, rfl, rfl, rfl, rfl, rfl, rfl, trivial⟩ rfl k
        rw [x125N_114, if_neg h117, if_pos h129]
        exact ⟨_, k⟩
      · rw [if_neg h129] at k
        have k := ly_revb 1 (c' := (133, [(0, .ref (p 16)), (1, .int v1), (2, .int v2), (3, .int v3), (4, .int v4), (5, .int v5), (6, .int v6), (7, .int v7), (8, .int v8), (9, .int v9), (10, .int v10)], [.ref (p 16)], me_w M J)) rfl k
        have k := lz_get (a := (p 16)) (g := 1005) (M := me_w M J) (v := .ref (p 24)) rfl (nt_gfR rfl (hp.1 (16, 5, 24) (by decide))) k
        have k := ly_revb 1 (c' := (137, [(0, .ref (p 16)), (1, .int v1), (2, .int v2), (3, .int v3), (4, .int v4), (5, .int v5), (6, .int v6), (7, .int v7), (8, .int v8), (9, .int v9), (10, .int v10)], [.ref (p 16), .ref (p 24)], me_w M J)) rfl k
        have k := lz_get (a := (p 16)) (g := 1008) (M := me_w M J) (v := .ref (p 48)) rfl (nt_gfR rfl (hp.1 (16, 8, 48) (by decide))) k
        have k := ly_revb 2 (c' := (142, [(0, .ref (p 16)), (1, .int v1), (2, .int v2), (3, .int v3), (4, .int v4), (5, .int v5), (6, .int v6), (7, .int v7), (8, .int v8), (9, .int v9), (10, .int v10)], [.int v1, .ref (p 16), .ref (p 48), .ref (p 24)], me_w M J)) rfl k
        obtain ⟨d1, o1, ed, kc, k⟩ := lz_c (g := 112) (q := 1) (vs := [.ref (p 16), .int v1]) (rest := [.ref (p 48), .ref (p 24)]) rfl rfl (by decide) (Or.inr (Or.inl ⟨_, rfl, rfl⟩)) rfl k
        have e1 := xr112N h0 kc
        subst e1
        have k : nt_rn X _ 125 (145, [(0, .ref (p 16)), (1, .int v1), (2, .int v2), (3, .int v3), (4, .int v4), (5, .int v5), (6, .int v6), (7, .int v7), (8, .int v8), (9, .int v9), (10, .int v10)], [.null, .ref (p 48), .ref (p 24)], me_w M J) _ := k
        obtain ⟨d1, o1, ed, kc, k⟩ := lz_c (g := 1) (q := 1) (vs := [.ref (p 24), .ref (p 48), .null]) (rest := []) rfl rfl (by decide) (Or.inr (Or.inl ⟨_, rfl, rfl⟩)) rfl k
        have e1 := xt1N hp hm (xs_x48 hp) kc
        subst e1
        have k : nt_rn X _ 125 (148, [(0, .ref (p 16)), (1, .int v1), (2, .int v2), (3, .int v3), (4, .int v4), (5, .int v5), (6, .int v6), (7, .int v7), (8, .int v8), (9, .int v9), (10, .int v10)], [], me_w M (x1N p (fun i => p (48 + i)) J)) _ := k
        have k := ly_revb 1 (c' := (149, [(0, .ref (p 16)), (1, .int v1), (2, .int v2), (3, .int v3), (4, .int v4), (5, .int v5), (6, .int v6), (7, .int v7), (8, .int v8), (9, .int v9), (10, .int v10)], [.ref (p 16)], me_w M (x1N p (fun i => p (48 + i)) J))) rfl k
        have k := lz_get (a := (p 16)) (g := 1008) (M := me_w M (x1N p (fun i => p (48 + i)) J)) (v := .ref (p 48)) rfl (nt_gfR rfl (hp.1 (16, 8, 48) (by decide))) k
        have k := ly_revb 1 (c' := (154, [(0, .ref (p 16)), (1, .int v1), (2, .int v2), (3, .int v3), (4, .int v4), (5, .int v5), (6, .int v6), (7, .int v7), (8, .int v8), (9, .int v9), (10, .int v10)], [.int v4, .ref (p 48)], me_w M (x1N p (fun i => p (48 + i)) J))) rfl k
        obtain ⟨d1, o1, ed, kc, k⟩ := lz_c (g := 81) (q := 1) (vs := [.ref (p 48), .int v4]) (rest := []) rfl rfl (by decide) (Or.inr (Or.inl ⟨_, rfl, rfl⟩)) rfl k
        have e1 := xt81 hm kc
        subst e1
        have k : nt_rn X _ 125 (157, [(0, .ref (p 16)), (1, .int v1), (2, .int v2), (3, .int v3), (4, .int v4), (5, .int v5), (6, .int v6), (7, .int v7), (8, .int v8), (9, .int v9), (10, .int v10)], [], me_w M (x81 (fun i => p (48 + i)) v4 (x1N p (fun i => p (48 + i)) J))) _ := k
        have k := ly_revb 2 (c' := (114, [(10, .int (v10 + (Int32.ofInt 1))), (0, .ref (p 16)), (1, .int v1), (2, .int v2), (3, .int v3), (4, .int v4), (5, .int v5), (6, .int v6), (7, .int v7), (8, .int v8), (9, .int v9)], [], me_w M (x81 (fun i => p (48 + i)) v4 (x1N p (fun i => p (48 + i)) J)))) rfl k
        have k := nt_rn_w (a := [(10, .int (v10 + (Int32.ofInt 1))), (0, .ref (p 16)), (1, .int v1), (2, .int v2), (3, .int v3), (4, .int v4), (5, .int v5), (6, .int v6), (7, .int v7), (8, .int v8), (9, .int v9)]) (b := [(0, .ref (p 16)), (1, .int v1), (2, .int v2), (3, .int v3), (4, .int v4), (5, .int v5), (6, .int v6), (7, .int v7), (8, .int v8), (9, .int v9), (10, .int (v10 + (Int32.ofInt 1)))]) ⟨rfl, rfl, rfl, rfl, rfl, rfl, rfl, rfl, rfl, rfl, rfl, trivial⟩ rfl k
        have k := ih (v10 + (Int32.ofInt 1)) (x81 (fun i => p (48 + i)) v4 (x1N p (fun i => p (48 + i)) J)) (lx_dec h117 hc) k
        rw [x125N_114, if_neg h117, if_neg h129]
        exact k
theorem x125N_114_rule {p : Nat → Nat} {v1 : Int32} {v2 : Int32} {v3 : Int32} {v4 : Int32} {v5 : Int32} {v6 : Int32} {v7 : Int32} {v9 : Int32} {I : Nat → Int32 → (Nat → Nat → Int32) → Prop} {Q : (Nat → Nat → Int32) → Prop} (h0 : ∀ (v10 : Int32) (J : Nat → Nat → Int32), I 0 v10 J → Q J) (h1 : ∀ (c : Nat) (v10 : Int32) (J : Nat → Nat → Int32), I (c + 1) v10 J →
    if v3 ≤ v10 then (Q J)
    else if (Int32.ofInt 99) < (J (p 48) 2) then (Q J)
      else (I c (v10 + (Int32.ofInt 1)) (x81 (fun i => p (48 + i)) v4 (x1N p (fun i => p (48 + i)) J)))) : ∀ (c : Nat) (v10 : Int32) (J : Nat → Nat → Int32), I c v10 J → Q (x125N_114 p v1 v2 v3 v4 v5 v6 v7 v9 c v10 J) := by
  intro c
  induction c with
  | zero =>
    intro v10 J hi
    rw [x125N_114]
    exact h0 v10 J hi
  | succ c ih =>
    intro v10 J hi
    have hi := h1 c v10 J hi
    rw [x125N_114]
    by_cases h : v3 ≤ v10
    · rw [if_pos h] at hi ⊢
      exact hi
    · rw [if_neg h] at hi ⊢
      by_cases h : (Int32.ofInt 99) < (J (p 48) 2)
      · rw [if_pos h] at hi ⊢
        exact hi
      · rw [if_neg h] at hi ⊢
        exact ih _ _ hi
theorem x125N_114_frJ {p : Nat → Nat} {v1 : Int32} {v2 : Int32} {v3 : Int32} {v4 : Int32} {v5 : Int32} {v6 : Int32} {v7 : Int32} {v9 : Int32} {b : Nat} : ∀ (c : Nat) (v10 : Int32) (J : Nat → Nat → Int32), b ≠ p 48 → b ≠ p 58 → b ≠ p 59 → b ≠ p 60 → b ≠ p 61 → b ≠ p 63 → b ≠ p 64 → x125N_114 p v1 v2 v3 v4 v5 v6 v7 v9 c v10 J b = J b := by
  intro c
  induction c with
  | zero =>
    intro v10 J n0 n1 n2 n3 n4 n5 n6
    rw [x125N_114]
    all_goals first | (dsimp only; exact (show J b = J b from rfl)) | exact (show J b = J b from rfl)
  | succ c ih =>
    intro v10 J n0 n1 n2 n3 n4 n5 n6
    rw [x125N_114]
    by_cases h : v3 ≤ v10
    · rw [if_pos h]
      all_goals first | (dsimp only; exact (show J b = J b from rfl)) | exact (show J b = J b from rfl)
    · rw [if_neg h]
      by_cases h : (Int32.ofInt 99) < (J (p 48) 2)
      · rw [if_pos h]
        all_goals first | (dsimp only; exact (show J b = J b from rfl)) | exact (show J b = J b from rfl)
      · rw [if_neg h]
        exact (ih _ _ n0 n1 n2 n3 n4 n5 n6).trans ((x81_frJ  n0 n4).trans (x1N_frJ  n0 n1 n2 n3 n4 n5 n6))
def x125N_85 (p : Nat → Nat) (v1 : Int32) (v2 : Int32) (v3 : Int32) (v4 : Int32) (v5 : Int32) : Nat → Int32 → Int32 → Int32 → Int32 → (Nat → Nat → Int32) → Int32 × (Nat → Nat → Int32)
  | 0, v6, v7, v8, v9, J => if v5 = 0 then (v6, J)
    else (v7, J)
  | c + 1, v6, v7, v8, v9, J => if v2 ≤ v9 then if v5 = 0 then (v6, J)
      else (v7, J)
    else (x125N_85 p v1 v2 v3 v4 v5 c (v6 + (((x125N_114 p v1 v2 v3 v4 v5 v6 v7 v9 v3.toNatClampNeg (Int32.ofInt 0) (nt_u (x80 (fun i => p (48 + i)) (fun i => p (31 + i)) J) (p 48) 6 v8)) (p 48) 5) - (J (p 31) 5))) (v7 + (x236 (x79 (fun i => p (48 + i)) (x125N_114 p v1 v2 v3 v4 v5 v6 v7 v9 v3.toNatClampNeg (Int32.ofInt 0) (nt_u (x80 (fun i => p (48 + i)) (fun i => p (31 + i)) J) (p 48) 6 v8))))) ((x125N_114 p v1 v2 v3 v4 v5 v6 v7 v9 v3.toNatClampNeg (Int32.ofInt 0) (nt_u (x80 (fun i => p (48 + i)) (fun i => p (31 + i)) J) (p 48) 6 v8)) (p 48) 6) (v9 + (Int32.ofInt 1)) (x125N_114 p v1 v2 v3 v4 v5 v6 v7 v9 v3.toNatClampNeg (Int32.ofInt 0) (nt_u (x80 (fun i => p (48 + i)) (fun i => p (31 + i)) J) (p 48) 6 v8)))
theorem xt125N_85 {X : nt_X} {d : Nat} {M : nt_M} {o : Option Value × nt_M} {p : Nat → Nat} {v1 : Int32} {v2 : Int32} {v3 : Int32} {v4 : Int32} {v5 : Int32} (hp : xs_P M p) (hn : xs_Q M (fun i => p (31 + i))) (hm : xs_Q M (fun i => p (48 + i))) (hk : xs_N M (fun i => p (48 + i))) (h0 : v1 < 0) : ∀ (c : Nat) (v6 : Int32) (v7 : Int32) (v8 : Int32) (v9 : Int32) (v10 : Int32) (J : Nat → Nat → Int32), v2.toInt - v9.toInt ≤ c → nt_rn X d 125 (85, [(0, .ref (p 16)), (1, .int v1), (2, .int v2), (3, .int v3), (4, .int v4), (5, .int v5), (6, .int v6), (7, .int v7), (8, .int v8), (9, .int v9), (10, .int v10)], [], me_w M J) o → o = (some (.int ((x125N_85 p v1 v2 v3 v4 v5 c v6 v7 v8 v9 J).1)), me_w M ((x125N_85 p v1 v2 v3 v4 v5 c v6 v7 v8 v9 J).2)) := by
  intro c
  induction c with
  | zero =>
    intro v6 v7 v8 v9 v10 J hc k
    have k := ly_revb 3 (c' := (if v2 ≤ v9 then 213 else 91, [(0, .ref (p 16)), (1, .int v1), (2, .int v2), (3, .int v3), (4, .int v4), (5, .int v5), (6, .int v6), (7, .int v7), (8, .int v8), (9, .int v9), (10, .int v10)], [], me_w M J)) rfl k
    have h88 : v2 ≤ v9 := lx_end hc
    rw [if_pos h88] at k
    have k := ly_revb 2 (c' := (if v5 = 0 then 218 else 223, [(0, .ref (p 16)), (1, .int v1), (2, .int v2), (3, .int v3), (4, .int v4), (5, .int v5), (6, .int v6), (7, .int v7), (8, .int v8), (9, .int v9), (10, .int v10)], [], me_w M J)) rfl k
    by_cases h215 : v5 = 0
    · rw [if_pos h215] at k
      have k := ly_revb 2 (c' := (225, [(0, .ref (p 16)), (1, .int v1), (2, .int v2), (3, .int v3), (4, .int v4), (5, .int v5), (6, .int v6), (7, .int v7), (8, .int v8), (9, .int v9), (10, .int v10)], [.int v6], me_w M J)) rfl k
      have k := lz_ri rfl (by decide) k
      rw [k, x125N_85, if_pos h215]
    · rw [if_neg h215] at k
      have k := ly_revb 1 (c' := (225, [(0, .ref (p 16)), (1, .int v1), (2, .int v2), (3, .int v3), (4, .int v4), (5, .int v5), (6, .int v6), (7, .int v7), (8, .int v8), (9, .int v9), (10, .int v10)], [.int v7], me_w M J)) rfl k
      have k := lz_ri rfl (by decide) k
      rw [k, x125N_85, if_neg h215]
  | succ c ih =>
    intro v6 v7 v8 v9 v10 J hc k
    have k := ly_revb 3 (c' := (if v2 ≤ v9 then 213 else 91, [(0, .ref (p 16)), (1, .int v1), (2, .int v2), (3, .int v3), (4, .int v4), (5, .int v5), (6, .int v6), (7, .int v7), (8, .int v8), (9, .int v9), (10, .int v10)], [], me_w M J)) rfl k
    by_cases h88 : v2 ≤ v9
    · rw [if_pos h88] at k
      have k := ly_revb 2 (c' := (if v5 = 0 then 218 else 223, [(0, .ref (p 16)), (1, .int v1), (2, .int v2), (3, .int v3), (4, .int v4), (5, .int v5), (6, .int v6), (7, .int v7), (8, .int v8), (9, .int v9), (10, .int v10)], [], me_w M J)) rfl k
      by_cases h215 : v5 = 0
      · rw [if_pos h215] at k
        have k := ly_revb 2 (c' := (225, [(0, .ref (p 16)), (1, .int v1), (2, .int v2), (3, .int v3), (4, .int v4), (5, .int v5), (6, .int v6), (7, .int v7), (8, .int v8), (9, .int v9), (10, .int v10)], [.int v6], me_w M J)) rfl k
        have k := lz_ri rfl (by decide) k
        rw [k, x125N_85, if_pos h88, if_pos h215]
      · rw [if_neg h215] at k
        have k := ly_revb 1 (c' := (225, [(0, .ref (p 16)), (1, .int v1), (2, .int v2), (3, .int v3), (4, .int v4), (5, .int v5), (6, .int v6), (7, .int v7), (8, .int v8), (9, .int v9), (10, .int v10)], [.int v7], me_w M J)) rfl k
        have k := lz_ri rfl (by decide) k
        rw [k, x125N_85, if_pos h88, if_neg h215]
    · rw [if_neg h88] at k
      have k := ly_revb 1 (c' := (92, [(0, .ref (p 16)), (1, .int v1), (2, .int v2), (3, .int v3), (4, .int v4), (5, .int v5), (6, .int v6), (7, .int v7), (8, .int v8), (9, .int v9), (10, .int v10)], [.ref (p 16)], me_w M J)) rfl k
      have k := lz_get (a := (p 16)) (g := 1008) (M := me_w M J) (v := .ref (p 48)) rfl (nt_gfR rfl (hp.1 (16, 8, 48) (by decide))) k
      have k := ly_revb 1 (c' := (96, [(0, .ref (p 16)), (1, .int v1), (2, .int v2), (3, .int v3), (4, .int v4), (5, .int v5), (6, .int v6), (7, .int v7), (8, .int v8), (9, .int v9), (10, .int v10)], [.ref (p 16), .ref (p 48)], me_w M J)) rfl k
      have k := lz_get (a := (p 16)) (g := 1007) (M := me_w M J) (v := .ref (p 31)) rfl (nt_gfR rfl (hp.1 (16, 7, 31) (by decide))) k
      obtain ⟨d1, o1, ed, kc, k⟩ := lz_c (g := 80) (q := 1) (vs := [.ref (p 48), .ref (p 31)]) (rest := []) rfl rfl (by decide) (Or.inr (Or.inl ⟨_, rfl, rfl⟩)) rfl k
      have e1 := xt80 hm hn (xs_d48 hp) hk kc
      subst e1
      have k : nt_rn X _ 125 (102, [(0, .ref (p 16)), (1, .int v1), (2, .int v2), (3, .int v3), (4, .int v4), (5, .int v5), (6, .int v6), (7, .int v7), (8, .int v8), (9, .int v9), (10, .int v10)], [], me_w M (x80 (fun i => p (48 + i)) (fun i => p (31 + i)) J)) _ := k
      have k := ly_revb 1 (c' := (103, [(0, .ref (p 16)), (1, .int v1), (2, .int v2), (3, .int v3), (4, .int v4), (5, .int v5), (6, .int v6), (7, .int v7), (8, .int v8), (9, .int v9), (10, .int v10)], [.ref (p 16)], me_w M (x80 (fun i => p (48 + i)) (fun i => p (31 + i)) J))) rfl k
      have k := lz_get (a := (p 16)) (g := 1008) (M := me_w M (x80 (fun i => p (48 + i)) (fun i => p (31 + i)) J)) (v := .ref (p 48)) rfl (nt_gfR rfl (hp.1 (16, 8, 48) (by decide))) k
      have k := ly_revb 1 (c' := (108, [(0, .ref (p 16)), (1, .int v1), (2, .int v2), (3, .int v3), (4, .int v4), (5, .int v5), (6, .int v6), (7, .int v7), (8, .int v8), (9, .int v9), (10, .int v10)], [.int v8, .ref (p 48)], me_w M (x80 (fun i => p (48 + i)) (fun i => p (31 + i)) J))) rfl k
      have k := me_put rfl (by decide) k
      have k : nt_rn X _ 125 (111, [(0, .ref (p 16)), (1, .int v1), (2, .int v2), (3, .int v3), (4, .int v4), (5, .int v5), (6, .int v6), (7, .int v7), (8, .int v8), (9, .int v9), (10, .int v10)], [], me_w M (nt_u (x80 (fun i => p (48 + i)) (fun i => p (31 + i)) J) (p 48) 6 v8)) _ := k
      have k := ly_revb 2 (c' := (114, [(10, .int (Int32.ofInt 0)), (0, .ref (p 16)), (1, .int v1), (2, .int v2), (3, .int v3), (4, .int v4), (5, .int v5), (6, .int v6), (7, .int v7), (8, .int v8), (9, .int v9)], [], me_w M (nt_u (x80 (fun i => p (48 + i)) (fun i => p (31 + i)) J) (p 48) 6 v8))) rfl k
      have k := nt_rn_w (a := [(10, .int (Int32.ofInt 0)), (0, .ref (p 16)), (1, .int v1), (2, .int v2), (3, .int v3), (4, .int v4), (5, .int v5), (6, .int v6), (7, .int v7), (8, .int v8), (9, .int v9)]) (b := [(0, .ref (p 16)), (1, .int v1), (2, .int v2), (3, .int v3), (4, .int v4), (5, .int v5), (6, .int v6), (7, .int v7), (8, .int v8), (9, .int v9), (10, .int (Int32.ofInt 0))]) ⟨rfl, rfl, rfl, rfl, rfl, rfl, rfl, rfl, rfl, rfl, rfl, trivial⟩ rfl k
      have k := xt125N_114 hp hn hm hk h0  v3.toNatClampNeg (Int32.ofInt 0) (nt_u (x80 (fun i => p (48 + i)) (fun i => p (31 + i)) J) (p 48) 6 v8) (lx_beg (by decide)) k
      obtain ⟨w10, k⟩ := k
      have k : nt_rn X _ 125 (163, [(0, .ref (p 16)), (1, .int v1), (2, .int v2), (3, .int v3), (4, .int v4), (5, .int v5), (6, .int v6), (7, .int v7), (8, .int v8), (9, .int v9), (10, .int w10)], [], me_w M (x125N_114 p v1 v2 v3 v4 v5 v6 v7 v9 v3.toNatClampNeg (Int32.ofInt 0) (nt_u (x80 (fun i => p (48 + i)) (fun i => p (31 + i)) J) (p 48) 6 v8))) _ := k
      have k := ly_revb 1 (c' := (164, [(0, .ref (p 16)), (1, .int v1), (2, .int v2), (3, .int v3), (4, .int v4), (5, .int v5), (6, .int v6), (7, .int v7), (8, .int v8), (9, .int v9), (10, .int w10)], [.ref (p 16)], me_w M (x125N_114 p v1 v2 v3 v4 v5 v6 v7 v9 v3.toNatClampNeg (Int32.ofInt 0) (nt_u (x80 (fun i => p (48 + i)) (fun i => p (31 + i)) J) (p 48) 6 v8)))) rfl k
      have k := lz_get (a := (p 16)) (g := 1008) (M := me_w M (x125N_114 p v1 v2 v3 v4 v5 v6 v7 v9 v3.toNatClampNeg (Int32.ofInt 0) (nt_u (x80 (fun i => p (48 + i)) (fun i => p (31 + i)) J) (p 48) 6 v8))) (v := .ref (p 48)) rfl (nt_gfR rfl (hp.1 (16, 8, 48) (by decide))) k
      have k := lz_get (a := (p 48)) (g := 606) (M := me_w M (x125N_114 p v1 v2 v3 v4 v5 v6 v7 v9 v3.toNatClampNeg (Int32.ofInt 0) (nt_u (x80 (fun i => p (48 + i)) (fun i => p (31 + i)) J) (p 48) 6 v8))) (v := .int ((x125N_114 p v1 v2 v3 v4 v5 v6 v7 v9 v3.toNatClampNeg (Int32.ofInt 0) (nt_u (x80 (fun i => p (48 + i)) (fun i => p (31 + i)) J) (p 48) 6 v8)) (p 48) 6)) rfl (congrArg Value.int (rfl)) k
      have k := ly_revb 3 (c' := (175, [(8, .int ((x125N_114 p v1 v2 v3 v4 v5 v6 v7 v9 v3.toNatClampNeg (Int32.ofInt 0) (nt_u (x80 (fun i => p (48 + i)) (fun i => p (31 + i)) J) (p 48) 6 v8)) (p 48) 6)), (0, .ref (p 16)), (1, .int v1), (2, .int v2), (3, .int v3), (4, .int v4), (5, .int v5), (6, .int v6), (7, .int v7), (9, .int v9), (10, .int w10)], [.ref (p 16), .int v6], me_w M (x125N_114 p v1 v2 v3 v4 v5 v6 v7 v9 v3.toNatClampNeg (Int32.ofInt 0) (nt_u (x80 (fun i => p (48 + i)) (fun i => p (31 + i)) J) (p 48) 6 v8)))) rfl k
      have k := lz_get (a := (p 16)) (g := 1008) (M := me_w M (x125N_114 p v1 v2 v3 v4 v5 v6 v7 v9 v3.toNatClampNeg (Int32.ofInt 0) (nt_u (x80 (fun i => p (48 + i)) (fun i => p (31 + i)) J) (p 48) 6 v8))) (v := .ref (p 48)) rfl (nt_gfR rfl (hp.1 (16, 8, 48) (by decide))) k
      have k := lz_get (a := (p 48)) (g := 605) (M := me_w M (x125N_114 p v1 v2 v3 v4 v5 v6 v7 v9 v3.toNatClampNeg (Int32.ofInt 0) (nt_u (x80 (fun i => p (48 + i)) (fun i => p (31 + i)) J) (p 48) 6 v8))) (v := .int ((x125N_114 p v1 v2 v3 v4 v5 v6 v7 v9 v3.toNatClampNeg (Int32.ofInt 0) (nt_u (x80 (fun i => p (48 + i)) (fun i => p (31 + i)) J) (p 48) 6 v8)) (p 48) 5)) rfl (congrArg Value.int (rfl)) k
      have k := ly_revb 1 (c' := (182, [(8, .int ((x125N_114 p v1 v2 v3 v4 v5 v6 v7 v9 v3.toNatClampNeg (Int32.ofInt 0) (nt_u (x80 (fun i => p (48 + i)) (fun i => p (31 + i)) J) (p 48) 6 v8)) (p 48) 6)), (0, .ref (p 16)), (1, .int v1), (2, .int v2), (3, .int v3), (4, .int v4), (5, .int v5), (6, .int v6), (7, .int v7), (9, .int v9), (10, .int w10)], [.ref (p 16), .int ((x125N_114 p v1 v2 v3 v4 v5 v6 v7 v9 v3.toNatClampNeg (Int32.ofInt 0) (nt_u (x80 (fun i => p (48 + i)) (fun i => p (31 + i)) J) (p 48) 6 v8)) (p 48) 5), .int v6], me_w M (x125N_114 p v1 v2 v3 v4 v5 v6 v7 v9 v3.toNatClampNeg (Int32.ofInt 0) (nt_u (x80 (fun i => p (48 + i)) (fun i => p (31 + i)) J) (p 48) 6 v8)))) rfl k
      have k := lz_get (a := (p 16)) (g := 1007) (M := me_w M (x125N_114 p v1 v2 v3 v4 v5 v6 v7 v9 v3.toNatClampNeg (Int32.ofInt 0) (nt_u (x80 (fun i => p (48 + i)) (fun i => p (31 + i)) J) (p 48) 6 v8))) (v := .ref (p 31)) rfl (nt_gfR rfl (hp.1 (16, 7, 31) (by decide))) k
      have k := lz_get (a := (p 31)) (g := 605) (M := me_w M (x125N_114 p v1 v2 v3 v4 v5 v6 v7 v9 v3.toNatClampNeg (Int32.ofInt 0) (nt_u (x80 (fun i => p (48 + i)) (fun i => p (31 + i)) J) (p 48) 6 v8))) (v := .int (J (p 31) 5)) rfl (congrArg Value.int ((congrFun (x125N_114_frJ _ _ _ (hp.2.1 31 48 (by omega) (by omega) (by decide)) (hp.2.1 31 58 (by omega) (by omega) (by decide)) (hp.2.1 31 59 (by omega) (by omega) (by decide)) (hp.2.1 31 60 (by omega) (by omega) (by decide)) (hp.2.1 31 61 (by omega) (by omega) (by decide)) (hp.2.1 31 63 (by omega) (by omega) (by decide)) (hp.2.1 31 64 (by omega) (by omega) (by decide))) 5).trans ((mu_j (hp.2.1 31 48 (by omega) (by omega) (by decide))).trans (congrFun (x80_frJ  (hp.2.1 31 48 (by omega) (by omega) (by decide)) (hp.2.1 31 49 (by omega) (by omega) (by decide)) (hp.2.1 31 50 (by omega) (by omega) (by decide)) (hp.2.1 31 51 (by omega) (by omega) (by decide)) (hp.2.1 31 52 (by omega) (by omega) (by decide)) (hp.2.1 31 53 (by omega) (by omega) (by decide)) (hp.2.1 31 54 (by omega) (by omega) (by decide)) (hp.2.1 31 55 (by omega) (by omega) (by decide)) (hp.2.1 31 56 (by omega) (by omega) (by decide)) (hp.2.1 31 57 (by omega) (by omega) (by decide)) (hp.2.1 31 58 (by omega) (by omega) (by decide)) (hp.2.1 31 59 (by omega) (by omega) (by decide)) (hp.2.1 31 60 (by omega) (by omega) (by decide)) (hp.2.1 31 61 (by omega) (by omega) (by decide)) (hp.2.1 31 62 (by omega) (by omega) (by decide)) (hp.2.1 31 63 (by omega) (by omega) (by decide)) (hp.2.1 31 64 (by omega) (by omega) (by decide))) 5)))) k
      have k := ly_revb 5 (c' := (195, [(6, .int (v6 + (((x125N_114 p v1 v2 v3 v4 v5 v6 v7 v9 v3.toNatClampNeg (Int32.ofInt 0) (nt_u (x80 (fun i => p (48 + i)) (fun i => p (31 + i)) J) (p 48) 6 v8)) (p 48) 5) - (J (p 31) 5)))), (8, .int ((x125N_114 p v1 v2 v3 v4 v5 v6 v7 v9 v3.toNatClampNeg (Int32.ofInt 0) (nt_u (x80 (fun i => p (48 + i)) (fun i => p (31 + i)) J) (p 48) 6 v8)) (p 48) 6)), (0, .ref (p 16)), (1, .int v1), (2, .int v2), (3, .int v3), (4, .int v4), (5, .int v5), (7, .int v7), (9, .int v9), (10, .int w10)], [.ref (p 16), .int v7], me_w M (x125N_114 p v1 v2 v3 v4 v5 v6 v7 v9 v3.toNatClampNeg (Int32.ofInt 0) (nt_u (x80 (fun i => p (48 + i)) (fun i => p (31 + i)) J) (p 48) 6 v8)))) rfl k
      have k := lz_get (a := (p 16)) (g := 1008) (M := me_w M (x125N_114 p v1 v2 v3 v4 v5 v6 v7 v9 v3.toNatClampNeg (Int32.ofInt 0) (nt_u (x80 (fun i => p (48 + i)) (fun i => p (31 + i)) J) (p 48) 6 v8))) (v := .ref (p 48)) rfl (nt_gfR rfl (hp.1 (16, 8, 48) (by decide))) k
      obtain ⟨d1, o1, ed, kc, k⟩ := lz_c (g := 79) (q := 1) (vs := [.ref (p 48)]) (rest := [.int v7]) rfl rfl (by decide) (Or.inr (Or.inl ⟨_, rfl, rfl⟩)) rfl k
      have e1 := xt79 hm kc
      subst e1
      have k : nt_rn X _ 125 (201, [(6, .int (v6 + (((x125N_114 p v1 v2 v3 v4 v5 v6 v7 v9 v3.toNatClampNeg (Int32.ofInt 0) (nt_u (x80 (fun i => p (48 + i)) (fun i => p (31 + i)) J) (p 48) 6 v8)) (p 48) 5) - (J (p 31) 5)))), (8, .int ((x125N_114 p v1 v2 v3 v4 v5 v6 v7 v9 v3.toNatClampNeg (Int32.ofInt 0) (nt_u (x80 (fun i => p (48 + i)) (fun i => p (31 + i)) J) (p 48) 6 v8)) (p 48) 6)), (0, .ref (p 16)), (1, .int v1), (2, .int v2), (3, .int v3), (4, .int v4), (5, .int v5), (7, .int v7), (9, .int v9), (10, .int w10)], [.int (x79 (fun i => p (48 + i)) (x125N_114 p v1 v2 v3 v4 v5 v6 v7 v9 v3.toNatClampNeg (Int32.ofInt 0) (nt_u (x80 (fun i => p (48 + i)) (fun i => p (31 + i)) J) (p 48) 6 v8))), .int v7], me_w M (x125N_114 p v1 v2 v3 v4 v5 v6 v7 v9 v3.toNatClampNeg (Int32.ofInt 0) (nt_u (x80 (fun i => p (48 + i)) (fun i => p (31 + i)) J) (p 48) 6 v8))) _ := k
      obtain ⟨d1, o1, ed, kc, k⟩ := lz_c (g := 236) (q := 0) (vs := [.int (x79 (fun i => p (48 + i)) (x125N_114 p v1 v2 v3 v4 v5 v6 v7 v9 v3.toNatClampNeg (Int32.ofInt 0) (nt_u (x80 (fun i => p (48 + i)) (fun i => p (31 + i)) J) (p 48) 6 v8)))]) (rest := [.int v7]) rfl rfl (by decide) (Or.inl ⟨_, rfl, rfl⟩) rfl k
      have e1 := xt236  kc
      subst e1
      have k : nt_rn X _ 125 (204, [(6, .int (v6 + (((x125N_114 p v1 v2 v3 v4 v5 v6 v7 v9 v3.toNatClampNeg (Int32.ofInt 0) (nt_u (x80 (fun i => p (48 + i)) (fun i => p (31 + i)) J) (p 48) 6 v8)) (p 48) 5) - (J (p 31) 5)))), (8, .int ((x125N_114 p v1 v2 v3 v4 v5 v6 v7 v9 v3.toNatClampNeg (Int32.ofInt 0) (nt_u (x80 (fun i => p (48 + i)) (fun i => p (31 + i)) J) (p 48) 6 v8)) (p 48) 6)), (0, .ref (p 16)), (1, .int v1), (2, .int v2), (3, .int v3), (4, .int v4), (5, .int v5), (7, .int v7), (9, .int v9), (10, .int w10)], [.int (x236 (x79 (fun i => p (48 + i)) (x125N_114 p v1 v2 v3 v4 v5 v6 v7 v9 v3.toNatClampNeg (Int32.ofInt 0) (nt_u (x80 (fun i => p (48 + i)) (fun i => p (31 + i)) J) (p 48) 6 v8)))), .int v7], me_w M (x125N_114 p v1 v2 v3 v4 v5 v6 v7 v9 v3.toNatClampNeg (Int32.ofInt 0) (nt_u (x80 (fun i => p (48 + i)) (fun i => p (31 + i)) J) (p 48) 6 v8))) _ := k
      have k := ly_revb 4 (c' := (85, [(9, .int (v9 + (Int32.ofInt 1))), (7, .int (v7 + (x236 (x79 (fun i => p (48 + i)) (x125N_114 p v1 v2 v3 v4 v5 v6 v7 v9 v3.toNatClampNeg (Int32.ofInt 0) (nt_u (x80 (fun i => p (48 + i)) (fun i => p (31 + i)) J) (p 48) 6 v8)))))), (6, .int (v6 + (((x125N_114 p v1 v2 v3 v4 v5 v6 v7 v9 v3.toNatClampNeg (Int32.ofInt 0) (nt_u (x80 (fun i => p (48 + i)) (fun i => p (31 + i)) J) (p 48) 6 v8)) (p 48) 5) - (J (p 31) 5)))), (8, .int ((x125N_114 p v1 v2 v3 v4 v5 v6 v7 v9 v3.toNatClampNeg (Int32.ofInt 0) (nt_u (x80 (fun i => p (48 + i)) (fun i => p (31 + i)) J) (p 48) 6 v8)) (p 48) 6)), (0, .ref (p 16)), (1, .int v1), (2, .int v2), (3, .int v3), (4, .int v4), (5, .int v5), (10, .int w10)], [], me_w M (x125N_114 p v1 v2 v3 v4 v5 v6 v7 v9 v3.toNatClampNeg (Int32.ofInt 0) (nt_u (x80 (fun i => p (48 + i)) (fun i => p (31 + i)) J) (p 48) 6 v8)))) rfl k
      have k := nt_rn_w (a := [(9, .int (v9 + (Int32.ofInt 1))), (7, .int (v7 + (x236 (x79 (fun i => p (48 + i)) (x125N_114 p v1 v2 v3 v4 v5 v6 v7 v9 v3.toNatClampNeg (Int32.ofInt 0) (nt_u (x80 (fun i => p (48 + i)) (fun i => p (31 + i)) J) (p 48) 6 v8)))))), (6, .int (v6 + (((x125N_114 p v1 v2 v3 v4 v5 v6 v7 v9 v3.toNatClampNeg (Int32.ofInt 0) (nt_u (x80 (fun i => p (48 + i)) (fun i => p (31 + i)) J) (p 48) 6 v8)) (p 48) 5) - (J (p 31) 5)))), (8, .int ((x125N_114 p v1 v2 v3 v4 v5 v6 v7 v9 v3.toNatClampNeg (Int32.ofInt 0) (nt_u (x80 (fun i => p (48 + i)) (fun i => p (31 + i)) J) (p 48) 6 v8)) (p 48) 6)), (0, .ref (p 16)), (1, .int v1), (2, .int v2), (3, .int v3), (4, .int v4), (5, .int v5), (10, .int w10)]) (b := [(0, .ref (p 16)), (1, .int v1), (2, .int v2), (3, .int v3), (4, .int v4), (5, .int v5), (6, .int (v6 + (((x125N_114 p v1 v2 v3 v4 v5 v6 v7 v9 v3.toNatClampNeg (Int32.ofInt 0) (nt_u (x80 (fun i => p (48 + i)) (fun i => p (31 + i)) J) (p 48) 6 v8)) (p 48) 5) - (J (p 31) 5)))), (7, .int (v7 + (x236 (x79 (fun i => p (48 + i)) (x125N_114 p v1 v2 v3 v4 v5 v6 v7 v9 v3.toNatClampNeg (Int32.ofInt 0) (nt_u (x80 (fun i => p (48 + i)) (fun i => p (31 + i)) J) (p 48) 6 v8)))))), (8, .int ((x125N_114 p v1 v2 v3 v4 v5 v6 v7 v9 v3.toNatClampNeg (Int32.ofInt 0) (nt_u (x80 (fun i => p (48 + i)) (fun i => p (31 + i)) J) (p 48) 6 v8)) (p 48) 6)), (9, .int (v9 + (Int32.ofInt 1))), (10, .int w10)]) ⟨rfl, rfl, rfl, rfl, rfl, rfl, rfl, rfl, rfl, rfl, rfl, trivial⟩ rfl k
      have k := ih (v6 + (((x125N_114 p v1 v2 v3 v4 v5 v6 v7 v9 v3.toNatClampNeg (Int32.ofInt 0) (nt_u (x80 (fun i => p (48 + i)) (fun i => p (31 + i)) J) (p 48) 6 v8)) (p 48) 5) - (J (p 31) 5))) (v7 + (x236 (x79 (fun i => p (48 + i)) (x125N_114 p v1 v2 v3 v4 v5 v6 v7 v9 v3.toNatClampNeg (Int32.ofInt 0) (nt_u (x80 (fun i => p (48 + i)) (fun i => p (31 + i)) J) (p 48) 6 v8))))) ((x125N_114 p v1 v2 v3 v4 v5 v6 v7 v9 v3.toNatClampNeg (Int32.ofInt 0) (nt_u (x80 (fun i => p (48 + i)) (fun i => p (31 + i)) J) (p 48) 6 v8)) (p 48) 6) (v9 + (Int32.ofInt 1)) w10 (x125N_114 p v1 v2 v3 v4 v5 v6 v7 v9 v3.toNatClampNeg (Int32.ofInt 0) (nt_u (x80 (fun i => p (48 + i)) (fun i => p (31 + i)) J) (p 48) 6 v8)) (lx_dec h88 hc) k
      rw [k, x125N_85, if_neg h88]
theorem x125N_85_rule {p : Nat → Nat} {v1 : Int32} {v2 : Int32} {v3 : Int32} {v4 : Int32} {v5 : Int32} {I : Nat → Int32 → Int32 → Int32 → Int32 → (Nat → Nat → Int32) → Prop} {Q : Int32 × (Nat → Nat → Int32) → Prop} (h0 : ∀ (v6 : Int32) (v7 : Int32) (v8 : Int32) (v9 : Int32) (J : Nat → Nat → Int32), I 0 v6 v7 v8 v9 J → Q (if v5 = 0 then (v6, J)
    else (v7, J))) (h1 : ∀ (c : Nat) (v6 : Int32) (v7 : Int32) (v8 : Int32) (v9 : Int32) (J : Nat → Nat → Int32), I (c + 1) v6 v7 v8 v9 J →
    if v2 ≤ v9 then if v5 = 0 then (Q (v6, J))
      else (Q (v7, J))
    else (I c (v6 + (((x125N_114 p v1 v2 v3 v4 v5 v6 v7 v9 v3.toNatClampNeg (Int32.ofInt 0) (nt_u (x80 (fun i => p (48 + i)) (fun i => p (31 + i)) J) (p 48) 6 v8)) (p 48) 5) - (J (p 31) 5))) (v7 + (x236 (x79 (fun i => p (48 + i)) (x125N_114 p v1 v2 v3 v4 v5 v6 v7 v9 v3.toNatClampNeg (Int32.ofInt 0) (nt_u (x80 (fun i => p (48 + i)) (fun i => p (31 + i)) J) (p 48) 6 v8))))) ((x125N_114 p v1 v2 v3 v4 v5 v6 v7 v9 v3.toNatClampNeg (Int32.ofInt 0) (nt_u (x80 (fun i => p (48 + i)) (fun i => p (31 + i)) J) (p 48) 6 v8)) (p 48) 6) (v9 + (Int32.ofInt 1)) (x125N_114 p v1 v2 v3 v4 v5 v6 v7 v9 v3.toNatClampNeg (Int32.ofInt 0) (nt_u (x80 (fun i => p (48 + i)) (fun i => p (31 + i)) J) (p 48) 6 v8)))) : ∀ (c : Nat) (v6 : Int32) (v7 : Int32) (v8 : Int32) (v9 : Int32) (J : Nat → Nat → Int32), I c v6 v7 v8 v9 J → Q (x125N_85 p v1 v2 v3 v4 v5 c v6 v7 v8 v9 J) := by
  intro c
  induction c with
  | zero =>
    intro v6 v7 v8 v9 J hi
    rw [x125N_85]
    exact h0 v6 v7 v8 v9 J hi
  | succ c ih =>
    intro v6 v7 v8 v9 J hi
    have hi := h1 c v6 v7 v8 v9 J hi
    rw [x125N_85]
    by_cases h : v2 ≤ v9
    · rw [if_pos h] at hi ⊢
      by_cases h : v5 = 0
      · rw [if_pos h] at hi ⊢
        exact hi
      · rw [if_neg h] at hi ⊢
        exact hi
    · rw [if_neg h] at hi ⊢
      exact ih _ _ _ _ _ hi
def x125N (p : Nat → Nat) (v1 : Int32) (v2 : Int32) (v3 : Int32) (v4 : Int32) (v5 : Int32) (J : Nat → Nat → Int32) : Int32 × (Nat → Nat → Int32) := if (J (p 31) 1) = 0 then (Int32.ofInt (-1), J)
  else if (x111 p v1 J) = 0 then (Int32.ofInt (-1), J)
    else if v2 < (Int32.ofInt 1) then (Int32.ofInt (-1), J)
      else if (Int32.ofInt 20) < v2 then (Int32.ofInt (-1), J)
        else if v3 < (Int32.ofInt 1) then (Int32.ofInt (-1), J)
          else if v3 ≤ (Int32.ofInt 100) then if v4 < 0 then (Int32.ofInt (-1), J)
              else if (Int32.ofInt 100) < v4 then (Int32.ofInt (-1), J)
                else if v5 < 0 then (Int32.ofInt (-1), J)
                  else if v5 ≤ (Int32.ofInt 1) then (x125N_85 p v1 v2 v3 v4 v5 v2.toNatClampNeg (Int32.ofInt 0) (Int32.ofInt 0) (J (p 31) 6) (Int32.ofInt 0) J)
                    else (Int32.ofInt (-1), J)
            else (Int32.ofInt (-1), J)
theorem xt125N {X : nt_X} {d : Nat} {M : nt_M} {o : Option Value × nt_M} {p : Nat → Nat} {v1 : Int32} {v2 : Int32} {v3 : Int32} {v4 : Int32} {v5 : Int32} {J : Nat → Nat → Int32} (hp : xs_P M p) (hn : xs_Q M (fun i => p (31 + i))) (hm : xs_Q M (fun i => p (48 + i))) (hk : xs_N M (fun i => p (48 + i))) (h0 : v1 < 0) (k : nt_ev X d 125 [.ref (p 16), .int v1, .int v2, .int v3, .int v4, .int v5] (me_w M J) o) : o = (some (.int ((x125N p v1 v2 v3 v4 v5 J).1)), me_w M ((x125N p v1 v2 v3 v4 v5 J).2)) := by
  have k : nt_rn X d 125 (0, [(0, .ref (p 16)), (1, .int v1), (2, .int v2), (3, .int v3), (4, .int v4), (5, .int v5)], [], me_w M J) o := k
  have k := ly_revb 1 (c' := (1, [(0, .ref (p 16)), (1, .int v1), (2, .int v2), (3, .int v3), (4, .int v4), (5, .int v5)], [.ref (p 16)], me_w M J)) rfl k
  have k := lz_get (a := (p 16)) (g := 1007) (M := me_w M J) (v := .ref (p 31)) rfl (nt_gfR rfl (hp.1 (16, 7, 31) (by decide))) k
  have k := lz_get (a := (p 31)) (g := 601) (M := me_w M J) (v := .int (J (p 31) 1)) rfl (congrArg Value.int (rfl)) k
  have k := ly_revb 1 (c' := (if (J (p 31) 1) = 0 then 40 else 10, [(0, .ref (p 16)), (1, .int v1), (2, .int v2), (3, .int v3), (4, .int v4), (5, .int v5)], [], me_w M J)) rfl k
  by_cases h7 : (J (p 31) 1) = 0
  · rw [if_pos h7] at k
    have k := ly_revb 1 (c' := (41, [(0, .ref (p 16)), (1, .int v1), (2, .int v2), (3, .int v3), (4, .int v4), (5, .int v5)], [.int (Int32.ofInt (-1))], me_w M J)) rfl k
    have k := lz_ri rfl (by decide) k
    rw [k, x125N, if_pos h7]
  · rw [if_neg h7] at k
    have k := ly_revb 2 (c' := (12, [(0, .ref (p 16)), (1, .int v1), (2, .int v2), (3, .int v3), (4, .int v4), (5, .int v5)], [.int v1, .ref (p 16)], me_w M J)) rfl k
    obtain ⟨d1, o1, ed, kc, k⟩ := lz_c (g := 111) (q := 1) (vs := [.ref (p 16), .int v1]) (rest := []) rfl rfl (by decide) (Or.inr (Or.inl ⟨_, rfl, rfl⟩)) rfl k
    have e1 := xt111 hp kc
    subst e1
    have k : nt_rn X _ 125 (15, [(0, .ref (p 16)), (1, .int v1), (2, .int v2), (3, .int v3), (4, .int v4), (5, .int v5)], [.int (x111 p v1 J)], me_w M J) _ := k
    have k := ly_revb 1 (c' := (if (x111 p v1 J) = 0 then 40 else 18, [(0, .ref (p 16)), (1, .int v1), (2, .int v2), (3, .int v3), (4, .int v4), (5, .int v5)], [], me_w M J)) rfl k
    by_cases h15 : (x111 p v1 J) = 0
    · rw [if_pos h15] at k
      have k := ly_revb 1 (c' := (41, [(0, .ref (p 16)), (1, .int v1), (2, .int v2), (3, .int v3), (4, .int v4), (5, .int v5)], [.int (Int32.ofInt (-1))], me_w M J)) rfl k
      have k := lz_ri rfl (by decide) k
      rw [k, x125N, if_neg h7, if_pos h15]
    · rw [if_neg h15] at k
      have k := ly_revb 3 (c' := (if v2 < (Int32.ofInt 1) then 40 else 23, [(0, .ref (p 16)), (1, .int v1), (2, .int v2), (3, .int v3), (4, .int v4), (5, .int v5)], [], me_w M J)) rfl k
      by_cases h20 : v2 < (Int32.ofInt 1)
      · rw [if_pos h20] at k
        have k := ly_revb 1 (c' := (41, [(0, .ref (p 16)), (1, .int v1), (2, .int v2), (3, .int v3), (4, .int v4), (5, .int v5)], [.int (Int32.ofInt (-1))], me_w M J)) rfl k
        have k := lz_ri rfl (by decide) k
        rw [k, x125N, if_neg h7, if_neg h15, if_pos h20]
      · rw [if_neg h20] at k
        have k := ly_revb 3 (c' := (if (Int32.ofInt 20) < v2 then 40 else 29, [(0, .ref (p 16)), (1, .int v1), (2, .int v2), (3, .int v3), (4, .int v4), (5, .int v5)], [], me_w M J)) rfl k
        by_cases h26 : (Int32.ofInt 20) < v2
        · rw [if_pos h26] at k
          have k := ly_revb 1 (c' := (41, [(0, .ref (p 16)), (1, .int v1), (2, .int v2), (3, .int v3), (4, .int v4), (5, .int v5)], [.int (Int32.ofInt (-1))], me_w M J)) rfl k
          have k := lz_ri rfl (by decide) k
          rw [k, x125N, if_neg h7, if_neg h15, if_neg h20, if_pos h26]
        · rw [if_neg h26] at k
          have k := ly_revb 3 (c' := (if v3 < (Int32.ofInt 1) then 40 else 34, [(0, .ref (p 16)), (1, .int v1), (2, .int v2), (3, .int v3), (4, .int v4), (5, .int v5)], [], me_w M J)) rfl k
          by_cases h31 : v3 < (Int32.ofInt 1)
          · rw [if_pos h31] at k
            have k := ly_revb 1 (c' := (41, [(0, .ref (p 16)), (1, .int v1), (2, .int v2), (3, .int v3), (4, .int v4), (5, .int v5)], [.int (Int32.ofInt (-1))], me_w M J)) rfl k
            have k := lz_ri rfl (by decide) k
            rw [k, x125N, if_neg h7, if_neg h15, if_neg h20, if_neg h26, if_pos h31]
          · rw [if_neg h31] at k
            have k := ly_revb 3 (c' := (if v3 ≤ (Int32.ofInt 100) then 42 else 40, [(0, .ref (p 16)), (1, .int v1), (2, .int v2), (3, .int v3), (4, .int v4), (5, .int v5)], [], me_w M J)) rfl k
            by_cases h37 : v3 ≤ (Int32.ofInt 100)
            · rw [if_pos h37] at k
              have k := ly_revb 2 (c' := (if v4 < 0 then 65 else 47, [(0, .ref (p 16)), (1, .int v1), (2, .int v2), (3, .int v3), (4, .int v4), (5, .int v5)], [], me_w M J)) rfl k
              by_cases h44 : v4 < 0
              · rw [if_pos h44] at k
                have k := ly_revb 1 (c' := (66, [(0, .ref (p 16)), (1, .int v1), (2, .int v2), (3, .int v3), (4, .int v4), (5, .int v5)], [.int (Int32.ofInt (-1))], me_w M J)) rfl k
                have k := lz_ri rfl (by decide) k
                rw [k, x125N, if_neg h7, if_neg h15, if_neg h20, if_neg h26, if_neg h31, if_pos h37, if_pos h44]
              · rw [if_neg h44] at k
                have k := ly_revb 3 (c' := (if (Int32.ofInt 100) < v4 then 65 else 54, [(0, .ref (p 16)), (1, .int v1), (2, .int v2), (3, .int v3), (4, .int v4), (5, .int v5)], [], me_w M J)) rfl k
                by_cases h51 : (Int32.ofInt 100) < v4
                · rw [if_pos h51] at k
                  have k := ly_revb 1 (c' := (66, [(0, .ref (p 16)), (1, .int v1), (2, .int v2), (3, .int v3), (4, .int v4), (5, .int v5)], [.int (Int32.ofInt (-1))], me_w M J)) rfl k
                  have k := lz_ri rfl (by decide) k
                  rw [k, x125N, if_neg h7, if_neg h15, if_neg h20, if_neg h26, if_neg h31, if_pos h37, if_neg h44, if_pos h51]
                · rw [if_neg h51] at k
                  have k := ly_revb 2 (c' := (if v5 < 0 then 65 else 59, [(0, .ref (p 16)), (1, .int v1), (2, .int v2), (3, .int v3), (4, .int v4), (5, .int v5)], [], me_w M J)) rfl k
                  by_cases h56 : v5 < 0
                  · rw [if_pos h56] at k
                    have k := ly_revb 1 (c' := (66, [(0, .ref (p 16)), (1, .int v1), (2, .int v2), (3, .int v3), (4, .int v4), (5, .int v5)], [.int (Int32.ofInt (-1))], me_w M J)) rfl k
                    have k := lz_ri rfl (by decide) k
                    rw [k, x125N, if_neg h7, if_neg h15, if_neg h20, if_neg h26, if_neg h31, if_pos h37, if_neg h44, if_neg h51, if_pos h56]
                  · rw [if_neg h56] at k
                    have k := ly_revb 3 (c' := (if v5 ≤ (Int32.ofInt 1) then 67 else 65, [(0, .ref (p 16)), (1, .int v1), (2, .int v2), (3, .int v3), (4, .int v4), (5, .int v5)], [], me_w M J)) rfl k
                    by_cases h62 : v5 ≤ (Int32.ofInt 1)
                    · rw [if_pos h62] at k
                      have k := ly_revb 5 (c' := (74, [(7, .int (Int32.ofInt 0)), (6, .int (Int32.ofInt 0)), (0, .ref (p 16)), (1, .int v1), (2, .int v2), (3, .int v3), (4, .int v4), (5, .int v5)], [.ref (p 16)], me_w M J)) rfl k
                      have k := lz_get (a := (p 16)) (g := 1007) (M := me_w M J) (v := .ref (p 31)) rfl (nt_gfR rfl (hp.1 (16, 7, 31) (by decide))) k
                      have k := lz_get (a := (p 31)) (g := 606) (M := me_w M J) (v := .int (J (p 31) 6)) rfl (congrArg Value.int (rfl)) k
                      have k := ly_revb 3 (c' := (85, [(9, .int (Int32.ofInt 0)), (8, .int (J (p 31) 6)), (7, .int (Int32.ofInt 0)), (6, .int (Int32.ofInt 0)), (0, .ref (p 16)), (1, .int v1), (2, .int v2), (3, .int v3), (4, .int v4), (5, .int v5)], [], me_w M J)) rfl k
                      have k := nt_rn_w (a := [(9, .int (Int32.ofInt 0)), (8, .int (J (p 31) 6)), (7, .int (Int32.ofInt 0)), (6, .int (Int32.ofInt 0)), (0, .ref (p 16)), (1, .int v1), (2, .int v2), (3, .int v3), (4, .int v4), (5, .int v5)]) (b := [(0, .ref (p 16)), (1, .int v1), (2, .int v2), (3, .int v3), (4, .int v4), (5, .int v5), (6, .int (Int32.ofInt 0)), (7, .int (Int32.ofInt 0)), (8, .int (J (p 31) 6)), (9, .int (Int32.ofInt 0)), (10, .int (Int32.ofInt 0))]) ⟨rfl, rfl, rfl, rfl, rfl, rfl, rfl, rfl, rfl, rfl, trivial⟩ rfl k
                      have k := xt125N_85 hp hn hm hk h0  v2.toNatClampNeg (Int32.ofInt 0) (Int32.ofInt 0) (J (p 31) 6) (Int32.ofInt 0) (Int32.ofInt 0) J (lx_beg (by decide)) k
                      rw [k, x125N, if_neg h7, if_neg h15, if_neg h20, if_neg h26, if_neg h31, if_pos h37, if_neg h44, if_neg h51, if_neg h56, if_pos h62]
                    · rw [if_neg h62] at k
                      have k := ly_revb 1 (c' := (66, [(0, .ref (p 16)), (1, .int v1), (2, .int v2), (3, .int v3), (4, .int v4), (5, .int v5)], [.int (Int32.ofInt (-1))], me_w M J)) rfl k
                      have k := lz_ri rfl (by decide) k
                      rw [k, x125N, if_neg h7, if_neg h15, if_neg h20, if_neg h26, if_neg h31, if_pos h37, if_neg h44, if_neg h51, if_neg h56, if_neg h62]
            · rw [if_neg h37] at k
              have k := ly_revb 1 (c' := (41, [(0, .ref (p 16)), (1, .int v1), (2, .int v2), (3, .int v3), (4, .int v4), (5, .int v5)], [.int (Int32.ofInt (-1))], me_w M J)) rfl k
              have k := lz_ri rfl (by decide) k
              rw [k, x125N, if_neg h7, if_neg h15, if_neg h20, if_neg h26, if_neg h31, if_neg h37]
theorem x125N_85_frJ {p : Nat → Nat} {v1 : Int32} {v2 : Int32} {v3 : Int32} {v4 : Int32} {v5 : Int32} {b : Nat} : ∀ (c : Nat) (v6 : Int32) (v7 : Int32) (v8 : Int32) (v9 : Int32) (J : Nat → Nat → Int32), b ≠ p 48 → b ≠ p 49 → b ≠ p 50 → b ≠ p 51 → b ≠ p 52 → b ≠ p 53 → b ≠ p 54 → b ≠ p 55 → b ≠ p 56 → b ≠ p 57 → b ≠ p 58 → b ≠ p 59 → b ≠ p 60 → b ≠ p 61 → b ≠ p 62 → b ≠ p 63 → b ≠ p 64 → (x125N_85 p v1 v2 v3 v4 v5 c v6 v7 v8 v9 J).2 b = J b := by
  intro c
  induction c with
  | zero =>
    intro v6 v7 v8 v9 J n0 n1 n2 n3 n4 n5 n6 n7 n8 n9 n10 n11 n12 n13 n14 n15 n16
    rw [x125N_85]
    by_cases h : v5 = 0
    · rw [if_pos h]
      all_goals first | (dsimp only; exact (show J b = J b from rfl)) | exact (show J b = J b from rfl)
    · rw [if_neg h]
      all_goals first | (dsimp only; exact (show J b = J b from rfl)) | exact (show J b = J b from rfl)
  | succ c ih =>
    intro v6 v7 v8 v9 J n0 n1 n2 n3 n4 n5 n6 n7 n8 n9 n10 n11 n12 n13 n14 n15 n16
    rw [x125N_85]
    by_cases h : v2 ≤ v9
    · rw [if_pos h]
      by_cases h : v5 = 0
      · rw [if_pos h]
        all_goals first | (dsimp only; exact (show J b = J b from rfl)) | exact (show J b = J b from rfl)
      · rw [if_neg h]
        all_goals first | (dsimp only; exact (show J b = J b from rfl)) | exact (show J b = J b from rfl)
    · rw [if_neg h]
      exact (ih _ _ _ _ _ n0 n1 n2 n3 n4 n5 n6 n7 n8 n9 n10 n11 n12 n13 n14 n15 n16).trans ((x125N_114_frJ _ _ _ n0 n10 n11 n12 n13 n15 n16).trans ((mu_o n0).trans (x80_frJ  n0 n1 n2 n3 n4 n5 n6 n7 n8 n9 n10 n11 n12 n13 n14 n15 n16)))
theorem x125N_frJ {p : Nat → Nat} {v1 : Int32} {v2 : Int32} {v3 : Int32} {v4 : Int32} {v5 : Int32} {J : Nat → Nat → Int32} {b : Nat} (n0 : b ≠ p 48) (n1 : b ≠ p 49) (n2 : b ≠ p 50) (n3 : b ≠ p 51) (n4 : b ≠ p 52) (n5 : b ≠ p 53) (n6 : b ≠ p 54) (n7 : b ≠ p 55) (n8 : b ≠ p 56) (n9 : b ≠ p 57) (n10 : b ≠ p 58) (n11 : b ≠ p 59) (n12 : b ≠ p 60) (n13 : b ≠ p 61) (n14 : b ≠ p 62) (n15 : b ≠ p 63) (n16 : b ≠ p 64) : (x125N p v1 v2 v3 v4 v5 J).2 b = J b := by
  unfold x125N
  by_cases h : (J (p 31) 1) = 0
  · rw [if_pos h]
    all_goals first | (dsimp only; exact (show J b = J b from rfl)) | exact (show J b = J b from rfl)
  · rw [if_neg h]
    by_cases h : (x111 p v1 J) = 0
    · rw [if_pos h]
      all_goals first | (dsimp only; exact (show J b = J b from rfl)) | exact (show J b = J b from rfl)
    · rw [if_neg h]
      by_cases h : v2 < (Int32.ofInt 1)
      · rw [if_pos h]
        all_goals first | (dsimp only; exact (show J b = J b from rfl)) | exact (show J b = J b from rfl)
      · rw [if_neg h]
        by_cases h : (Int32.ofInt 20) < v2
        · rw [if_pos h]
          all_goals first | (dsimp only; exact (show J b = J b from rfl)) | exact (show J b = J b from rfl)
        · rw [if_neg h]
          by_cases h : v3 < (Int32.ofInt 1)
          · rw [if_pos h]
            all_goals first | (dsimp only; exact (show J b = J b from rfl)) | exact (show J b = J b from rfl)
          · rw [if_neg h]
            by_cases h : v3 ≤ (Int32.ofInt 100)
            · rw [if_pos h]
              by_cases h : v4 < 0
              · rw [if_pos h]
                all_goals first | (dsimp only; exact (show J b = J b from rfl)) | exact (show J b = J b from rfl)
              · rw [if_neg h]
                by_cases h : (Int32.ofInt 100) < v4
                · rw [if_pos h]
                  all_goals first | (dsimp only; exact (show J b = J b from rfl)) | exact (show J b = J b from rfl)
                · rw [if_neg h]
                  by_cases h : v5 < 0
                  · rw [if_pos h]
                    all_goals first | (dsimp only; exact (show J b = J b from rfl)) | exact (show J b = J b from rfl)
                  · rw [if_neg h]
                    by_cases h : v5 ≤ (Int32.ofInt 1)
                    · rw [if_pos h]
                      exact (x125N_85_frJ _ _ _ _ _ _ n0 n1 n2 n3 n4 n5 n6 n7 n8 n9 n10 n11 n12 n13 n14 n15 n16).trans (rfl)
                    · rw [if_neg h]
                      all_goals first | (dsimp only; exact (show J b = J b from rfl)) | exact (show J b = J b from rfl)
            · rw [if_neg h]
              all_goals first | (dsimp only; exact (show J b = J b from rfl)) | exact (show J b = J b from rfl)
