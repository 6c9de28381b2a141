/-! whose ship is whose -/
/-! $State.heaviestLoser -/
def x77_7 (q : Nat → Nat) (v1 : Int32) (J : Nat → Nat → Int32) : Nat → Int32 → Int32 → Int32 → Int32
  | 0, v2, v3, v4 => v2
  | c + 1, v2, v3, v4 => if (J (q 1) 1) ≤ v4 then v2
    else if (x75 q v1 v4 J) ≤ v3 then (x77_7 q v1 J c v2 v3 (v4 + (Int32.ofInt 1)))
      else (x77_7 q v1 J c v4 (x75 q v1 v4 J) (v4 + (Int32.ofInt 1)))
theorem xt77_7 {X : nt_X} {d : Nat} {M : nt_M} {o : Option Value × nt_M} {q : Nat → Nat} {v1 : Int32} {J : Nat → Nat → Int32} (hq : xs_Q M q) : ∀ (c : Nat) (v2 : Int32) (v3 : Int32) (v4 : Int32) (v5 : Int32), (J (q 1) 1).toInt - v4.toInt ≤ c → nt_rn X d 77 (7, [(0, .ref (q 0)), (1, .int v1), (2, .int v2), (3, .int v3), (4, .int v4), (5, .int v5)], [], me_w M J) o → o = (some (.int (x77_7 q v1 J c v2 v3 v4)), me_w M J) := by
  intro c
  induction c with
  | zero =>
    intro v2 v3 v4 v5 hc k
    have k := ly_revb 2 (c' := (10, [(0, .ref (q 0)), (1, .int v1), (2, .int v2), (3, .int v3), (4, .int v4), (5, .int v5)], [.ref (q 0), .int v4], me_w M J)) rfl k
    have k := lz_get (a := (q 0)) (g := 600) (M := me_w M J) (v := .ref (q 1)) rfl (nt_gfR rfl (hq.1 (0, 0, 1) (by decide))) k
    have k := lz_get (a := (q 1)) (g := 801) (M := me_w M J) (v := .int (J (q 1) 1)) rfl (congrArg Value.int (rfl)) k
    have k := ly_revb 1 (c' := (if (J (q 1) 1) ≤ v4 then 46 else 19, [(0, .ref (q 0)), (1, .int v1), (2, .int v2), (3, .int v3), (4, .int v4), (5, .int v5)], [], me_w M J)) rfl k
    have h16 : (J (q 1) 1) ≤ v4 := lx_end hc
    rw [if_pos h16] at k
    have k := ly_revb 1 (c' := (47, [(0, .ref (q 0)), (1, .int v1), (2, .int v2), (3, .int v3), (4, .int v4), (5, .int v5)], [.int v2], me_w M J)) rfl k
    have k := lz_ri rfl (by decide) k
    rw [k, x77_7]
  | succ c ih =>
    intro v2 v3 v4 v5 hc k
    have k := ly_revb 2 (c' := (10, [(0, .ref (q 0)), (1, .int v1), (2, .int v2), (3, .int v3), (4, .int v4), (5, .int v5)], [.ref (q 0), .int v4], me_w M J)) rfl k
    have k := lz_get (a := (q 0)) (g := 600) (M := me_w M J) (v := .ref (q 1)) rfl (nt_gfR rfl (hq.1 (0, 0, 1) (by decide))) k
    have k := lz_get (a := (q 1)) (g := 801) (M := me_w M J) (v := .int (J (q 1) 1)) rfl (congrArg Value.int (rfl)) k
    have k := ly_revb 1 (c' := (if (J (q 1) 1) ≤ v4 then 46 else 19, [(0, .ref (q 0)), (1, .int v1), (2, .int v2), (3, .int v3), (4, .int v4), (5, .int v5)], [], me_w M J)) rfl k
    by_cases h16 : (J (q 1) 1) ≤ v4
    · rw [if_pos h16] at k
      have k := ly_revb 1 (c' := (47, [(0, .ref (q 0)), (1, .int v1), (2, .int v2), (3, .int v3), (4, .int v4), (5, .int v5)], [.int v2], me_w M J)) rfl k
      have k := lz_ri rfl (by decide) k
      rw [k, x77_7, if_pos h16]
    · rw [if_neg h16] at k
      have k := ly_revb 3 (c' := (23, [(0, .ref (q 0)), (1, .int v1), (2, .int v2), (3, .int v3), (4, .int v4), (5, .int v5)], [.int v4, .int v1, .ref (q 0)], me_w M J)) rfl k
      obtain ⟨d1, o1, ed, kc, k⟩ := lz_c (g := 75) (q := 1) (vs := [.ref (q 0), .int v1, .int v4]) (rest := []) rfl rfl (by decide) (Or.inr (Or.inl ⟨_, rfl, rfl⟩)) rfl k
      have e1 := xt75 hq kc
      subst e1
      have k : nt_rn X _ 77 (26, [(0, .ref (q 0)), (1, .int v1), (2, .int v2), (3, .int v3), (4, .int v4), (5, .int v5)], [.int (x75 q v1 v4 J)], me_w M J) _ := k
      have k := ly_revb 4 (c' := (if (x75 q v1 v4 J) ≤ v3 then 40 else 34, [(5, .int (x75 q v1 v4 J)), (0, .ref (q 0)), (1, .int v1), (2, .int v2), (3, .int v3), (4, .int v4)], [], me_w M J)) rfl k
      by_cases h31 : (x75 q v1 v4 J) ≤ v3
      · rw [if_pos h31] at k
        have k := ly_revb 2 (c' := (7, [(4, .int (v4 + (Int32.ofInt 1))), (5, .int (x75 q v1 v4 J)), (0, .ref (q 0)), (1, .int v1), (2, .int v2), (3, .int v3)], [], me_w M J)) rfl k
        have k := nt_rn_w (a := [(4, .int (v4 + (Int32.ofInt 1))), (5, .int (x75 q v1 v4 J)), (0, .ref (q 0)), (1, .int v1), (2, .int v2), (3, .int v3)]) (b := [(0, .ref (q 0)), (1, .int v1), (2, .int v2), (3, .int v3), (4, .int (v4 + (Int32.ofInt 1))), (5, .int (x75 q v1 v4 J))]) ⟨rfl, rfl, rfl, rfl, rfl, rfl, trivial⟩ rfl k
        have k := ih v2 v3 (v4 + (Int32.ofInt 1)) (x75 q v1 v4 J) (lx_dec h16 hc) k
        rw [k, x77_7, if_neg h16, if_pos h31]
      · rw [if_neg h31] at k
        have k := ly_revb 6 (c' := (7, [(4, .int (v4 + (Int32.ofInt 1))), (2, .int v4), (3, .int (x75 q v1 v4 J)), (5, .int (x75 q v1 v4 J)), (0, .ref (q 0)), (1, .int v1)], [], me_w M J)) rfl k
        have k := nt_rn_w (a := [(4, .int (v4 + (Int32.ofInt 1))), (2, .int v4), (3, .int (x75 q v1 v4 J)), (5, .int (x75 q v1 v4 J)), (0, .ref (q 0)), (1, .int v1)]) (b := [(0, .ref (q 0)), (1, .int v1), (2, .int v4), (3, .int (x75 q v1 v4 J)), (4, .int (v4 + (Int32.ofInt 1))), (5, .int (x75 q v1 v4 J))]) ⟨rfl, rfl, rfl, rfl, rfl, rfl, trivial⟩ rfl k
        have k := ih v4 (x75 q v1 v4 J) (v4 + (Int32.ofInt 1)) (x75 q v1 v4 J) (lx_dec h16 hc) k
        rw [k, x77_7, if_neg h16, if_neg h31]
theorem x77_7_rule {q : Nat → Nat} {v1 : Int32} {J : Nat → Nat → Int32} {I : Nat → Int32 → Int32 → Int32 → Prop} {Q : Int32 → Prop} (h0 : ∀ (v2 : Int32) (v3 : Int32) (v4 : Int32), I 0 v2 v3 v4 → Q v2) (h1 : ∀ (c : Nat) (v2 : Int32) (v3 : Int32) (v4 : Int32), I (c + 1) v2 v3 v4 →
    if (J (q 1) 1) ≤ v4 then (Q v2)
    else if (x75 q v1 v4 J) ≤ v3 then (I c v2 v3 (v4 + (Int32.ofInt 1)))
      else (I c v4 (x75 q v1 v4 J) (v4 + (Int32.ofInt 1)))) : ∀ (c : Nat) (v2 : Int32) (v3 : Int32) (v4 : Int32), I c v2 v3 v4 → Q (x77_7 q v1 J c v2 v3 v4) := by
  intro c
  induction c with
  | zero =>
    intro v2 v3 v4 hi
    rw [x77_7]
    exact h0 v2 v3 v4 hi
  | succ c ih =>
    intro v2 v3 v4 hi
    have hi := h1 c v2 v3 v4 hi
    rw [x77_7]
    by_cases h : (J (q 1) 1) ≤ v4
    · rw [if_pos h] at hi ⊢
      exact hi
    · rw [if_neg h] at hi ⊢
      by_cases h : (x75 q v1 v4 J) ≤ v3
      · rw [if_pos h] at hi ⊢
        exact ih _ _ _ hi
      · rw [if_neg h] at hi ⊢
        exact ih _ _ _ hi
def x77 (q : Nat → Nat) (v1 : Int32) (J : Nat → Nat → Int32) : Int32 := (x77_7 q v1 J ((J (q 1) 1).toNatClampNeg) (Int32.ofInt (-1)) (Int32.ofInt 0) (Int32.ofInt 0))
theorem xt77 {X : nt_X} {d : Nat} {M : nt_M} {o : Option Value × nt_M} {q : Nat → Nat} {v1 : Int32} {J : Nat → Nat → Int32} (hq : xs_Q M q) (k : nt_ev X d 77 [.ref (q 0), .int v1] (me_w M J) o) : o = (some (.int (x77 q v1 J)), me_w M J) := by
  have k : nt_rn X d 77 (0, [(0, .ref (q 0)), (1, .int v1)], [], me_w M J) o := k
  have k := ly_revb 6 (c' := (7, [(4, .int (Int32.ofInt 0)), (3, .int (Int32.ofInt 0)), (2, .int (Int32.ofInt (-1))), (0, .ref (q 0)), (1, .int v1)], [], me_w M J)) rfl k
  have k := nt_rn_w (a := [(4, .int (Int32.ofInt 0)), (3, .int (Int32.ofInt 0)), (2, .int (Int32.ofInt (-1))), (0, .ref (q 0)), (1, .int v1)]) (b := [(0, .ref (q 0)), (1, .int v1), (2, .int (Int32.ofInt (-1))), (3, .int (Int32.ofInt 0)), (4, .int (Int32.ofInt 0)), (5, .int (Int32.ofInt 0))]) ⟨rfl, rfl, rfl, rfl, rfl, trivial⟩ rfl k
  have k := xt77_7 hq  ((J (q 1) 1).toNatClampNeg) (Int32.ofInt (-1)) (Int32.ofInt 0) (Int32.ofInt 0) (Int32.ofInt 0) (lx_beg (by decide)) k
  rw [k, x77]
/-! $State.keelOwner -/
def x78_2 (q : Nat → Nat) (v1 : Int32) (J : Nat → Nat → Int32) : Nat → Int32 → Int32
  | 0, v2 => (Int32.ofInt (-1))
  | c + 1, v2 => if (J (q 1) 2) ≤ v2 then (Int32.ofInt (-1))
    else if (J (q 14) v2.toNatClampNeg) = v1 then if (J (q 13) v2.toNatClampNeg) ≤ 0 then (x78_2 q v1 J c (v2 + (Int32.ofInt 1)))
        else if (J (q 3) v2.toNatClampNeg) = 0 then (J (q 5) v2.toNatClampNeg)
          else (x78_2 q v1 J c (v2 + (Int32.ofInt 1)))
      else (x78_2 q v1 J c (v2 + (Int32.ofInt 1)))
theorem xt78_2 {X : nt_X} {d : Nat} {M : nt_M} {o : Option Value × nt_M} {q : Nat → Nat} {v1 : Int32} {J : Nat → Nat → Int32} (hq : xs_Q M q) : ∀ (c : Nat) (v2 : Int32), (J (q 1) 2).toInt - v2.toInt ≤ c → nt_rn X d 78 (2, [(0, .ref (q 0)), (1, .int v1), (2, .int v2)], [], me_w M J) o → o = (some (.int (x78_2 q v1 J c v2)), me_w M J) := by
  intro c
  induction c with
  | zero =>
    intro v2 hc k
    have k := ly_revb 2 (c' := (4, [(0, .ref (q 0)), (1, .int v1), (2, .int v2)], [.ref (q 0), .int v2], me_w M J)) rfl k
    have k := lz_get (a := (q 0)) (g := 600) (M := me_w M J) (v := .ref (q 1)) rfl (nt_gfR rfl (hq.1 (0, 0, 1) (by decide))) k
    have k := lz_get (a := (q 1)) (g := 802) (M := me_w M J) (v := .int (J (q 1) 2)) rfl (congrArg Value.int (rfl)) k
    have k := ly_revb 1 (c' := (if (J (q 1) 2) ≤ v2 then 60 else 13, [(0, .ref (q 0)), (1, .int v1), (2, .int v2)], [], me_w M J)) rfl k
    have h10 : (J (q 1) 2) ≤ v2 := lx_end hc
    rw [if_pos h10] at k
    have k := ly_revb 1 (c' := (61, [(0, .ref (q 0)), (1, .int v1), (2, .int v2)], [.int (Int32.ofInt (-1))], me_w M J)) rfl k
    have k := lz_ri rfl (by decide) k
    rw [k, x78_2]
  | succ c ih =>
    intro v2 hc k
    have k := ly_revb 2 (c' := (4, [(0, .ref (q 0)), (1, .int v1), (2, .int v2)], [.ref (q 0), .int v2], me_w M J)) rfl k
    have k := lz_get (a := (q 0)) (g := 600) (M := me_w M J) (v := .ref (q 1)) rfl (nt_gfR rfl (hq.1 (0, 0, 1) (by decide))) k
    have k := lz_get (a := (q 1)) (g := 802) (M := me_w M J) (v := .int (J (q 1) 2)) rfl (congrArg Value.int (rfl)) k
    have k := ly_revb 1 (c' := (if (J (q 1) 2) ≤ v2 then 60 else 13, [(0, .ref (q 0)), (1, .int v1), (2, .int v2)], [], me_w M J)) rfl k
    by_cases h10 : (J (q 1) 2) ≤ v2
    · rw [if_pos h10] at k
      have k := ly_revb 1 (c' := (61, [(0, .ref (q 0)), (1, .int v1), (2, .int v2)], [.int (Int32.ofInt (-1))], me_w M J)) rfl k
      have k := lz_ri rfl (by decide) k
      rw [k, x78_2, if_pos h10]
    · rw [if_neg h10] at k
      have k := ly_revb 1 (c' := (14, [(0, .ref (q 0)), (1, .int v1), (2, .int v2)], [.ref (q 0)], me_w M J)) rfl k
      have k := lz_get (a := (q 0)) (g := 611) (M := me_w M J) (v := .ref (q 14)) rfl (nt_gfR rfl (hq.1 (0, 11, 14) (by decide))) k
      have k := ly_revb 1 (c' := (18, [(0, .ref (q 0)), (1, .int v1), (2, .int v2)], [.int v2, .ref (q 14)], me_w M J)) rfl k
      have k := mx_iald (v := J (q 14) v2.toNatClampNeg) rfl (hq.2.2.1 14 (by omega)) (rfl) k
      have k := ly_revb 2 (c' := (if (J (q 14) v2.toNatClampNeg) = v1 then 23 else 54, [(0, .ref (q 0)), (1, .int v1), (2, .int v2)], [], me_w M J)) rfl k
      by_cases h20 : (J (q 14) v2.toNatClampNeg) = v1
      · rw [if_pos h20] at k
        have k := ly_revb 1 (c' := (24, [(0, .ref (q 0)), (1, .int v1), (2, .int v2)], [.ref (q 0)], me_w M J)) rfl k
        have k := lz_get (a := (q 0)) (g := 610) (M := me_w M J) (v := .ref (q 13)) rfl (nt_gfR rfl (hq.1 (0, 10, 13) (by decide))) k
        have k := ly_revb 1 (c' := (28, [(0, .ref (q 0)), (1, .int v1), (2, .int v2)], [.int v2, .ref (q 13)], me_w M J)) rfl k
        have k := mx_iald (v := J (q 13) v2.toNatClampNeg) rfl (hq.2.2.1 13 (by omega)) (rfl) k
        have k := ly_revb 1 (c' := (if (J (q 13) v2.toNatClampNeg) ≤ 0 then 54 else 32, [(0, .ref (q 0)), (1, .int v1), (2, .int v2)], [], me_w M J)) rfl k
        by_cases h29 : (J (q 13) v2.toNatClampNeg) ≤ 0
        · rw [if_pos h29] at k
          have k := ly_revb 2 (c' := (2, [(2, .int (v2 + (Int32.ofInt 1))), (0, .ref (q 0)), (1, .int v1)], [], me_w M J)) rfl k
          have k := nt_rn_w (a := [(2, .int (v2 + (Int32.ofInt 1))), (0, .ref (q 0)), (1, .int v1)]) (b := [(0, .ref (q 0)), (1, .int v1), (2, .int (v2 + (Int32.ofInt 1)))]) ⟨rfl, rfl, rfl, trivial⟩ rfl k
          have k := ih (v2 + (Int32.ofInt 1)) (lx_dec h10 hc) k
          rw [k, x78_2, if_neg h10, if_pos h20, if_pos h29]
        · rw [if_neg h29] at k
          have k := ly_revb 1 (c' := (33, [(0, .ref (q 0)), (1, .int v1), (2, .int v2)], [.ref (q 0)], me_w M J)) rfl k
          have k := lz_get (a := (q 0)) (g := 600) (M := me_w M J) (v := .ref (q 1)) rfl (nt_gfR rfl (hq.1 (0, 0, 1) (by decide))) k
          have k := lz_get (a := (q 1)) (g := 806) (M := me_w M J) (v := .ref (q 3)) rfl (nt_gfR rfl (hq.1 (1, 6, 3) (by decide))) k
          have k := ly_revb 1 (c' := (40, [(0, .ref (q 0)), (1, .int v1), (2, .int v2)], [.int v2, .ref (q 3)], me_w M J)) rfl k
          have k := mx_iald (v := J (q 3) v2.toNatClampNeg) rfl (hq.2.2.1 3 (by omega)) (rfl) k
          have k := ly_revb 1 (c' := (if (J (q 3) v2.toNatClampNeg) = 0 then 44 else 54, [(0, .ref (q 0)), (1, .int v1), (2, .int v2)], [], me_w M J)) rfl k
          by_cases h41 : (J (q 3) v2.toNatClampNeg) = 0
          · rw [if_pos h41] at k
            have k := ly_revb 1 (c' := (45, [(0, .ref (q 0)), (1, .int v1), (2, .int v2)], [.ref (q 0)], me_w M J)) rfl k
            have k := lz_get (a := (q 0)) (g := 600) (M := me_w M J) (v := .ref (q 1)) rfl (nt_gfR rfl (hq.1 (0, 0, 1) (by decide))) k
            have k := lz_get (a := (q 1)) (g := 808) (M := me_w M J) (v := .ref (q 5)) rfl (nt_gfR rfl (hq.1 (1, 8, 5) (by decide))) k
            have k := ly_revb 1 (c' := (52, [(0, .ref (q 0)), (1, .int v1), (2, .int v2)], [.int v2, .ref (q 5)], me_w M J)) rfl k
            have k := mx_iald (v := J (q 5) v2.toNatClampNeg) rfl (hq.2.2.1 5 (by omega)) (rfl) k
            have k := lz_ri rfl (by decide) k
            rw [k, x78_2, if_neg h10, if_pos h20, if_neg h29, if_pos h41]
          · rw [if_neg h41] at k
            have k := ly_revb 2 (c' := (2, [(2, .int (v2 + (Int32.ofInt 1))), (0, .ref (q 0)), (1, .int v1)], [], me_w M J)) rfl k
            have k := nt_rn_w (a := [(2, .int (v2 + (Int32.ofInt 1))), (0, .ref (q 0)), (1, .int v1)]) (b := [(0, .ref (q 0)), (1, .int v1), (2, .int (v2 + (Int32.ofInt 1)))]) ⟨rfl, rfl, rfl, trivial⟩ rfl k
            have k := ih (v2 + (Int32.ofInt 1)) (lx_dec h10 hc) k
            rw [k, x78_2, if_neg h10, if_pos h20, if_neg h29, if_neg h41]
      · rw [if_neg h20] at k
        have k := ly_revb 2 (c' := (2, [(2, .int (v2 + (Int32.ofInt 1))), (0, .ref (q 0)), (1, .int v1)], [], me_w M J)) rfl k
        have k := nt_rn_w (a := [(2, .int (v2 + (Int32.ofInt 1))), (0, .ref (q 0)), (1, .int v1)]) (b := [(0, .ref (q 0)), (1, .int v1), (2, .int (v2 + (Int32.ofInt 1)))]) ⟨rfl, rfl, rfl, trivial⟩ rfl k
        have k := ih (v2 + (Int32.ofInt 1)) (lx_dec h10 hc) k
        rw [k, x78_2, if_neg h10, if_neg h20]
theorem x78_2_rule {q : Nat → Nat} {v1 : Int32} {J : Nat → Nat → Int32} {I : Nat → Int32 → Prop} {Q : Int32 → Prop} (h0 : ∀ (v2 : Int32), I 0 v2 → Q (Int32.ofInt (-1))) (h1 : ∀ (c : Nat) (v2 : Int32), I (c + 1) v2 →
    if (J (q 1) 2) ≤ v2 then (Q (Int32.ofInt (-1)))
    else if (J (q 14) v2.toNatClampNeg) = v1 then if (J (q 13) v2.toNatClampNeg) ≤ 0 then (I c (v2 + (Int32.ofInt 1)))
        else if (J (q 3) v2.toNatClampNeg) = 0 then (Q (J (q 5) v2.toNatClampNeg))
          else (I c (v2 + (Int32.ofInt 1)))
      else (I c (v2 + (Int32.ofInt 1)))) : ∀ (c : Nat) (v2 : Int32), I c v2 → Q (x78_2 q v1 J c v2) := by
  intro c
  induction c with
  | zero =>
    intro v2 hi
    rw [x78_2]
    exact h0 v2 hi
  | succ c ih =>
    intro v2 hi
    have hi := h1 c v2 hi
    rw [x78_2]
    by_cases h : (J (q 1) 2) ≤ v2
    · rw [if_pos h] at hi ⊢
      exact hi
    · rw [if_neg h] at hi ⊢
      by_cases h : (J (q 14) v2.toNatClampNeg) = v1
      · rw [if_pos h] at hi ⊢
        by_cases h : (J (q 13) v2.toNatClampNeg) ≤ 0
        · rw [if_pos h] at hi ⊢
          exact ih _ hi
        · rw [if_neg h] at hi ⊢
          by_cases h : (J (q 3) v2.toNatClampNeg) = 0
          · rw [if_pos h] at hi ⊢
            exact hi
          · rw [if_neg h] at hi ⊢
            exact ih _ hi
      · rw [if_neg h] at hi ⊢
        exact ih _ hi
def x78 (q : Nat → Nat) (v1 : Int32) (J : Nat → Nat → Int32) : Int32 := (x78_2 q v1 J ((J (q 1) 2).toNatClampNeg) (Int32.ofInt 0))
theorem xt78 {X : nt_X} {d : Nat} {M : nt_M} {o : Option Value × nt_M} {q : Nat → Nat} {v1 : Int32} {J : Nat → Nat → Int32} (hq : xs_Q M q) (k : nt_ev X d 78 [.ref (q 0), .int v1] (me_w M J) o) : o = (some (.int (x78 q v1 J)), me_w M J) := by
  have k : nt_rn X d 78 (0, [(0, .ref (q 0)), (1, .int v1)], [], me_w M J) o := k
  have k := ly_revb 2 (c' := (2, [(2, .int (Int32.ofInt 0)), (0, .ref (q 0)), (1, .int v1)], [], me_w M J)) rfl k
  have k := nt_rn_w (a := [(2, .int (Int32.ofInt 0)), (0, .ref (q 0)), (1, .int v1)]) (b := [(0, .ref (q 0)), (1, .int v1), (2, .int (Int32.ofInt 0))]) ⟨rfl, rfl, rfl, trivial⟩ rfl k
  have k := xt78_2 hq  ((J (q 1) 2).toNatClampNeg) (Int32.ofInt 0) (lx_beg (by decide)) k
  rw [k, x78]
/-! $State.identity -/
def x76 (q : Nat → Nat) (v1 : Int32) (v2 : Int32) (J : Nat → Nat → Int32) : Int32 := if v1 = (Int32.ofInt 2) then v2
  else if (J (q 10) v2.toNatClampNeg) = (Int32.ofInt 2) then (Int32.ofInt (-1))
    else if v1 = (Int32.ofInt 1) then (x77 q v2 J)
      else (x78 q v2 J)
theorem xt76 {X : nt_X} {d : Nat} {M : nt_M} {o : Option Value × nt_M} {q : Nat → Nat} {v1 : Int32} {v2 : Int32} {J : Nat → Nat → Int32} (hq : xs_Q M q) (k : nt_ev X d 76 [.ref (q 0), .int v1, .int v2] (me_w M J) o) : o = (some (.int (x76 q v1 v2 J)), me_w M J) := by
  have k : nt_rn X d 76 (0, [(0, .ref (q 0)), (1, .int v1), (2, .int v2)], [], me_w M J) o := k
  have k := ly_revb 3 (c' := (if v1 = (Int32.ofInt 2) then 5 else 7, [(0, .ref (q 0)), (1, .int v1), (2, .int v2)], [], me_w M J)) rfl k
  by_cases h2 : v1 = (Int32.ofInt 2)
  · rw [if_pos h2] at k
    have k := ly_revb 1 (c' := (6, [(0, .ref (q 0)), (1, .int v1), (2, .int v2)], [.int v2], me_w M J)) rfl k
    have k := lz_ri rfl (by decide) k
    rw [k, x76, if_pos h2]
  · rw [if_neg h2] at k
    have k := ly_revb 1 (c' := (8, [(0, .ref (q 0)), (1, .int v1), (2, .int v2)], [.ref (q 0)], me_w M J)) rfl k
    have k := lz_get (a := (q 0)) (g := 607) (M := me_w M J) (v := .ref (q 10)) rfl (nt_gfR rfl (hq.1 (0, 7, 10) (by decide))) k
    have k := ly_revb 1 (c' := (12, [(0, .ref (q 0)), (1, .int v1), (2, .int v2)], [.int v2, .ref (q 10)], me_w M J)) rfl k
    have k := mx_iald (v := J (q 10) v2.toNatClampNeg) rfl (hq.2.2.1 10 (by omega)) (rfl) k
    have k := ly_revb 2 (c' := (if (J (q 10) v2.toNatClampNeg) = (Int32.ofInt 2) then 17 else 19, [(0, .ref (q 0)), (1, .int v1), (2, .int v2)], [], me_w M J)) rfl k
    by_cases h14 : (J (q 10) v2.toNatClampNeg) = (Int32.ofInt 2)
    · rw [if_pos h14] at k
      have k := ly_revb 1 (c' := (18, [(0, .ref (q 0)), (1, .int v1), (2, .int v2)], [.int (Int32.ofInt (-1))], me_w M J)) rfl k
      have k := lz_ri rfl (by decide) k
      rw [k, x76, if_neg h2, if_pos h14]
    · rw [if_neg h14] at k
      have k := ly_revb 3 (c' := (if v1 = (Int32.ofInt 1) then 24 else 32, [(0, .ref (q 0)), (1, .int v1), (2, .int v2)], [], me_w M J)) rfl k
      by_cases h21 : v1 = (Int32.ofInt 1)
      · rw [if_pos h21] at k
        have k := ly_revb 2 (c' := (26, [(0, .ref (q 0)), (1, .int v1), (2, .int v2)], [.int v2, .ref (q 0)], me_w M J)) rfl k
        obtain ⟨d1, o1, ed, kc, k⟩ := lz_c (g := 77) (q := 1) (vs := [.ref (q 0), .int v2]) (rest := []) rfl rfl (by decide) (Or.inr (Or.inl ⟨_, rfl, rfl⟩)) rfl k
        have e1 := xt77 hq kc
        subst e1
        have k : nt_rn X _ 76 (29, [(0, .ref (q 0)), (1, .int v1), (2, .int v2)], [.int (x77 q v2 J)], me_w M J) _ := k
        have k := ly_revb 1 (c' := (37, [(0, .ref (q 0)), (1, .int v1), (2, .int v2)], [.int (x77 q v2 J)], me_w M J)) rfl k
        have k := lz_ri rfl (by decide) k
        rw [k, x76, if_neg h2, if_neg h14, if_pos h21]
      · rw [if_neg h21] at k
        have k := ly_revb 2 (c' := (34, [(0, .ref (q 0)), (1, .int v1), (2, .int v2)], [.int v2, .ref (q 0)], me_w M J)) rfl k
        obtain ⟨d1, o1, ed, kc, k⟩ := lz_c (g := 78) (q := 1) (vs := [.ref (q 0), .int v2]) (rest := []) rfl rfl (by decide) (Or.inr (Or.inl ⟨_, rfl, rfl⟩)) rfl k
        have e1 := xt78 hq kc
        subst e1
        have k : nt_rn X _ 76 (37, [(0, .ref (q 0)), (1, .int v1), (2, .int v2)], [.int (x78 q v2 J)], me_w M J) _ := k
        have k := lz_ri rfl (by decide) k
        rw [k, x76, if_neg h2, if_neg h14, if_neg h21]
/-! $State.lostShips -/
def x79_4 (q : Nat → Nat) (J : Nat → Nat → Int32) : Nat → Int32 → Int32 → Int32
  | 0, v1, v2 => v1
  | c + 1, v1, v2 => if (J (q 1) 1) ≤ v2 then v1
    else if (J (q 10) v2.toNatClampNeg) = (Int32.ofInt 2) then (x79_4 q J c (v1 ||| ((Int32.ofInt 1) <<< (v2 &&& 31))) (v2 + (Int32.ofInt 1)))
      else (x79_4 q J c v1 (v2 + (Int32.ofInt 1)))
theorem xt79_4 {X : nt_X} {d : Nat} {M : nt_M} {o : Option Value × nt_M} {q : Nat → Nat} {J : Nat → Nat → Int32} (hq : xs_Q M q) : ∀ (c : Nat) (v1 : Int32) (v2 : Int32), (J (q 1) 1).toInt - v2.toInt ≤ c → nt_rn X d 79 (4, [(0, .ref (q 0)), (1, .int v1), (2, .int v2)], [], me_w M J) o → o = (some (.int (x79_4 q J c v1 v2)), me_w M J) := by
  intro c
  induction c with
  | zero =>
    intro v1 v2 hc k
    have k := ly_revb 2 (c' := (6, [(0, .ref (q 0)), (1, .int v1), (2, .int v2)], [.ref (q 0), .int v2], me_w M J)) rfl k
    have k := lz_get (a := (q 0)) (g := 600) (M := me_w M J) (v := .ref (q 1)) rfl (nt_gfR rfl (hq.1 (0, 0, 1) (by decide))) k
    have k := lz_get (a := (q 1)) (g := 801) (M := me_w M J) (v := .int (J (q 1) 1)) rfl (congrArg Value.int (rfl)) k
    have k := ly_revb 1 (c' := (if (J (q 1) 1) ≤ v2 then 37 else 15, [(0, .ref (q 0)), (1, .int v1), (2, .int v2)], [], me_w M J)) rfl k
    have h12 : (J (q 1) 1) ≤ v2 := lx_end hc
    rw [if_pos h12] at k
    have k := ly_revb 1 (c' := (38, [(0, .ref (q 0)), (1, .int v1), (2, .int v2)], [.int v1], me_w M J)) rfl k
    have k := lz_ri rfl (by decide) k
    rw [k, x79_4]
  | succ c ih =>
    intro v1 v2 hc k
    have k := ly_revb 2 (c' := (6, [(0, .ref (q 0)), (1, .int v1), (2, .int v2)], [.ref (q 0), .int v2], me_w M J)) rfl k
    have k := lz_get (a := (q 0)) (g := 600) (M := me_w M J) (v := .ref (q 1)) rfl (nt_gfR rfl (hq.1 (0, 0, 1) (by decide))) k
    have k := lz_get (a := (q 1)) (g := 801) (M := me_w M J) (v := .int (J (q 1) 1)) rfl (congrArg Value.int (rfl)) k
    have k := ly_revb 1 (c' := (if (J (q 1) 1) ≤ v2 then 37 else 15, [(0, .ref (q 0)), (1, .int v1), (2, .int v2)], [], me_w M J)) rfl k
    by_cases h12 : (J (q 1) 1) ≤ v2
    · rw [if_pos h12] at k
      have k := ly_revb 1 (c' := (38, [(0, .ref (q 0)), (1, .int v1), (2, .int v2)], [.int v1], me_w M J)) rfl k
      have k := lz_ri rfl (by decide) k
      rw [k, x79_4, if_pos h12]
    · rw [if_neg h12] at k
      have k := ly_revb 1 (c' := (16, [(0, .ref (q 0)), (1, .int v1), (2, .int v2)], [.ref (q 0)], me_w M J)) rfl k
      have k := lz_get (a := (q 0)) (g := 607) (M := me_w M J) (v := .ref (q 10)) rfl (nt_gfR rfl (hq.1 (0, 7, 10) (by decide))) k
      have k := ly_revb 1 (c' := (20, [(0, .ref (q 0)), (1, .int v1), (2, .int v2)], [.int v2, .ref (q 10)], me_w M J)) rfl k
      have k := mx_iald (v := J (q 10) v2.toNatClampNeg) rfl (hq.2.2.1 10 (by omega)) (rfl) k
      have k := ly_revb 2 (c' := (if (J (q 10) v2.toNatClampNeg) = (Int32.ofInt 2) then 25 else 31, [(0, .ref (q 0)), (1, .int v1), (2, .int v2)], [], me_w M J)) rfl k
      by_cases h22 : (J (q 10) v2.toNatClampNeg) = (Int32.ofInt 2)
      · rw [if_pos h22] at k
        have k := ly_revb 8 (c' := (4, [(2, .int (v2 + (Int32.ofInt 1))), (1, .int (v1 ||| ((Int32.ofInt 1) <<< (v2 &&& 31)))), (0, .ref (q 0))], [], me_w M J)) rfl k
        have k := nt_rn_w (a := [(2, .int (v2 + (Int32.ofInt 1))), (1, .int (v1 ||| ((Int32.ofInt 1) <<< (v2 &&& 31)))), (0, .ref (q 0))]) (b := [(0, .ref (q 0)), (1, .int (v1 ||| ((Int32.ofInt 1) <<< (v2 &&& 31)))), (2, .int (v2 + (Int32.ofInt 1)))]) ⟨rfl, rfl, rfl, trivial⟩ rfl k
        have k := ih (v1 ||| ((Int32.ofInt 1) <<< (v2 &&& 31))) (v2 + (Int32.ofInt 1)) (lx_dec h12 hc) k
        rw [k, x79_4, if_neg h12, if_pos h22]
      · rw [if_neg h22] at k
        have k := ly_revb 2 (c' := (4, [(2, .int (v2 + (Int32.ofInt 1))), (0, .ref (q 0)), (1, .int v1)], [], me_w M J)) rfl k
        have k := nt_rn_w (a := [(2, .int (v2 + (Int32.ofInt 1))), (0, .ref (q 0)), (1, .int v1)]) (b := [(0, .ref (q 0)), (1, .int v1), (2, .int (v2 + (Int32.ofInt 1)))]) ⟨rfl, rfl, rfl, trivial⟩ rfl k
        have k := ih v1 (v2 + (Int32.ofInt 1)) (lx_dec h12 hc) k
        rw [k, x79_4, if_neg h12, if_neg h22]
theorem x79_4_rule {q : Nat → Nat} {J : Nat → Nat → Int32} {I : Nat → Int32 → Int32 → Prop} {Q : Int32 → Prop} (h0 : ∀ (v1 : Int32) (v2 : Int32), I 0 v1 v2 → Q v1) (h1 : ∀ (c : Nat) (v1 : Int32) (v2 : Int32), I (c + 1) v1 v2 →
    if (J (q 1) 1) ≤ v2 then (Q v1)
    else if (J (q 10) v2.toNatClampNeg) = (Int32.ofInt 2) then (I c (v1 ||| ((Int32.ofInt 1) <<< (v2 &&& 31))) (v2 + (Int32.ofInt 1)))
      else (I c v1 (v2 + (Int32.ofInt 1)))) : ∀ (c : Nat) (v1 : Int32) (v2 : Int32), I c v1 v2 → Q (x79_4 q J c v1 v2) := by
  intro c
  induction c with
  | zero =>
    intro v1 v2 hi
    rw [x79_4]
    exact h0 v1 v2 hi
  | succ c ih =>
    intro v1 v2 hi
    have hi := h1 c v1 v2 hi
    rw [x79_4]
    by_cases h : (J (q 1) 1) ≤ v2
    · rw [if_pos h] at hi ⊢
      exact hi
    · rw [if_neg h] at hi ⊢
      by_cases h : (J (q 10) v2.toNatClampNeg) = (Int32.ofInt 2)
      · rw [if_pos h] at hi ⊢
        exact ih _ _ hi
      · rw [if_neg h] at hi ⊢
        exact ih _ _ hi
def x79 (q : Nat → Nat) (J : Nat → Nat → Int32) : Int32 := (x79_4 q J ((J (q 1) 1).toNatClampNeg) (Int32.ofInt 0) (Int32.ofInt 0))
theorem xt79 {X : nt_X} {d : Nat} {M : nt_M} {o : Option Value × nt_M} {q : Nat → Nat} {J : Nat → Nat → Int32} (hq : xs_Q M q) (k : nt_ev X d 79 [.ref (q 0)] (me_w M J) o) : o = (some (.int (x79 q J)), me_w M J) := by
  have k : nt_rn X d 79 (0, [(0, .ref (q 0))], [], me_w M J) o := k
  have k := ly_revb 4 (c' := (4, [(2, .int (Int32.ofInt 0)), (1, .int (Int32.ofInt 0)), (0, .ref (q 0))], [], me_w M J)) rfl k
  have k := nt_rn_w (a := [(2, .int (Int32.ofInt 0)), (1, .int (Int32.ofInt 0)), (0, .ref (q 0))]) (b := [(0, .ref (q 0)), (1, .int (Int32.ofInt 0)), (2, .int (Int32.ofInt 0))]) ⟨rfl, rfl, rfl, trivial⟩ rfl k
  have k := xt79_4 hq  ((J (q 1) 1).toNatClampNeg) (Int32.ofInt 0) (Int32.ofInt 0) (lx_beg (by decide)) k
  rw [k, x79]
/-! Model.ofOwner -/
def x220_5 (p : Nat → Nat) (v1 : Int32) (v2 : Int32) (J : Nat → Nat → Int32) : Nat → Int32 → Int32 → Int32
  | 0, v3, v4 => v3
  | c + 1, v3, v4 => if (J (p 4) 2) ≤ v4 then v3
    else if (x171 p v4 v1 J) = 0 then (x220_5 p v1 v2 J c (v3 + (Int32.ofInt 0)) (v4 + (Int32.ofInt 1)))
      else if (x173 p v4 (Int32.ofInt 2) J) = v2 then (x220_5 p v1 v2 J c (v3 + (Int32.ofInt 1)) (v4 + (Int32.ofInt 1)))
        else (x220_5 p v1 v2 J c (v3 + (Int32.ofInt 0)) (v4 + (Int32.ofInt 1)))
theorem xt220_5 {X : nt_X} {d : Nat} {M : nt_M} {o : Option Value × nt_M} {p : Nat → Nat} {v1 : Int32} {v2 : Int32} {J : Nat → Nat → Int32} (hp : xs_P M p) : ∀ (c : Nat) (v3 : Int32) (v4 : Int32), (J (p 4) 2).toInt - v4.toInt ≤ c → nt_rn X d 220 (5, [(0, .ref (p 0)), (1, .int v1), (2, .int v2), (3, .int v3), (4, .int v4)], [], me_w M J) o → o = (some (.int (x220_5 p v1 v2 J c v3 v4)), me_w M J) := by
  intro c
  induction c with
  | zero =>
    intro v3 v4 hc k
    have k := ly_revb 2 (c' := (8, [(0, .ref (p 0)), (1, .int v1), (2, .int v2), (3, .int v3), (4, .int v4)], [.ref (p 0), .int v4], me_w M J)) rfl k
    have k := lz_get (a := (p 0)) (g := 1127) (M := me_w M J) (v := .ref (p 4)) rfl (nt_gfR rfl (hp.1 (0, 27, 4) (by decide))) k
    have k := ly_revb 1 (c' := (12, [(0, .ref (p 0)), (1, .int v1), (2, .int v2), (3, .int v3), (4, .int v4)], [.int (Int32.ofInt 2), .ref (p 4), .int v4], me_w M J)) rfl k
    have k := mx_iald (v := J (p 4) 2) rfl (hp.2.2.1 4 (by omega)) ((congrArg (J (p 4)) (show (Int32.ofInt 2).toNatClampNeg = 2 from rfl)).trans (rfl)) k
    have k := ly_revb 1 (c' := (if (J (p 4) 2) ≤ v4 then 51 else 16, [(0, .ref (p 0)), (1, .int v1), (2, .int v2), (3, .int v3), (4, .int v4)], [], me_w M J)) rfl k
    have h13 : (J (p 4) 2) ≤ v4 := lx_end hc
    rw [if_pos h13] at k
    have k := ly_revb 1 (c' := (52, [(0, .ref (p 0)), (1, .int v1), (2, .int v2), (3, .int v3), (4, .int v4)], [.int v3], me_w M J)) rfl k
    have k := lz_ri rfl (by decide) k
    rw [k, x220_5]
  | succ c ih =>
    intro v3 v4 hc k
    have k := ly_revb 2 (c' := (8, [(0, .ref (p 0)), (1, .int v1), (2, .int v2), (3, .int v3), (4, .int v4)], [.ref (p 0), .int v4], me_w M J)) rfl k
    have k := lz_get (a := (p 0)) (g := 1127) (M := me_w M J) (v := .ref (p 4)) rfl (nt_gfR rfl (hp.1 (0, 27, 4) (by decide))) k
    have k := ly_revb 1 (c' := (12, [(0, .ref (p 0)), (1, .int v1), (2, .int v2), (3, .int v3), (4, .int v4)], [.int (Int32.ofInt 2), .ref (p 4), .int v4], me_w M J)) rfl k
    have k := mx_iald (v := J (p 4) 2) rfl (hp.2.2.1 4 (by omega)) ((congrArg (J (p 4)) (show (Int32.ofInt 2).toNatClampNeg = 2 from rfl)).trans (rfl)) k
    have k := ly_revb 1 (c' := (if (J (p 4) 2) ≤ v4 then 51 else 16, [(0, .ref (p 0)), (1, .int v1), (2, .int v2), (3, .int v3), (4, .int v4)], [], me_w M J)) rfl k
    by_cases h13 : (J (p 4) 2) ≤ v4
    · rw [if_pos h13] at k
      have k := ly_revb 1 (c' := (52, [(0, .ref (p 0)), (1, .int v1), (2, .int v2), (3, .int v3), (4, .int v4)], [.int v3], me_w M J)) rfl k
      have k := lz_ri rfl (by decide) k
      rw [k, x220_5, if_pos h13]
    · rw [if_neg h13] at k
      have k := ly_revb 4 (c' := (21, [(0, .ref (p 0)), (1, .int v1), (2, .int v2), (3, .int v3), (4, .int v4)], [.int v1, .int v4, .ref (p 0), .int v3], me_w M J)) rfl k
      obtain ⟨d1, o1, ed, kc, k⟩ := lz_c (g := 171) (q := 1) (vs := [.ref (p 0), .int v4, .int v1]) (rest := [.int v3]) rfl rfl (by decide) (Or.inr (Or.inl ⟨_, rfl, rfl⟩)) rfl k
      have e1 := xt171 hp kc
      subst e1
      have k : nt_rn X _ 220 (24, [(0, .ref (p 0)), (1, .int v1), (2, .int v2), (3, .int v3), (4, .int v4)], [.int (x171 p v4 v1 J), .int v3], me_w M J) _ := k
      have k := ly_revb 1 (c' := (if (x171 p v4 v1 J) = 0 then 42 else 27, [(0, .ref (p 0)), (1, .int v1), (2, .int v2), (3, .int v3), (4, .int v4)], [.int v3], me_w M J)) rfl k
      by_cases h24 : (x171 p v4 v1 J) = 0
      · rw [if_pos h24] at k
        have k := ly_revb 5 (c' := (5, [(4, .int (v4 + (Int32.ofInt 1))), (3, .int (v3 + (Int32.ofInt 0))), (0, .ref (p 0)), (1, .int v1), (2, .int v2)], [], me_w M J)) rfl k
        have k := nt_rn_w (a := [(4, .int (v4 + (Int32.ofInt 1))), (3, .int (v3 + (Int32.ofInt 0))), (0, .ref (p 0)), (1, .int v1), (2, .int v2)]) (b := [(0, .ref (p 0)), (1, .int v1), (2, .int v2), (3, .int (v3 + (Int32.ofInt 0))), (4, .int (v4 + (Int32.ofInt 1)))]) ⟨rfl, rfl, rfl, rfl, rfl, trivial⟩ rfl k
        have k := ih (v3 + (Int32.ofInt 0)) (v4 + (Int32.ofInt 1)) (lx_dec h13 hc) k
        rw [k, x220_5, if_neg h13, if_pos h24]
      · rw [if_neg h24] at k
        have k := ly_revb 3 (c' := (31, [(0, .ref (p 0)), (1, .int v1), (2, .int v2), (3, .int v3), (4, .int v4)], [.int (Int32.ofInt 2), .int v4, .ref (p 0), .int v3], me_w M J)) rfl k
        obtain ⟨d1, o1, ed, kc, k⟩ := lz_c (g := 173) (q := 1) (vs := [.ref (p 0), .int v4, .int (Int32.ofInt 2)]) (rest := [.int v3]) rfl rfl (by decide) (Or.inr (Or.inl ⟨_, rfl, rfl⟩)) rfl k
        have e1 := xt173 hp kc
        subst e1
        have k : nt_rn X _ 220 (34, [(0, .ref (p 0)), (1, .int v1), (2, .int v2), (3, .int v3), (4, .int v4)], [.int (x173 p v4 (Int32.ofInt 2) J), .int v3], me_w M J) _ := k
        have k := ly_revb 2 (c' := (if (x173 p v4 (Int32.ofInt 2) J) = v2 then 38 else 42, [(0, .ref (p 0)), (1, .int v1), (2, .int v2), (3, .int v3), (4, .int v4)], [.int v3], me_w M J)) rfl k
        by_cases h35 : (x173 p v4 (Int32.ofInt 2) J) = v2
        · rw [if_pos h35] at k
          have k := ly_revb 6 (c' := (5, [(4, .int (v4 + (Int32.ofInt 1))), (3, .int (v3 + (Int32.ofInt 1))), (0, .ref (p 0)), (1, .int v1), (2, .int v2)], [], me_w M J)) rfl k
          have k := nt_rn_w (a := [(4, .int (v4 + (Int32.ofInt 1))), (3, .int (v3 + (Int32.ofInt 1))), (0, .ref (p 0)), (1, .int v1), (2, .int v2)]) (b := [(0, .ref (p 0)), (1, .int v1), (2, .int v2), (3, .int (v3 + (Int32.ofInt 1))), (4, .int (v4 + (Int32.ofInt 1)))]) ⟨rfl, rfl, rfl, rfl, rfl, trivial⟩ rfl k
          have k := ih (v3 + (Int32.ofInt 1)) (v4 + (Int32.ofInt 1)) (lx_dec h13 hc) k
          rw [k, x220_5, if_neg h13, if_neg h24, if_pos h35]
        · rw [if_neg h35] at k
          have k := ly_revb 5 (c' := (5, [(4, .int (v4 + (Int32.ofInt 1))), (3, .int (v3 + (Int32.ofInt 0))), (0, .ref (p 0)), (1, .int v1), (2, .int v2)], [], me_w M J)) rfl k
          have k := nt_rn_w (a := [(4, .int (v4 + (Int32.ofInt 1))), (3, .int (v3 + (Int32.ofInt 0))), (0, .ref (p 0)), (1, .int v1), (2, .int v2)]) (b := [(0, .ref (p 0)), (1, .int v1), (2, .int v2), (3, .int (v3 + (Int32.ofInt 0))), (4, .int (v4 + (Int32.ofInt 1)))]) ⟨rfl, rfl, rfl, rfl, rfl, trivial⟩ rfl k
          have k := ih (v3 + (Int32.ofInt 0)) (v4 + (Int32.ofInt 1)) (lx_dec h13 hc) k
          rw [k, x220_5, if_neg h13, if_neg h24, if_neg h35]
theorem x220_5_rule {p : Nat → Nat} {v1 : Int32} {v2 : Int32} {J : Nat → Nat → Int32} {I : Nat → Int32 → Int32 → Prop} {Q : Int32 → Prop} (h0 : ∀ (v3 : Int32) (v4 : Int32), I 0 v3 v4 → Q v3) (h1 : ∀ (c : Nat) (v3 : Int32) (v4 : Int32), I (c + 1) v3 v4 →
    if (J (p 4) 2) ≤ v4 then (Q v3)
    else if (x171 p v4 v1 J) = 0 then (I c (v3 + (Int32.ofInt 0)) (v4 + (Int32.ofInt 1)))
      else if (x173 p v4 (Int32.ofInt 2) J) = v2 then (I c (v3 + (Int32.ofInt 1)) (v4 + (Int32.ofInt 1)))
        else (I c (v3 + (Int32.ofInt 0)) (v4 + (Int32.ofInt 1)))) : ∀ (c : Nat) (v3 : Int32) (v4 : Int32), I c v3 v4 → Q (x220_5 p v1 v2 J c v3 v4) := by
  intro c
  induction c with
  | zero =>
    intro v3 v4 hi
    rw [x220_5]
    exact h0 v3 v4 hi
  | succ c ih =>
    intro v3 v4 hi
    have hi := h1 c v3 v4 hi
    rw [x220_5]
    by_cases h : (J (p 4) 2) ≤ v4
    · rw [if_pos h] at hi ⊢
      exact hi
    · rw [if_neg h] at hi ⊢
      by_cases h : (x171 p v4 v1 J) = 0
      · rw [if_pos h] at hi ⊢
        exact ih _ _ hi
      · rw [if_neg h] at hi ⊢
        by_cases h : (x173 p v4 (Int32.ofInt 2) J) = v2
        · rw [if_pos h] at hi ⊢
          exact ih _ _ hi
        · rw [if_neg h] at hi ⊢
          exact ih _ _ hi
def x220 (p : Nat → Nat) (v1 : Int32) (v2 : Int32) (J : Nat → Nat → Int32) : Int32 := (x220_5 p v1 v2 J ((J (p 4) 2).toNatClampNeg) (Int32.ofInt 0) (Int32.ofInt 0))
theorem xt220 {X : nt_X} {d : Nat} {M : nt_M} {o : Option Value × nt_M} {p : Nat → Nat} {v1 : Int32} {v2 : Int32} {J : Nat → Nat → Int32} (hp : xs_P M p) (k : nt_ev X d 220 [.ref (p 0), .int v1, .int v2] (me_w M J) o) : o = (some (.int (x220 p v1 v2 J)), me_w M J) := by
  have k : nt_rn X d 220 (0, [(0, .ref (p 0)), (1, .int v1), (2, .int v2)], [], me_w M J) o := k
  have k := ly_revb 4 (c' := (5, [(4, .int (Int32.ofInt 0)), (3, .int (Int32.ofInt 0)), (0, .ref (p 0)), (1, .int v1), (2, .int v2)], [], me_w M J)) rfl k
  have k := nt_rn_w (a := [(4, .int (Int32.ofInt 0)), (3, .int (Int32.ofInt 0)), (0, .ref (p 0)), (1, .int v1), (2, .int v2)]) (b := [(0, .ref (p 0)), (1, .int v1), (2, .int v2), (3, .int (Int32.ofInt 0)), (4, .int (Int32.ofInt 0))]) ⟨rfl, rfl, rfl, rfl, rfl, trivial⟩ rfl k
  have k := xt220_5 hp  ((J (p 4) 2).toNatClampNeg) (Int32.ofInt 0) (Int32.ofInt 0) (lx_beg (by decide)) k
  rw [k, x220]
/-! Model.mostIn -/
def x219_7 (p : Nat → Nat) (v1 : Int32) (J : Nat → Nat → Int32) : Nat → Int32 → Int32 → Int32 → Int32
  | 0, v2, v3, v4 => v2
  | c + 1, v2, v3, v4 => if (J (p 4) 1) ≤ v4 then v2
    else if (x220 p v1 v4 J) ≤ v3 then if (x220 p v1 v4 J) ≤ v3 then (x219_7 p v1 J c v2 v3 (v4 + (Int32.ofInt 1)))
        else (x219_7 p v1 J c v2 (x220 p v1 v4 J) (v4 + (Int32.ofInt 1)))
      else if (x220 p v1 v4 J) ≤ v3 then (x219_7 p v1 J c v4 v3 (v4 + (Int32.ofInt 1)))
        else (x219_7 p v1 J c v4 (x220 p v1 v4 J) (v4 + (Int32.ofInt 1)))
theorem xt219_7 {X : nt_X} {d : Nat} {M : nt_M} {o : Option Value × nt_M} {p : Nat → Nat} {v1 : Int32} {J : Nat → Nat → Int32} (hp : xs_P M p) : ∀ (c : Nat) (v2 : Int32) (v3 : Int32) (v4 : Int32) (v5 : Int32), (J (p 4) 1).toInt - v4.toInt ≤ c → nt_rn X d 219 (7, [(0, .ref (p 0)), (1, .int v1), (2, .int v2), (3, .int v3), (4, .int v4), (5, .int v5)], [], me_w M J) o → o = (some (.int (x219_7 p v1 J c v2 v3 v4)), me_w M J) := by
  intro c
  induction c with
  | zero =>
    intro v2 v3 v4 v5 hc k
    have k := ly_revb 2 (c' := (10, [(0, .ref (p 0)), (1, .int v1), (2, .int v2), (3, .int v3), (4, .int v4), (5, .int v5)], [.ref (p 0), .int v4], me_w M J)) rfl k
    have k := lz_get (a := (p 0)) (g := 1127) (M := me_w M J) (v := .ref (p 4)) rfl (nt_gfR rfl (hp.1 (0, 27, 4) (by decide))) k
    have k := ly_revb 1 (c' := (14, [(0, .ref (p 0)), (1, .int v1), (2, .int v2), (3, .int v3), (4, .int v4), (5, .int v5)], [.int (Int32.ofInt 1), .ref (p 4), .int v4], me_w M J)) rfl k
    have k := mx_iald (v := J (p 4) 1) rfl (hp.2.2.1 4 (by omega)) ((congrArg (J (p 4)) (show (Int32.ofInt 1).toNatClampNeg = 1 from rfl)).trans (rfl)) k
    have k := ly_revb 1 (c' := (if (J (p 4) 1) ≤ v4 then 59 else 18, [(0, .ref (p 0)), (1, .int v1), (2, .int v2), (3, .int v3), (4, .int v4), (5, .int v5)], [], me_w M J)) rfl k
    have h15 : (J (p 4) 1) ≤ v4 := lx_end hc
    rw [if_pos h15] at k
    have k := ly_revb 1 (c' := (60, [(0, .ref (p 0)), (1, .int v1), (2, .int v2), (3, .int v3), (4, .int v4), (5, .int v5)], [.int v2], me_w M J)) rfl k
    have k := lz_ri rfl (by decide) k
    rw [k, x219_7]
  | succ c ih =>
    intro v2 v3 v4 v5 hc k
    have k := ly_revb 2 (c' := (10, [(0, .ref (p 0)), (1, .int v1), (2, .int v2), (3, .int v3), (4, .int v4), (5, .int v5)], [.ref (p 0), .int v4], me_w M J)) rfl k
    have k := lz_get (a := (p 0)) (g := 1127) (M := me_w M J) (v := .ref (p 4)) rfl (nt_gfR rfl (hp.1 (0, 27, 4) (by decide))) k
    have k := ly_revb 1 (c' := (14, [(0, .ref (p 0)), (1, .int v1), (2, .int v2), (3, .int v3), (4, .int v4), (5, .int v5)], [.int (Int32.ofInt 1), .ref (p 4), .int v4], me_w M J)) rfl k
    have k := mx_iald (v := J (p 4) 1) rfl (hp.2.2.1 4 (by omega)) ((congrArg (J (p 4)) (show (Int32.ofInt 1).toNatClampNeg = 1 from rfl)).trans (rfl)) k
    have k := ly_revb 1 (c' := (if (J (p 4) 1) ≤ v4 then 59 else 18, [(0, .ref (p 0)), (1, .int v1), (2, .int v2), (3, .int v3), (4, .int v4), (5, .int v5)], [], me_w M J)) rfl k
    by_cases h15 : (J (p 4) 1) ≤ v4
    · rw [if_pos h15] at k
      have k := ly_revb 1 (c' := (60, [(0, .ref (p 0)), (1, .int v1), (2, .int v2), (3, .int v3), (4, .int v4), (5, .int v5)], [.int v2], me_w M J)) rfl k
      have k := lz_ri rfl (by decide) k
      rw [k, x219_7, if_pos h15]
    · rw [if_neg h15] at k
      have k := ly_revb 3 (c' := (22, [(0, .ref (p 0)), (1, .int v1), (2, .int v2), (3, .int v3), (4, .int v4), (5, .int v5)], [.int v4, .int v1, .ref (p 0)], me_w M J)) rfl k
      obtain ⟨d1, o1, ed, kc, k⟩ := lz_c (g := 220) (q := 1) (vs := [.ref (p 0), .int v1, .int v4]) (rest := []) rfl rfl (by decide) (Or.inr (Or.inl ⟨_, rfl, rfl⟩)) rfl k
      have e1 := xt220 hp kc
      subst e1
      have k : nt_rn X _ 219 (25, [(0, .ref (p 0)), (1, .int v1), (2, .int v2), (3, .int v3), (4, .int v4), (5, .int v5)], [.int (x220 p v1 v4 J)], me_w M J) _ := k
      have k := ly_revb 4 (c' := (if (x220 p v1 v4 J) ≤ v3 then 38 else 33, [(5, .int (x220 p v1 v4 J)), (0, .ref (p 0)), (1, .int v1), (2, .int v2), (3, .int v3), (4, .int v4)], [], me_w M J)) rfl k
      by_cases h30 : (x220 p v1 v4 J) ≤ v3
      · rw [if_pos h30] at k
        have k := ly_revb 5 (c' := (if (x220 p v1 v4 J) ≤ v3 then 51 else 46, [(2, .int v2), (5, .int (x220 p v1 v4 J)), (0, .ref (p 0)), (1, .int v1), (3, .int v3), (4, .int v4)], [], me_w M J)) rfl k
        by_cases h43 : (x220 p v1 v4 J) ≤ v3
        · rw [if_pos h43] at k
          have k := ly_revb 4 (c' := (7, [(4, .int (v4 + (Int32.ofInt 1))), (3, .int v3), (2, .int v2), (5, .int (x220 p v1 v4 J)), (0, .ref (p 0)), (1, .int v1)], [], me_w M J)) rfl k
          have k := nt_rn_w (a := [(4, .int (v4 + (Int32.ofInt 1))), (3, .int v3), (2, .int v2), (5, .int (x220 p v1 v4 J)), (0, .ref (p 0)), (1, .int v1)]) (b := [(0, .ref (p 0)), (1, .int v1), (2, .int v2), (3, .int v3), (4, .int (v4 + (Int32.ofInt 1))), (5, .int (x220 p v1 v4 J))]) ⟨rfl, rfl, rfl, rfl, rfl, rfl, trivial⟩ rfl k
          have k := ih v2 v3 (v4 + (Int32.ofInt 1)) (x220 p v1 v4 J) (lx_dec h15 hc) k
          rw [k, x219_7, if_neg h15, if_pos h30, if_pos h43]
        · rw [if_neg h43] at k
          have k := ly_revb 5 (c' := (7, [(4, .int (v4 + (Int32.ofInt 1))), (3, .int (x220 p v1 v4 J)), (2, .int v2), (5, .int (x220 p v1 v4 J)), (0, .ref (p 0)), (1, .int v1)], [], me_w M J)) rfl k
          have k := nt_rn_w (a := [(4, .int (v4 + (Int32.ofInt 1))), (3, .int (x220 p v1 v4 J)), (2, .int v2), (5, .int (x220 p v1 v4 J)), (0, .ref (p 0)), (1, .int v1)]) (b := [(0, .ref (p 0)), (1, .int v1), (2, .int v2), (3, .int (x220 p v1 v4 J)), (4, .int (v4 + (Int32.ofInt 1))), (5, .int (x220 p v1 v4 J))]) ⟨rfl, rfl, rfl, rfl, rfl, rfl, trivial⟩ rfl k
          have k := ih v2 (x220 p v1 v4 J) (v4 + (Int32.ofInt 1)) (x220 p v1 v4 J) (lx_dec h15 hc) k
          rw [k, x219_7, if_neg h15, if_pos h30, if_neg h43]
      · rw [if_neg h30] at k
        have k := ly_revb 6 (c' := (if (x220 p v1 v4 J) ≤ v3 then 51 else 46, [(2, .int v4), (5, .int (x220 p v1 v4 J)), (0, .ref (p 0)), (1, .int v1), (3, .int v3), (4, .int v4)], [], me_w M J)) rfl k
        by_cases h43 : (x220 p v1 v4 J) ≤ v3
        · rw [if_pos h43] at k
          have k := ly_revb 4 (c' := (7, [(4, .int (v4 + (Int32.ofInt 1))), (3, .int v3), (2, .int v4), (5, .int (x220 p v1 v4 J)), (0, .ref (p 0)), (1, .int v1)], [], me_w M J)) rfl k
          have k := nt_rn_w (a := [(4, .int (v4 + (Int32.ofInt 1))), (3, .int v3), (2, .int v4), (5, .int (x220 p v1 v4 J)), (0, .ref (p 0)), (1, .int v1)]) (b := [(0, .ref (p 0)), (1, .int v1), (2, .int v4), (3, .int v3), (4, .int (v4 + (Int32.ofInt 1))), (5, .int (x220 p v1 v4 J))]) ⟨rfl, rfl, rfl, rfl, rfl, rfl, trivial⟩ rfl k
          have k := ih v4 v3 (v4 + (Int32.ofInt 1)) (x220 p v1 v4 J) (lx_dec h15 hc) k
          rw [k, x219_7, if_neg h15, if_neg h30, if_pos h43]
        · rw [if_neg h43] at k
          have k := ly_revb 5 (c' := (7, [(4, .int (v4 + (Int32.ofInt 1))), (3, .int (x220 p v1 v4 J)), (2, .int v4), (5, .int (x220 p v1 v4 J)), (0, .ref (p 0)), (1, .int v1)], [], me_w M J)) rfl k
          have k := nt_rn_w (a := [(4, .int (v4 + (Int32.ofInt 1))), (3, .int (x220 p v1 v4 J)), (2, .int v4), (5, .int (x220 p v1 v4 J)), (0, .ref (p 0)), (1, .int v1)]) (b := [(0, .ref (p 0)), (1, .int v1), (2, .int v4), (3, .int (x220 p v1 v4 J)), (4, .int (v4 + (Int32.ofInt 1))), (5, .int (x220 p v1 v4 J))]) ⟨rfl, rfl, rfl, rfl, rfl, rfl, trivial⟩ rfl k
          have k := ih v4 (x220 p v1 v4 J) (v4 + (Int32.ofInt 1)) (x220 p v1 v4 J) (lx_dec h15 hc) k
          rw [k, x219_7, if_neg h15, if_neg h30, if_neg h43]
theorem x219_7_rule {p : Nat → Nat} {v1 : Int32} {J : Nat → Nat → Int32} {I : Nat → Int32 → Int32 → Int32 → Prop} {Q : Int32 → Prop} (h0 : ∀ (v2 : Int32) (v3 : Int32) (v4 : Int32), I 0 v2 v3 v4 → Q v2) (h1 : ∀ (c : Nat) (v2 : Int32) (v3 : Int32) (v4 : Int32), I (c + 1) v2 v3 v4 →
    if (J (p 4) 1) ≤ v4 then (Q v2)
    else if (x220 p v1 v4 J) ≤ v3 then if (x220 p v1 v4 J) ≤ v3 then (I c v2 v3 (v4 + (Int32.ofInt 1)))
        else (I c v2 (x220 p v1 v4 J) (v4 + (Int32.ofInt 1)))
      else if (x220 p v1 v4 J) ≤ v3 then (I c v4 v3 (v4 + (Int32.ofInt 1)))
        else (I c v4 (x220 p v1 v4 J) (v4 + (Int32.ofInt 1)))) : ∀ (c : Nat) (v2 : Int32) (v3 : Int32) (v4 : Int32), I c v2 v3 v4 → Q (x219_7 p v1 J c v2 v3 v4) := by
  intro c
  induction c with
  | zero =>
    intro v2 v3 v4 hi
    rw [x219_7]
    exact h0 v2 v3 v4 hi
  | succ c ih =>
    intro v2 v3 v4 hi
    have hi := h1 c v2 v3 v4 hi
    rw [x219_7]
    by_cases h : (J (p 4) 1) ≤ v4
    · rw [if_pos h] at hi ⊢
      exact hi
    · rw [if_neg h] at hi ⊢
      by_cases h : (x220 p v1 v4 J) ≤ v3
      · rw [if_pos h] at hi ⊢
        by_cases h : (x220 p v1 v4 J) ≤ v3
        · rw [if_pos h] at hi ⊢
          exact ih _ _ _ hi
        · rw [if_neg h] at hi ⊢
          exact ih _ _ _ hi
      · rw [if_neg h] at hi ⊢
        by_cases h : (x220 p v1 v4 J) ≤ v3
        · rw [if_pos h] at hi ⊢
          exact ih _ _ _ hi
        · rw [if_neg h] at hi ⊢
          exact ih _ _ _ hi
def x219 (p : Nat → Nat) (v1 : Int32) (J : Nat → Nat → Int32) : Int32 := (x219_7 p v1 J ((J (p 4) 1).toNatClampNeg) (Int32.ofInt (-1)) (Int32.ofInt 0) (Int32.ofInt 0))
theorem xt219 {X : nt_X} {d : Nat} {M : nt_M} {o : Option Value × nt_M} {p : Nat → Nat} {v1 : Int32} {J : Nat → Nat → Int32} (hp : xs_P M p) (k : nt_ev X d 219 [.ref (p 0), .int v1] (me_w M J) o) : o = (some (.int (x219 p v1 J)), me_w M J) := by
  have k : nt_rn X d 219 (0, [(0, .ref (p 0)), (1, .int v1)], [], me_w M J) o := k
  have k := ly_revb 6 (c' := (7, [(4, .int (Int32.ofInt 0)), (3, .int (Int32.ofInt 0)), (2, .int (Int32.ofInt (-1))), (0, .ref (p 0)), (1, .int v1)], [], me_w M J)) rfl k
  have k := nt_rn_w (a := [(4, .int (Int32.ofInt 0)), (3, .int (Int32.ofInt 0)), (2, .int (Int32.ofInt (-1))), (0, .ref (p 0)), (1, .int v1)]) (b := [(0, .ref (p 0)), (1, .int v1), (2, .int (Int32.ofInt (-1))), (3, .int (Int32.ofInt 0)), (4, .int (Int32.ofInt 0)), (5, .int (Int32.ofInt 0))]) ⟨rfl, rfl, rfl, rfl, rfl, trivial⟩ rfl k
  have k := xt219_7 hp  ((J (p 4) 1).toNatClampNeg) (Int32.ofInt (-1)) (Int32.ofInt 0) (Int32.ofInt 0) (Int32.ofInt 0) (lx_beg (by decide)) k
  rw [k, x219]
/-! Model.sameBy -/
def x218_20 (p : Nat → Nat) (v2 : Int32) (J : Nat → Nat → Int32) : Nat → Int32 → Int32
  | 0, v3 => (Int32.ofInt (-1))
  | c + 1, v3 => if (J (p 4) 2) ≤ v3 then (Int32.ofInt (-1))
    else if (x171 p v3 v2 J) = 0 then (x218_20 p v2 J c (v3 + (Int32.ofInt 1)))
      else if (x173 p v3 (Int32.ofInt 0) J) = 0 then (x173 p v3 (Int32.ofInt 2) J)
        else (x218_20 p v2 J c (v3 + (Int32.ofInt 1)))
theorem xt218_20 {X : nt_X} {d : Nat} {M : nt_M} {o : Option Value × nt_M} {p : Nat → Nat} {v1 : Int32} {v2 : Int32} {J : Nat → Nat → Int32} (hp : xs_P M p) : ∀ (c : Nat) (v3 : Int32), (J (p 4) 2).toInt - v3.toInt ≤ c → nt_rn X d 218 (20, [(0, .ref (p 0)), (1, .int v1), (2, .int v2), (3, .int v3)], [], me_w M J) o → o = (some (.int (x218_20 p v2 J c v3)), me_w M J) := by
  intro c
  induction c with
  | zero =>
    intro v3 hc k
    have k := ly_revb 2 (c' := (22, [(0, .ref (p 0)), (1, .int v1), (2, .int v2), (3, .int v3)], [.ref (p 0), .int v3], me_w M J)) rfl k
    have k := lz_get (a := (p 0)) (g := 1127) (M := me_w M J) (v := .ref (p 4)) rfl (nt_gfR rfl (hp.1 (0, 27, 4) (by decide))) k
    have k := ly_revb 1 (c' := (26, [(0, .ref (p 0)), (1, .int v1), (2, .int v2), (3, .int v3)], [.int (Int32.ofInt 2), .ref (p 4), .int v3], me_w M J)) rfl k
    have k := mx_iald (v := J (p 4) 2) rfl (hp.2.2.1 4 (by omega)) ((congrArg (J (p 4)) (show (Int32.ofInt 2).toNatClampNeg = 2 from rfl)).trans (rfl)) k
    have k := ly_revb 1 (c' := (if (J (p 4) 2) ≤ v3 then 61 else 30, [(0, .ref (p 0)), (1, .int v1), (2, .int v2), (3, .int v3)], [], me_w M J)) rfl k
    have h27 : (J (p 4) 2) ≤ v3 := lx_end hc
    rw [if_pos h27] at k
    have k := ly_revb 1 (c' := (62, [(0, .ref (p 0)), (1, .int v1), (2, .int v2), (3, .int v3)], [.int (Int32.ofInt (-1))], me_w M J)) rfl k
    have k := lz_ri rfl (by decide) k
    rw [k, x218_20]
  | succ c ih =>
    intro v3 hc k
    have k := ly_revb 2 (c' := (22, [(0, .ref (p 0)), (1, .int v1), (2, .int v2), (3, .int v3)], [.ref (p 0), .int v3], me_w M J)) rfl k
    have k := lz_get (a := (p 0)) (g := 1127) (M := me_w M J) (v := .ref (p 4)) rfl (nt_gfR rfl (hp.1 (0, 27, 4) (by decide))) k
    have k := ly_revb 1 (c' := (26, [(0, .ref (p 0)), (1, .int v1), (2, .int v2), (3, .int v3)], [.int (Int32.ofInt 2), .ref (p 4), .int v3], me_w M J)) rfl k
    have k := mx_iald (v := J (p 4) 2) rfl (hp.2.2.1 4 (by omega)) ((congrArg (J (p 4)) (show (Int32.ofInt 2).toNatClampNeg = 2 from rfl)).trans (rfl)) k
    have k := ly_revb 1 (c' := (if (J (p 4) 2) ≤ v3 then 61 else 30, [(0, .ref (p 0)), (1, .int v1), (2, .int v2), (3, .int v3)], [], me_w M J)) rfl k
    by_cases h27 : (J (p 4) 2) ≤ v3
    · rw [if_pos h27] at k
      have k := ly_revb 1 (c' := (62, [(0, .ref (p 0)), (1, .int v1), (2, .int v2), (3, .int v3)], [.int (Int32.ofInt (-1))], me_w M J)) rfl k
      have k := lz_ri rfl (by decide) k
      rw [k, x218_20, if_pos h27]
    · rw [if_neg h27] at k
      have k := ly_revb 3 (c' := (33, [(0, .ref (p 0)), (1, .int v1), (2, .int v2), (3, .int v3)], [.int v2, .int v3, .ref (p 0)], me_w M J)) rfl k
      obtain ⟨d1, o1, ed, kc, k⟩ := lz_c (g := 171) (q := 1) (vs := [.ref (p 0), .int v3, .int v2]) (rest := []) rfl rfl (by decide) (Or.inr (Or.inl ⟨_, rfl, rfl⟩)) rfl k
      have e1 := xt171 hp kc
      subst e1
      have k : nt_rn X _ 218 (36, [(0, .ref (p 0)), (1, .int v1), (2, .int v2), (3, .int v3)], [.int (x171 p v3 v2 J)], me_w M J) _ := k
      have k := ly_revb 1 (c' := (if (x171 p v3 v2 J) = 0 then 55 else 39, [(0, .ref (p 0)), (1, .int v1), (2, .int v2), (3, .int v3)], [], me_w M J)) rfl k
      by_cases h36 : (x171 p v3 v2 J) = 0
      · rw [if_pos h36] at k
        have k := ly_revb 2 (c' := (20, [(3, .int (v3 + (Int32.ofInt 1))), (0, .ref (p 0)), (1, .int v1), (2, .int v2)], [], me_w M J)) rfl k
        have k := nt_rn_w (a := [(3, .int (v3 + (Int32.ofInt 1))), (0, .ref (p 0)), (1, .int v1), (2, .int v2)]) (b := [(0, .ref (p 0)), (1, .int v1), (2, .int v2), (3, .int (v3 + (Int32.ofInt 1)))]) ⟨rfl, rfl, rfl, rfl, trivial⟩ rfl k
        have k := ih (v3 + (Int32.ofInt 1)) (lx_dec h27 hc) k
        rw [k, x218_20, if_neg h27, if_pos h36]
      · rw [if_neg h36] at k
        have k := ly_revb 3 (c' := (42, [(0, .ref (p 0)), (1, .int v1), (2, .int v2), (3, .int v3)], [.int (Int32.ofInt 0), .int v3, .ref (p 0)], me_w M J)) rfl k
        obtain ⟨d1, o1, ed, kc, k⟩ := lz_c (g := 173) (q := 1) (vs := [.ref (p 0), .int v3, .int (Int32.ofInt 0)]) (rest := []) rfl rfl (by decide) (Or.inr (Or.inl ⟨_, rfl, rfl⟩)) rfl k
        have e1 := xt173 hp kc
        subst e1
        have k : nt_rn X _ 218 (45, [(0, .ref (p 0)), (1, .int v1), (2, .int v2), (3, .int v3)], [.int (x173 p v3 (Int32.ofInt 0) J)], me_w M J) _ := k
        have k := ly_revb 1 (c' := (if (x173 p v3 (Int32.ofInt 0) J) = 0 then 48 else 55, [(0, .ref (p 0)), (1, .int v1), (2, .int v2), (3, .int v3)], [], me_w M J)) rfl k
        by_cases h45 : (x173 p v3 (Int32.ofInt 0) J) = 0
        · rw [if_pos h45] at k
          have k := ly_revb 3 (c' := (51, [(0, .ref (p 0)), (1, .int v1), (2, .int v2), (3, .int v3)], [.int (Int32.ofInt 2), .int v3, .ref (p 0)], me_w M J)) rfl k
          obtain ⟨d1, o1, ed, kc, k⟩ := lz_c (g := 173) (q := 1) (vs := [.ref (p 0), .int v3, .int (Int32.ofInt 2)]) (rest := []) rfl rfl (by decide) (Or.inr (Or.inl ⟨_, rfl, rfl⟩)) rfl k
          have e1 := xt173 hp kc
          subst e1
          have k : nt_rn X _ 218 (54, [(0, .ref (p 0)), (1, .int v1), (2, .int v2), (3, .int v3)], [.int (x173 p v3 (Int32.ofInt 2) J)], me_w M J) _ := k
          have k := lz_ri rfl (by decide) k
          rw [k, x218_20, if_neg h27, if_neg h36, if_pos h45]
        · rw [if_neg h45] at k
          have k := ly_revb 2 (c' := (20, [(3, .int (v3 + (Int32.ofInt 1))), (0, .ref (p 0)), (1, .int v1), (2, .int v2)], [], me_w M J)) rfl k
          have k := nt_rn_w (a := [(3, .int (v3 + (Int32.ofInt 1))), (0, .ref (p 0)), (1, .int v1), (2, .int v2)]) (b := [(0, .ref (p 0)), (1, .int v1), (2, .int v2), (3, .int (v3 + (Int32.ofInt 1)))]) ⟨rfl, rfl, rfl, rfl, trivial⟩ rfl k
          have k := ih (v3 + (Int32.ofInt 1)) (lx_dec h27 hc) k
          rw [k, x218_20, if_neg h27, if_neg h36, if_neg h45]
theorem x218_20_rule {p : Nat → Nat} {v2 : Int32} {J : Nat → Nat → Int32} {I : Nat → Int32 → Prop} {Q : Int32 → Prop} (h0 : ∀ (v3 : Int32), I 0 v3 → Q (Int32.ofInt (-1))) (h1 : ∀ (c : Nat) (v3 : Int32), I (c + 1) v3 →
    if (J (p 4) 2) ≤ v3 then (Q (Int32.ofInt (-1)))
    else if (x171 p v3 v2 J) = 0 then (I c (v3 + (Int32.ofInt 1)))
      else if (x173 p v3 (Int32.ofInt 0) J) = 0 then (Q (x173 p v3 (Int32.ofInt 2) J))
        else (I c (v3 + (Int32.ofInt 1)))) : ∀ (c : Nat) (v3 : Int32), I c v3 → Q (x218_20 p v2 J c v3) := by
  intro c
  induction c with
  | zero =>
    intro v3 hi
    rw [x218_20]
    exact h0 v3 hi
  | succ c ih =>
    intro v3 hi
    have hi := h1 c v3 hi
    rw [x218_20]
    by_cases h : (J (p 4) 2) ≤ v3
    · rw [if_pos h] at hi ⊢
      exact hi
    · rw [if_neg h] at hi ⊢
      by_cases h : (x171 p v3 v2 J) = 0
      · rw [if_pos h] at hi ⊢
        exact ih _ hi
      · rw [if_neg h] at hi ⊢
        by_cases h : (x173 p v3 (Int32.ofInt 0) J) = 0
        · rw [if_pos h] at hi ⊢
          exact hi
        · rw [if_neg h] at hi ⊢
          exact ih _ hi
def x218 (p : Nat → Nat) (v1 : Int32) (v2 : Int32) (J : Nat → Nat → Int32) : Int32 := if v1 = (Int32.ofInt 2) then v2
  else if v1 = (Int32.ofInt 1) then (x219 p v2 J)
    else (x218_20 p v2 J ((J (p 4) 2).toNatClampNeg) (Int32.ofInt 0))
theorem xt218 {X : nt_X} {d : Nat} {M : nt_M} {o : Option Value × nt_M} {p : Nat → Nat} {v1 : Int32} {v2 : Int32} {J : Nat → Nat → Int32} (hp : xs_P M p) (k : nt_ev X d 218 [.ref (p 0), .int v1, .int v2] (me_w M J) o) : o = (some (.int (x218 p v1 v2 J)), me_w M J) := by
  have k : nt_rn X d 218 (0, [(0, .ref (p 0)), (1, .int v1), (2, .int v2)], [], me_w M J) o := k
  have k := ly_revb 3 (c' := (if v1 = (Int32.ofInt 2) then 5 else 7, [(0, .ref (p 0)), (1, .int v1), (2, .int v2)], [], me_w M J)) rfl k
  by_cases h2 : v1 = (Int32.ofInt 2)
  · rw [if_pos h2] at k
    have k := ly_revb 1 (c' := (6, [(0, .ref (p 0)), (1, .int v1), (2, .int v2)], [.int v2], me_w M J)) rfl k
    have k := lz_ri rfl (by decide) k
    rw [k, x218, if_pos h2]
  · rw [if_neg h2] at k
    have k := ly_revb 3 (c' := (if v1 = (Int32.ofInt 1) then 12 else 18, [(0, .ref (p 0)), (1, .int v1), (2, .int v2)], [], me_w M J)) rfl k
    by_cases h9 : v1 = (Int32.ofInt 1)
    · rw [if_pos h9] at k
      have k := ly_revb 2 (c' := (14, [(0, .ref (p 0)), (1, .int v1), (2, .int v2)], [.int v2, .ref (p 0)], me_w M J)) rfl k
      obtain ⟨d1, o1, ed, kc, k⟩ := lz_c (g := 219) (q := 1) (vs := [.ref (p 0), .int v2]) (rest := []) rfl rfl (by decide) (Or.inr (Or.inl ⟨_, rfl, rfl⟩)) rfl k
      have e1 := xt219 hp kc
      subst e1
      have k : nt_rn X _ 218 (17, [(0, .ref (p 0)), (1, .int v1), (2, .int v2)], [.int (x219 p v2 J)], me_w M J) _ := k
      have k := lz_ri rfl (by decide) k
      rw [k, x218, if_neg h2, if_pos h9]
    · rw [if_neg h9] at k
      have k := ly_revb 2 (c' := (20, [(3, .int (Int32.ofInt 0)), (0, .ref (p 0)), (1, .int v1), (2, .int v2)], [], me_w M J)) rfl k
      have k := nt_rn_w (a := [(3, .int (Int32.ofInt 0)), (0, .ref (p 0)), (1, .int v1), (2, .int v2)]) (b := [(0, .ref (p 0)), (1, .int v1), (2, .int v2), (3, .int (Int32.ofInt 0))]) ⟨rfl, rfl, rfl, rfl, trivial⟩ rfl k
      have k := xt218_20 hp  ((J (p 4) 2).toNatClampNeg) (Int32.ofInt 0) (lx_beg (by decide)) k
      rw [k, x218, if_neg h2, if_neg h9]
/-! Model.same -/
def x217 (p : Nat → Nat) (v1 : Int32) (v2 : Int32) (J : Nat → Nat → Int32) : Int32 := if (x145 v1.toInt64 (Int64.ofNat 0) 2) = 0 then (Int32.ofInt (-2))
  else if (x168 p v2 J) = 0 then (Int32.ofInt (-2))
    else (x218 p v1 v2 J)
theorem xt217 {X : nt_X} {d : Nat} {M : nt_M} {o : Option Value × nt_M} {p : Nat → Nat} {v1 : Int32} {v2 : Int32} {J : Nat → Nat → Int32} (hp : xs_P M p) (k : nt_ev X d 217 [.ref (p 0), .int v1, .int v2] (me_w M J) o) : o = (some (.int (x217 p v1 v2 J)), me_w M J) := by
  have k : nt_rn X d 217 (0, [(0, .ref (p 0)), (1, .int v1), (2, .int v2)], [], me_w M J) o := k
  have k := ly_revb 4 (c' := (6, [(0, .ref (p 0)), (1, .int v1), (2, .int v2)], [.long 2, .long (Int64.ofNat 0), .long v1.toInt64], me_w M J)) rfl k
  obtain ⟨d1, o1, ed, kc, k⟩ := lz_c (g := 145) (q := 0) (vs := [.long v1.toInt64, .long (Int64.ofNat 0), .long 2]) (rest := []) rfl rfl (by decide) (Or.inl ⟨_, rfl, rfl⟩) rfl k
  have e1 := xt145  kc
  subst e1
  have k : nt_rn X _ 217 (9, [(0, .ref (p 0)), (1, .int v1), (2, .int v2)], [.int (x145 v1.toInt64 (Int64.ofNat 0) 2)], me_w M J) _ := k
  have k := ly_revb 1 (c' := (if (x145 v1.toInt64 (Int64.ofNat 0) 2) = 0 then 29 else 12, [(0, .ref (p 0)), (1, .int v1), (2, .int v2)], [], me_w M J)) rfl k
  by_cases h9 : (x145 v1.toInt64 (Int64.ofNat 0) 2) = 0
  · rw [if_pos h9] at k
    have k := ly_revb 1 (c' := (31, [(0, .ref (p 0)), (1, .int v1), (2, .int v2)], [.int (Int32.ofInt (-2))], me_w M J)) rfl k
    have k := lz_ri rfl (by decide) k
    rw [k, x217, if_pos h9]
  · rw [if_neg h9] at k
    have k := ly_revb 2 (c' := (14, [(0, .ref (p 0)), (1, .int v1), (2, .int v2)], [.int v2, .ref (p 0)], me_w M J)) rfl k
    obtain ⟨d1, o1, ed, kc, k⟩ := lz_c (g := 168) (q := 1) (vs := [.ref (p 0), .int v2]) (rest := []) rfl rfl (by decide) (Or.inr (Or.inl ⟨_, rfl, rfl⟩)) rfl k
    have e1 := xt168 hp kc
    subst e1
    have k : nt_rn X _ 217 (17, [(0, .ref (p 0)), (1, .int v1), (2, .int v2)], [.int (x168 p v2 J)], me_w M J) _ := k
    have k := ly_revb 1 (c' := (if (x168 p v2 J) = 0 then 29 else 20, [(0, .ref (p 0)), (1, .int v1), (2, .int v2)], [], me_w M J)) rfl k
    by_cases h17 : (x168 p v2 J) = 0
    · rw [if_pos h17] at k
      have k := ly_revb 1 (c' := (31, [(0, .ref (p 0)), (1, .int v1), (2, .int v2)], [.int (Int32.ofInt (-2))], me_w M J)) rfl k
      have k := lz_ri rfl (by decide) k
      rw [k, x217, if_neg h9, if_pos h17]
    · rw [if_neg h17] at k
      have k := ly_revb 3 (c' := (23, [(0, .ref (p 0)), (1, .int v1), (2, .int v2)], [.int v2, .int v1, .ref (p 0)], me_w M J)) rfl k
      obtain ⟨d1, o1, ed, kc, k⟩ := lz_c (g := 218) (q := 1) (vs := [.ref (p 0), .int v1, .int v2]) (rest := []) rfl rfl (by decide) (Or.inr (Or.inl ⟨_, rfl, rfl⟩)) rfl k
      have e1 := xt218 hp kc
      subst e1
      have k : nt_rn X _ 217 (26, [(0, .ref (p 0)), (1, .int v1), (2, .int v2)], [.int (x218 p v1 v2 J)], me_w M J) _ := k
      have k := ly_revb 1 (c' := (31, [(0, .ref (p 0)), (1, .int v1), (2, .int v2)], [.int (x218 p v1 v2 J)], me_w M J)) rfl k
      have k := lz_ri rfl (by decide) k
      rw [k, x217, if_neg h9, if_neg h17]
/-! Model.unlike -/
def x221_13 (p : Nat → Nat) (J : Nat → Nat → Int32) : Nat → Int32 → Int32 → Int32
  | 0, v1, v2 => v1
  | c + 1, v1, v2 => if (J (p 4) 1) ≤ v2 then v1
    else if (x218 p (Int32.ofInt 0) v2 J) = v2 then if (x218 p (Int32.ofInt 1) v2 J) = v2 then (x221_13 p J c (v1 ||| (Int32.ofInt 0)) (v2 + (Int32.ofInt 1)))
        else (x221_13 p J c (v1 ||| ((Int32.ofInt 1) <<< (v2 &&& 31))) (v2 + (Int32.ofInt 1)))
      else (x221_13 p J c (v1 ||| ((Int32.ofInt 1) <<< (v2 &&& 31))) (v2 + (Int32.ofInt 1)))
theorem xt221_13 {X : nt_X} {d : Nat} {M : nt_M} {o : Option Value × nt_M} {p : Nat → Nat} {J : Nat → Nat → Int32} (hp : xs_P M p) : ∀ (c : Nat) (v1 : Int32) (v2 : Int32), (J (p 4) 1).toInt - v2.toInt ≤ c → nt_rn X d 221 (13, [(0, .ref (p 0)), (1, .int v1), (2, .int v2)], [], me_w M J) o → o = (some (.int (x221_13 p J c v1 v2)), me_w M J) := by
  intro c
  induction c with
  | zero =>
    intro v1 v2 hc k
    have k := ly_revb 2 (c' := (15, [(0, .ref (p 0)), (1, .int v1), (2, .int v2)], [.ref (p 0), .int v2], me_w M J)) rfl k
    have k := lz_get (a := (p 0)) (g := 1127) (M := me_w M J) (v := .ref (p 4)) rfl (nt_gfR rfl (hp.1 (0, 27, 4) (by decide))) k
    have k := ly_revb 1 (c' := (19, [(0, .ref (p 0)), (1, .int v1), (2, .int v2)], [.int (Int32.ofInt 1), .ref (p 4), .int v2], me_w M J)) rfl k
    have k := mx_iald (v := J (p 4) 1) rfl (hp.2.2.1 4 (by omega)) ((congrArg (J (p 4)) (show (Int32.ofInt 1).toNatClampNeg = 1 from rfl)).trans (rfl)) k
    have k := ly_revb 1 (c' := (if (J (p 4) 1) ≤ v2 then 59 else 23, [(0, .ref (p 0)), (1, .int v1), (2, .int v2)], [], me_w M J)) rfl k
    have h20 : (J (p 4) 1) ≤ v2 := lx_end hc
    rw [if_pos h20] at k
    have k := ly_revb 1 (c' := (60, [(0, .ref (p 0)), (1, .int v1), (2, .int v2)], [.int v1], me_w M J)) rfl k
    have k := lz_ri rfl (by decide) k
    rw [k, x221_13]
  | succ c ih =>
    intro v1 v2 hc k
    have k := ly_revb 2 (c' := (15, [(0, .ref (p 0)), (1, .int v1), (2, .int v2)], [.ref (p 0), .int v2], me_w M J)) rfl k
    have k := lz_get (a := (p 0)) (g := 1127) (M := me_w M J) (v := .ref (p 4)) rfl (nt_gfR rfl (hp.1 (0, 27, 4) (by decide))) k
    have k := ly_revb 1 (c' := (19, [(0, .ref (p 0)), (1, .int v1), (2, .int v2)], [.int (Int32.ofInt 1), .ref (p 4), .int v2], me_w M J)) rfl k
    have k := mx_iald (v := J (p 4) 1) rfl (hp.2.2.1 4 (by omega)) ((congrArg (J (p 4)) (show (Int32.ofInt 1).toNatClampNeg = 1 from rfl)).trans (rfl)) k
    have k := ly_revb 1 (c' := (if (J (p 4) 1) ≤ v2 then 59 else 23, [(0, .ref (p 0)), (1, .int v1), (2, .int v2)], [], me_w M J)) rfl k
    by_cases h20 : (J (p 4) 1) ≤ v2
    · rw [if_pos h20] at k
      have k := ly_revb 1 (c' := (60, [(0, .ref (p 0)), (1, .int v1), (2, .int v2)], [.int v1], me_w M J)) rfl k
      have k := lz_ri rfl (by decide) k
      rw [k, x221_13, if_pos h20]
    · rw [if_neg h20] at k
      have k := ly_revb 4 (c' := (27, [(0, .ref (p 0)), (1, .int v1), (2, .int v2)], [.int v2, .int (Int32.ofInt 0), .ref (p 0), .int v1], me_w M J)) rfl k
      obtain ⟨d1, o1, ed, kc, k⟩ := lz_c (g := 218) (q := 1) (vs := [.ref (p 0), .int (Int32.ofInt 0), .int v2]) (rest := [.int v1]) rfl rfl (by decide) (Or.inr (Or.inl ⟨_, rfl, rfl⟩)) rfl k
      have e1 := xt218 hp kc
      subst e1
      have k : nt_rn X _ 221 (30, [(0, .ref (p 0)), (1, .int v1), (2, .int v2)], [.int (x218 p (Int32.ofInt 0) v2 J), .int v1], me_w M J) _ := k
      have k := ly_revb 2 (c' := (if (x218 p (Int32.ofInt 0) v2 J) = v2 then 34 else 44, [(0, .ref (p 0)), (1, .int v1), (2, .int v2)], [.int v1], me_w M J)) rfl k
      by_cases h31 : (x218 p (Int32.ofInt 0) v2 J) = v2
      · rw [if_pos h31] at k
        have k := ly_revb 3 (c' := (37, [(0, .ref (p 0)), (1, .int v1), (2, .int v2)], [.int v2, .int (Int32.ofInt 1), .ref (p 0), .int v1], me_w M J)) rfl k
        obtain ⟨d1, o1, ed, kc, k⟩ := lz_c (g := 218) (q := 1) (vs := [.ref (p 0), .int (Int32.ofInt 1), .int v2]) (rest := [.int v1]) rfl rfl (by decide) (Or.inr (Or.inl ⟨_, rfl, rfl⟩)) rfl k
        have e1 := xt218 hp kc
        subst e1
        have k : nt_rn X _ 221 (40, [(0, .ref (p 0)), (1, .int v1), (2, .int v2)], [.int (x218 p (Int32.ofInt 1) v2 J), .int v1], me_w M J) _ := k
        have k := ly_revb 2 (c' := (if (x218 p (Int32.ofInt 1) v2 J) = v2 then 50 else 44, [(0, .ref (p 0)), (1, .int v1), (2, .int v2)], [.int v1], me_w M J)) rfl k
        by_cases h41 : (x218 p (Int32.ofInt 1) v2 J) = v2
        · rw [if_pos h41] at k
          have k := ly_revb 5 (c' := (13, [(2, .int (v2 + (Int32.ofInt 1))), (1, .int (v1 ||| (Int32.ofInt 0))), (0, .ref (p 0))], [], me_w M J)) rfl k
          have k := nt_rn_w (a := [(2, .int (v2 + (Int32.ofInt 1))), (1, .int (v1 ||| (Int32.ofInt 0))), (0, .ref (p 0))]) (b := [(0, .ref (p 0)), (1, .int (v1 ||| (Int32.ofInt 0))), (2, .int (v2 + (Int32.ofInt 1)))]) ⟨rfl, rfl, rfl, trivial⟩ rfl k
          have k := ih (v1 ||| (Int32.ofInt 0)) (v2 + (Int32.ofInt 1)) (lx_dec h20 hc) k
          rw [k, x221_13, if_neg h20, if_pos h31, if_pos h41]
        · rw [if_neg h41] at k
          have k := ly_revb 8 (c' := (13, [(2, .int (v2 + (Int32.ofInt 1))), (1, .int (v1 ||| ((Int32.ofInt 1) <<< (v2 &&& 31)))), (0, .ref (p 0))], [], me_w M J)) rfl k
          have k := nt_rn_w (a := [(2, .int (v2 + (Int32.ofInt 1))), (1, .int (v1 ||| ((Int32.ofInt 1) <<< (v2 &&& 31)))), (0, .ref (p 0))]) (b := [(0, .ref (p 0)), (1, .int (v1 ||| ((Int32.ofInt 1) <<< (v2 &&& 31)))), (2, .int (v2 + (Int32.ofInt 1)))]) ⟨rfl, rfl, rfl, trivial⟩ rfl k
          have k := ih (v1 ||| ((Int32.ofInt 1) <<< (v2 &&& 31))) (v2 + (Int32.ofInt 1)) (lx_dec h20 hc) k
          rw [k, x221_13, if_neg h20, if_pos h31, if_neg h41]
      · rw [if_neg h31] at k
        have k := ly_revb 8 (c' := (13, [(2, .int (v2 + (Int32.ofInt 1))), (1, .int (v1 ||| ((Int32.ofInt 1) <<< (v2 &&& 31)))), (0, .ref (p 0))], [], me_w M J)) rfl k
        have k := nt_rn_w (a := [(2, .int (v2 + (Int32.ofInt 1))), (1, .int (v1 ||| ((Int32.ofInt 1) <<< (v2 &&& 31)))), (0, .ref (p 0))]) (b := [(0, .ref (p 0)), (1, .int (v1 ||| ((Int32.ofInt 1) <<< (v2 &&& 31)))), (2, .int (v2 + (Int32.ofInt 1)))]) ⟨rfl, rfl, rfl, trivial⟩ rfl k
        have k := ih (v1 ||| ((Int32.ofInt 1) <<< (v2 &&& 31))) (v2 + (Int32.ofInt 1)) (lx_dec h20 hc) k
        rw [k, x221_13, if_neg h20, if_neg h31]
theorem x221_13_rule {p : Nat → Nat} {J : Nat → Nat → Int32} {I : Nat → Int32 → Int32 → Prop} {Q : Int32 → Prop} (h0 : ∀ (v1 : Int32) (v2 : Int32), I 0 v1 v2 → Q v1) (h1 : ∀ (c : Nat) (v1 : Int32) (v2 : Int32), I (c + 1) v1 v2 →
    if (J (p 4) 1) ≤ v2 then (Q v1)
    else if (x218 p (Int32.ofInt 0) v2 J) = v2 then if (x218 p (Int32.ofInt 1) v2 J) = v2 then (I c (v1 ||| (Int32.ofInt 0)) (v2 + (Int32.ofInt 1)))
        else (I c (v1 ||| ((Int32.ofInt 1) <<< (v2 &&& 31))) (v2 + (Int32.ofInt 1)))
      else (I c (v1 ||| ((Int32.ofInt 1) <<< (v2 &&& 31))) (v2 + (Int32.ofInt 1)))) : ∀ (c : Nat) (v1 : Int32) (v2 : Int32), I c v1 v2 → Q (x221_13 p J c v1 v2) := by
  intro c
  induction c with
  | zero =>
    intro v1 v2 hi
    rw [x221_13]
    exact h0 v1 v2 hi
  | succ c ih =>
    intro v1 v2 hi
    have hi := h1 c v1 v2 hi
    rw [x221_13]
    by_cases h : (J (p 4) 1) ≤ v2
    · rw [if_pos h] at hi ⊢
      exact hi
    · rw [if_neg h] at hi ⊢
      by_cases h : (x218 p (Int32.ofInt 0) v2 J) = v2
      · rw [if_pos h] at hi ⊢
        by_cases h : (x218 p (Int32.ofInt 1) v2 J) = v2
        · rw [if_pos h] at hi ⊢
          exact ih _ _ hi
        · rw [if_neg h] at hi ⊢
          exact ih _ _ hi
      · rw [if_neg h] at hi ⊢
        exact ih _ _ hi
def x221 (p : Nat → Nat) (J : Nat → Nat → Int32) : Int32 := if (x188 p J) = 0 then (Int32.ofInt (-1))
  else (x221_13 p J ((J (p 4) 1).toNatClampNeg) (Int32.ofInt 0) (Int32.ofInt 0))
theorem xt221 {X : nt_X} {d : Nat} {M : nt_M} {o : Option Value × nt_M} {p : Nat → Nat} {J : Nat → Nat → Int32} (hp : xs_P M p) (k : nt_ev X d 221 [.ref (p 0)] (me_w M J) o) : o = (some (.int (x221 p J)), me_w M J) := by
  have k : nt_rn X d 221 (0, [(0, .ref (p 0))], [], me_w M J) o := k
  have k := ly_revb 1 (c' := (1, [(0, .ref (p 0))], [.ref (p 0)], me_w M J)) rfl k
  obtain ⟨d1, o1, ed, kc, k⟩ := lz_c (g := 188) (q := 1) (vs := [.ref (p 0)]) (rest := []) rfl rfl (by decide) (Or.inr (Or.inl ⟨_, rfl, rfl⟩)) rfl k
  have e1 := xt188 hp kc
  subst e1
  have k : nt_rn X _ 221 (4, [(0, .ref (p 0))], [.int (x188 p J)], me_w M J) _ := k
  have k := ly_revb 1 (c' := (if (x188 p J) = 0 then 7 else 9, [(0, .ref (p 0))], [], me_w M J)) rfl k
  by_cases h4 : (x188 p J) = 0
  · rw [if_pos h4] at k
    have k := ly_revb 1 (c' := (8, [(0, .ref (p 0))], [.int (Int32.ofInt (-1))], me_w M J)) rfl k
    have k := lz_ri rfl (by decide) k
    rw [k, x221, if_pos h4]
  · rw [if_neg h4] at k
    have k := ly_revb 4 (c' := (13, [(2, .int (Int32.ofInt 0)), (1, .int (Int32.ofInt 0)), (0, .ref (p 0))], [], me_w M J)) rfl k
    have k := nt_rn_w (a := [(2, .int (Int32.ofInt 0)), (1, .int (Int32.ofInt 0)), (0, .ref (p 0))]) (b := [(0, .ref (p 0)), (1, .int (Int32.ofInt 0)), (2, .int (Int32.ofInt 0))]) ⟨rfl, rfl, rfl, trivial⟩ rfl k
    have k := xt221_13 hp  ((J (p 4) 1).toNatClampNeg) (Int32.ofInt 0) (Int32.ofInt 0) (lx_beg (by decide)) k
    rw [k, x221, if_neg h4]
/-! Model.lostOnes -/
def x228_4 (p : Nat → Nat) (J : Nat → Nat → Int32) : Nat → Int32 → Int32 → Int32
  | 0, v1, v2 => v1
  | c + 1, v1, v2 => if (J (p 4) 1) ≤ v2 then v1
    else if (x169 p v2 (Int32.ofInt 4) J) = (Int32.ofInt 2) then (x228_4 p J c (v1 ||| ((Int32.ofInt 1) <<< (v2 &&& 31))) (v2 + (Int32.ofInt 1)))
      else (x228_4 p J c (v1 ||| (Int32.ofInt 0)) (v2 + (Int32.ofInt 1)))
theorem xt228_4 {X : nt_X} {d : Nat} {M : nt_M} {o : Option Value × nt_M} {p : Nat → Nat} {J : Nat → Nat → Int32} (hp : xs_P M p) : ∀ (c : Nat) (v1 : Int32) (v2 : Int32), (J (p 4) 1).toInt - v2.toInt ≤ c → nt_rn X d 228 (4, [(0, .ref (p 0)), (1, .int v1), (2, .int v2)], [], me_w M J) o → o = (some (.int (x228_4 p J c v1 v2)), me_w M J) := by
  intro c
  induction c with
  | zero =>
    intro v1 v2 hc k
    have k := ly_revb 2 (c' := (6, [(0, .ref (p 0)), (1, .int v1), (2, .int v2)], [.ref (p 0), .int v2], me_w M J)) rfl k
    have k := lz_get (a := (p 0)) (g := 1127) (M := me_w M J) (v := .ref (p 4)) rfl (nt_gfR rfl (hp.1 (0, 27, 4) (by decide))) k
    have k := ly_revb 1 (c' := (10, [(0, .ref (p 0)), (1, .int v1), (2, .int v2)], [.int (Int32.ofInt 1), .ref (p 4), .int v2], me_w M J)) rfl k
    have k := mx_iald (v := J (p 4) 1) rfl (hp.2.2.1 4 (by omega)) ((congrArg (J (p 4)) (show (Int32.ofInt 1).toNatClampNeg = 1 from rfl)).trans (rfl)) k
    have k := ly_revb 1 (c' := (if (J (p 4) 1) ≤ v2 then 40 else 14, [(0, .ref (p 0)), (1, .int v1), (2, .int v2)], [], me_w M J)) rfl k
    have h11 : (J (p 4) 1) ≤ v2 := lx_end hc
    rw [if_pos h11] at k
    have k := ly_revb 1 (c' := (41, [(0, .ref (p 0)), (1, .int v1), (2, .int v2)], [.int v1], me_w M J)) rfl k
    have k := lz_ri rfl (by decide) k
    rw [k, x228_4]
  | succ c ih =>
    intro v1 v2 hc k
    have k := ly_revb 2 (c' := (6, [(0, .ref (p 0)), (1, .int v1), (2, .int v2)], [.ref (p 0), .int v2], me_w M J)) rfl k
    have k := lz_get (a := (p 0)) (g := 1127) (M := me_w M J) (v := .ref (p 4)) rfl (nt_gfR rfl (hp.1 (0, 27, 4) (by decide))) k
    have k := ly_revb 1 (c' := (10, [(0, .ref (p 0)), (1, .int v1), (2, .int v2)], [.int (Int32.ofInt 1), .ref (p 4), .int v2], me_w M J)) rfl k
    have k := mx_iald (v := J (p 4) 1) rfl (hp.2.2.1 4 (by omega)) ((congrArg (J (p 4)) (show (Int32.ofInt 1).toNatClampNeg = 1 from rfl)).trans (rfl)) k
    have k := ly_revb 1 (c' := (if (J (p 4) 1) ≤ v2 then 40 else 14, [(0, .ref (p 0)), (1, .int v1), (2, .int v2)], [], me_w M J)) rfl k
    by_cases h11 : (J (p 4) 1) ≤ v2
    · rw [if_pos h11] at k
      have k := ly_revb 1 (c' := (41, [(0, .ref (p 0)), (1, .int v1), (2, .int v2)], [.int v1], me_w M J)) rfl k
      have k := lz_ri rfl (by decide) k
      rw [k, x228_4, if_pos h11]
    · rw [if_neg h11] at k
      have k := ly_revb 4 (c' := (18, [(0, .ref (p 0)), (1, .int v1), (2, .int v2)], [.int (Int32.ofInt 4), .int v2, .ref (p 0), .int v1], me_w M J)) rfl k
      obtain ⟨d1, o1, ed, kc, k⟩ := lz_c (g := 169) (q := 1) (vs := [.ref (p 0), .int v2, .int (Int32.ofInt 4)]) (rest := [.int v1]) rfl rfl (by decide) (Or.inr (Or.inl ⟨_, rfl, rfl⟩)) rfl k
      have e1 := xt169 hp kc
      subst e1
      have k : nt_rn X _ 228 (21, [(0, .ref (p 0)), (1, .int v1), (2, .int v2)], [.int (x169 p v2 (Int32.ofInt 4) J), .int v1], me_w M J) _ := k
      have k := ly_revb 2 (c' := (if (x169 p v2 (Int32.ofInt 4) J) = (Int32.ofInt 2) then 25 else 31, [(0, .ref (p 0)), (1, .int v1), (2, .int v2)], [.int v1], me_w M J)) rfl k
      by_cases h22 : (x169 p v2 (Int32.ofInt 4) J) = (Int32.ofInt 2)
      · rw [if_pos h22] at k
        have k := ly_revb 8 (c' := (4, [(2, .int (v2 + (Int32.ofInt 1))), (1, .int (v1 ||| ((Int32.ofInt 1) <<< (v2 &&& 31)))), (0, .ref (p 0))], [], me_w M J)) rfl k
        have k := nt_rn_w (a := [(2, .int (v2 + (Int32.ofInt 1))), (1, .int (v1 ||| ((Int32.ofInt 1) <<< (v2 &&& 31)))), (0, .ref (p 0))]) (b := [(0, .ref (p 0)), (1, .int (v1 ||| ((Int32.ofInt 1) <<< (v2 &&& 31)))), (2, .int (v2 + (Int32.ofInt 1)))]) ⟨rfl, rfl, rfl, trivial⟩ rfl k
        have k := ih (v1 ||| ((Int32.ofInt 1) <<< (v2 &&& 31))) (v2 + (Int32.ofInt 1)) (lx_dec h11 hc) k
        rw [k, x228_4, if_neg h11, if_pos h22]
      · rw [if_neg h22] at k
        have k := ly_revb 5 (c' := (4, [(2, .int (v2 + (Int32.ofInt 1))), (1, .int (v1 ||| (Int32.ofInt 0))), (0, .ref (p 0))], [], me_w M J)) rfl k
        have k := nt_rn_w (a := [(2, .int (v2 + (Int32.ofInt 1))), (1, .int (v1 ||| (Int32.ofInt 0))), (0, .ref (p 0))]) (b := [(0, .ref (p 0)), (1, .int (v1 ||| (Int32.ofInt 0))), (2, .int (v2 + (Int32.ofInt 1)))]) ⟨rfl, rfl, rfl, trivial⟩ rfl k
        have k := ih (v1 ||| (Int32.ofInt 0)) (v2 + (Int32.ofInt 1)) (lx_dec h11 hc) k
        rw [k, x228_4, if_neg h11, if_neg h22]
theorem x228_4_rule {p : Nat → Nat} {J : Nat → Nat → Int32} {I : Nat → Int32 → Int32 → Prop} {Q : Int32 → Prop} (h0 : ∀ (v1 : Int32) (v2 : Int32), I 0 v1 v2 → Q v1) (h1 : ∀ (c : Nat) (v1 : Int32) (v2 : Int32), I (c + 1) v1 v2 →
    if (J (p 4) 1) ≤ v2 then (Q v1)
    else if (x169 p v2 (Int32.ofInt 4) J) = (Int32.ofInt 2) then (I c (v1 ||| ((Int32.ofInt 1) <<< (v2 &&& 31))) (v2 + (Int32.ofInt 1)))
      else (I c (v1 ||| (Int32.ofInt 0)) (v2 + (Int32.ofInt 1)))) : ∀ (c : Nat) (v1 : Int32) (v2 : Int32), I c v1 v2 → Q (x228_4 p J c v1 v2) := by
  intro c
  induction c with
  | zero =>
    intro v1 v2 hi
    rw [x228_4]
    exact h0 v1 v2 hi
  | succ c ih =>
    intro v1 v2 hi
    have hi := h1 c v1 v2 hi
    rw [x228_4]
    by_cases h : (J (p 4) 1) ≤ v2
    · rw [if_pos h] at hi ⊢
      exact hi
    · rw [if_neg h] at hi ⊢
      by_cases h : (x169 p v2 (Int32.ofInt 4) J) = (Int32.ofInt 2)
      · rw [if_pos h] at hi ⊢
        exact ih _ _ hi
      · rw [if_neg h] at hi ⊢
        exact ih _ _ hi
def x228 (p : Nat → Nat) (J : Nat → Nat → Int32) : Int32 := (x228_4 p J ((J (p 4) 1).toNatClampNeg) (Int32.ofInt 0) (Int32.ofInt 0))
theorem xt228 {X : nt_X} {d : Nat} {M : nt_M} {o : Option Value × nt_M} {p : Nat → Nat} {J : Nat → Nat → Int32} (hp : xs_P M p) (k : nt_ev X d 228 [.ref (p 0)] (me_w M J) o) : o = (some (.int (x228 p J)), me_w M J) := by
  have k : nt_rn X d 228 (0, [(0, .ref (p 0))], [], me_w M J) o := k
  have k := ly_revb 4 (c' := (4, [(2, .int (Int32.ofInt 0)), (1, .int (Int32.ofInt 0)), (0, .ref (p 0))], [], me_w M J)) rfl k
  have k := nt_rn_w (a := [(2, .int (Int32.ofInt 0)), (1, .int (Int32.ofInt 0)), (0, .ref (p 0))]) (b := [(0, .ref (p 0)), (1, .int (Int32.ofInt 0)), (2, .int (Int32.ofInt 0))]) ⟨rfl, rfl, rfl, trivial⟩ rfl k
  have k := xt228_4 hp  ((J (p 4) 1).toNatClampNeg) (Int32.ofInt 0) (Int32.ofInt 0) (lx_beg (by decide)) k
  rw [k, x228]
/-! .same -/
def x119 (p : Nat → Nat) (v1 : Int32) (v2 : Int32) (J : Nat → Nat → Int32) : Int32 := if v1 < 0 then (Int32.ofInt (-2))
  else if (Int32.ofInt 2) < v1 then (Int32.ofInt (-2))
    else if (x65 (fun i => p (31 + i)) v2 J) = 0 then (Int32.ofInt (-2))
      else (x76 (fun i => p (31 + i)) v1 v2 J)
theorem xt119 {X : nt_X} {d : Nat} {M : nt_M} {o : Option Value × nt_M} {p : Nat → Nat} {v1 : Int32} {v2 : Int32} {J : Nat → Nat → Int32} (hp : xs_P M p) (hn : xs_Q M (fun i => p (31 + i))) (k : nt_ev X d 119 [.ref (p 16), .int v1, .int v2] (me_w M J) o) : o = (some (.int (x119 p v1 v2 J)), me_w M J) := by
  have k : nt_rn X d 119 (0, [(0, .ref (p 16)), (1, .int v1), (2, .int v2)], [], me_w M J) o := k
  have k := ly_revb 2 (c' := (if v1 < 0 then 20 else 4, [(0, .ref (p 16)), (1, .int v1), (2, .int v2)], [], me_w M J)) rfl k
  by_cases h1 : v1 < 0
  · rw [if_pos h1] at k
    have k := ly_revb 1 (c' := (22, [(0, .ref (p 16)), (1, .int v1), (2, .int v2)], [.int (Int32.ofInt (-2))], me_w M J)) rfl k
    have k := lz_ri rfl (by decide) k
    rw [k, x119, if_pos h1]
  · rw [if_neg h1] at k
    have k := ly_revb 3 (c' := (if (Int32.ofInt 2) < v1 then 20 else 9, [(0, .ref (p 16)), (1, .int v1), (2, .int v2)], [], me_w M J)) rfl k
    by_cases h6 : (Int32.ofInt 2) < v1
    · rw [if_pos h6] at k
      have k := ly_revb 1 (c' := (22, [(0, .ref (p 16)), (1, .int v1), (2, .int v2)], [.int (Int32.ofInt (-2))], me_w M J)) rfl k
      have k := lz_ri rfl (by decide) k
      rw [k, x119, if_neg h1, if_pos h6]
    · rw [if_neg h6] at k
      have k := ly_revb 1 (c' := (10, [(0, .ref (p 16)), (1, .int v1), (2, .int v2)], [.ref (p 16)], me_w M J)) rfl k
      have k := lz_get (a := (p 16)) (g := 1007) (M := me_w M J) (v := .ref (p 31)) rfl (nt_gfR rfl (hp.1 (16, 7, 31) (by decide))) k
      have k := ly_revb 1 (c' := (14, [(0, .ref (p 16)), (1, .int v1), (2, .int v2)], [.int v2, .ref (p 31)], me_w M J)) rfl k
      obtain ⟨d1, o1, ed, kc, k⟩ := lz_c (g := 65) (q := 1) (vs := [.ref (p 31), .int v2]) (rest := []) rfl rfl (by decide) (Or.inr (Or.inl ⟨_, rfl, rfl⟩)) rfl k
      have e1 := xt65 hn kc
      subst e1
      have k : nt_rn X _ 119 (17, [(0, .ref (p 16)), (1, .int v1), (2, .int v2)], [.int (x65 (fun i => p (31 + i)) v2 J)], me_w M J) _ := k
      have k := ly_revb 1 (c' := (if (x65 (fun i => p (31 + i)) v2 J) = 0 then 20 else 23, [(0, .ref (p 16)), (1, .int v1), (2, .int v2)], [], me_w M J)) rfl k
      by_cases h17 : (x65 (fun i => p (31 + i)) v2 J) = 0
      · rw [if_pos h17] at k
        have k := ly_revb 1 (c' := (22, [(0, .ref (p 16)), (1, .int v1), (2, .int v2)], [.int (Int32.ofInt (-2))], me_w M J)) rfl k
        have k := lz_ri rfl (by decide) k
        rw [k, x119, if_neg h1, if_neg h6, if_pos h17]
      · rw [if_neg h17] at k
        have k := ly_revb 1 (c' := (24, [(0, .ref (p 16)), (1, .int v1), (2, .int v2)], [.ref (p 16)], me_w M J)) rfl k
        have k := lz_get (a := (p 16)) (g := 1007) (M := me_w M J) (v := .ref (p 31)) rfl (nt_gfR rfl (hp.1 (16, 7, 31) (by decide))) k
        have k := ly_revb 2 (c' := (29, [(0, .ref (p 16)), (1, .int v1), (2, .int v2)], [.int v2, .int v1, .ref (p 31)], me_w M J)) rfl k
        obtain ⟨d1, o1, ed, kc, k⟩ := lz_c (g := 76) (q := 1) (vs := [.ref (p 31), .int v1, .int v2]) (rest := []) rfl rfl (by decide) (Or.inr (Or.inl ⟨_, rfl, rfl⟩)) rfl k
        have e1 := xt76 hn kc
        subst e1
        have k : nt_rn X _ 119 (32, [(0, .ref (p 16)), (1, .int v1), (2, .int v2)], [.int (x76 (fun i => p (31 + i)) v1 v2 J)], me_w M J) _ := k
        have k := lz_ri rfl (by decide) k
        rw [k, x119, if_neg h1, if_neg h6, if_neg h17]
/-! .unlike -/
def x120_16 (p : Nat → Nat) (J : Nat → Nat → Int32) : Nat → Int32 → Int32 → Int32
  | 0, v1, v2 => v1
  | c + 1, v1, v2 => if (J (p 32) 1) ≤ v2 then v1
    else if (x76 (fun i => p (31 + i)) (Int32.ofInt 0) v2 J) = v2 then if (x76 (fun i => p (31 + i)) (Int32.ofInt 1) v2 J) = v2 then (x120_16 p J c v1 (v2 + (Int32.ofInt 1)))
        else (x120_16 p J c (v1 ||| ((Int32.ofInt 1) <<< (v2 &&& 31))) (v2 + (Int32.ofInt 1)))
      else (x120_16 p J c (v1 ||| ((Int32.ofInt 1) <<< (v2 &&& 31))) (v2 + (Int32.ofInt 1)))
theorem xt120_16 {X : nt_X} {d : Nat} {M : nt_M} {o : Option Value × nt_M} {p : Nat → Nat} {J : Nat → Nat → Int32} (hp : xs_P M p) (hn : xs_Q M (fun i => p (31 + i))) : ∀ (c : Nat) (v1 : Int32) (v2 : Int32), (J (p 32) 1).toInt - v2.toInt ≤ c → nt_rn X d 120 (16, [(0, .ref (p 16)), (1, .int v1), (2, .int v2)], [], me_w M J) o → o = (some (.int (x120_16 p J c v1 v2)), me_w M J) := by
  intro c
  induction c with
  | zero =>
    intro v1 v2 hc k
    have k := ly_revb 2 (c' := (18, [(0, .ref (p 16)), (1, .int v1), (2, .int v2)], [.ref (p 16), .int v2], me_w M J)) rfl k
    have k := lz_get (a := (p 16)) (g := 1007) (M := me_w M J) (v := .ref (p 31)) rfl (nt_gfR rfl (hp.1 (16, 7, 31) (by decide))) k
    have k := lz_get (a := (p 31)) (g := 600) (M := me_w M J) (v := .ref (p 32)) rfl (nt_gfR rfl (hn.1 (0, 0, 1) (by decide))) k
    have k := lz_get (a := (p 32)) (g := 801) (M := me_w M J) (v := .int (J (p 32) 1)) rfl (congrArg Value.int (rfl)) k
    have k := ly_revb 1 (c' := (if (J (p 32) 1) ≤ v2 then 68 else 30, [(0, .ref (p 16)), (1, .int v1), (2, .int v2)], [], me_w M J)) rfl k
    have h27 : (J (p 32) 1) ≤ v2 := lx_end hc
    rw [if_pos h27] at k
    have k := ly_revb 1 (c' := (69, [(0, .ref (p 16)), (1, .int v1), (2, .int v2)], [.int v1], me_w M J)) rfl k
    have k := lz_ri rfl (by decide) k
    rw [k, x120_16]
  | succ c ih =>
    intro v1 v2 hc k
    have k := ly_revb 2 (c' := (18, [(0, .ref (p 16)), (1, .int v1), (2, .int v2)], [.ref (p 16), .int v2], me_w M J)) rfl k
    have k := lz_get (a := (p 16)) (g := 1007) (M := me_w M J) (v := .ref (p 31)) rfl (nt_gfR rfl (hp.1 (16, 7, 31) (by decide))) k
    have k := lz_get (a := (p 31)) (g := 600) (M := me_w M J) (v := .ref (p 32)) rfl (nt_gfR rfl (hn.1 (0, 0, 1) (by decide))) k
    have k := lz_get (a := (p 32)) (g := 801) (M := me_w M J) (v := .int (J (p 32) 1)) rfl (congrArg Value.int (rfl)) k
    have k := ly_revb 1 (c' := (if (J (p 32) 1) ≤ v2 then 68 else 30, [(0, .ref (p 16)), (1, .int v1), (2, .int v2)], [], me_w M J)) rfl k
    by_cases h27 : (J (p 32) 1) ≤ v2
    · rw [if_pos h27] at k
      have k := ly_revb 1 (c' := (69, [(0, .ref (p 16)), (1, .int v1), (2, .int v2)], [.int v1], me_w M J)) rfl k
      have k := lz_ri rfl (by decide) k
      rw [k, x120_16, if_pos h27]
    · rw [if_neg h27] at k
      have k := ly_revb 1 (c' := (31, [(0, .ref (p 16)), (1, .int v1), (2, .int v2)], [.ref (p 16)], me_w M J)) rfl k
      have k := lz_get (a := (p 16)) (g := 1007) (M := me_w M J) (v := .ref (p 31)) rfl (nt_gfR rfl (hp.1 (16, 7, 31) (by decide))) k
      have k := ly_revb 2 (c' := (36, [(0, .ref (p 16)), (1, .int v1), (2, .int v2)], [.int v2, .int (Int32.ofInt 0), .ref (p 31)], me_w M J)) rfl k
      obtain ⟨d1, o1, ed, kc, k⟩ := lz_c (g := 76) (q := 1) (vs := [.ref (p 31), .int (Int32.ofInt 0), .int v2]) (rest := []) rfl rfl (by decide) (Or.inr (Or.inl ⟨_, rfl, rfl⟩)) rfl k
      have e1 := xt76 hn kc
      subst e1
      have k : nt_rn X _ 120 (39, [(0, .ref (p 16)), (1, .int v1), (2, .int v2)], [.int (x76 (fun i => p (31 + i)) (Int32.ofInt 0) v2 J)], me_w M J) _ := k
      have k := ly_revb 2 (c' := (if (x76 (fun i => p (31 + i)) (Int32.ofInt 0) v2 J) = v2 then 43 else 56, [(0, .ref (p 16)), (1, .int v1), (2, .int v2)], [], me_w M J)) rfl k
      by_cases h40 : (x76 (fun i => p (31 + i)) (Int32.ofInt 0) v2 J) = v2
      · rw [if_pos h40] at k
        have k := ly_revb 1 (c' := (44, [(0, .ref (p 16)), (1, .int v1), (2, .int v2)], [.ref (p 16)], me_w M J)) rfl k
        have k := lz_get (a := (p 16)) (g := 1007) (M := me_w M J) (v := .ref (p 31)) rfl (nt_gfR rfl (hp.1 (16, 7, 31) (by decide))) k
        have k := ly_revb 2 (c' := (49, [(0, .ref (p 16)), (1, .int v1), (2, .int v2)], [.int v2, .int (Int32.ofInt 1), .ref (p 31)], me_w M J)) rfl k
        obtain ⟨d1, o1, ed, kc, k⟩ := lz_c (g := 76) (q := 1) (vs := [.ref (p 31), .int (Int32.ofInt 1), .int v2]) (rest := []) rfl rfl (by decide) (Or.inr (Or.inl ⟨_, rfl, rfl⟩)) rfl k
        have e1 := xt76 hn kc
        subst e1
        have k : nt_rn X _ 120 (52, [(0, .ref (p 16)), (1, .int v1), (2, .int v2)], [.int (x76 (fun i => p (31 + i)) (Int32.ofInt 1) v2 J)], me_w M J) _ := k
        have k := ly_revb 2 (c' := (if (x76 (fun i => p (31 + i)) (Int32.ofInt 1) v2 J) = v2 then 62 else 56, [(0, .ref (p 16)), (1, .int v1), (2, .int v2)], [], me_w M J)) rfl k
        by_cases h53 : (x76 (fun i => p (31 + i)) (Int32.ofInt 1) v2 J) = v2
        · rw [if_pos h53] at k
          have k := ly_revb 2 (c' := (16, [(2, .int (v2 + (Int32.ofInt 1))), (0, .ref (p 16)), (1, .int v1)], [], me_w M J)) rfl k
          have k := nt_rn_w (a := [(2, .int (v2 + (Int32.ofInt 1))), (0, .ref (p 16)), (1, .int v1)]) (b := [(0, .ref (p 16)), (1, .int v1), (2, .int (v2 + (Int32.ofInt 1)))]) ⟨rfl, rfl, rfl, trivial⟩ rfl k
          have k := ih v1 (v2 + (Int32.ofInt 1)) (lx_dec h27 hc) k
          rw [k, x120_16, if_neg h27, if_pos h40, if_pos h53]
        · rw [if_neg h53] at k
          have k := ly_revb 8 (c' := (16, [(2, .int (v2 + (Int32.ofInt 1))), (1, .int (v1 ||| ((Int32.ofInt 1) <<< (v2 &&& 31)))), (0, .ref (p 16))], [], me_w M J)) rfl k
          have k := nt_rn_w (a := [(2, .int (v2 + (Int32.ofInt 1))), (1, .int (v1 ||| ((Int32.ofInt 1) <<< (v2 &&& 31)))), (0, .ref (p 16))]) (b := [(0, .ref (p 16)), (1, .int (v1 ||| ((Int32.ofInt 1) <<< (v2 &&& 31)))), (2, .int (v2 + (Int32.ofInt 1)))]) ⟨rfl, rfl, rfl, trivial⟩ rfl k
          have k := ih (v1 ||| ((Int32.ofInt 1) <<< (v2 &&& 31))) (v2 + (Int32.ofInt 1)) (lx_dec h27 hc) k
          rw [k, x120_16, if_neg h27, if_pos h40, if_neg h53]
      · rw [if_neg h40] at k
        have k := ly_revb 8 (c' := (16, [(2, .int (v2 + (Int32.ofInt 1))), (1, .int (v1 ||| ((Int32.ofInt 1) <<< (v2 &&& 31)))), (0, .ref (p 16))], [], me_w M J)) rfl k
        have k := nt_rn_w (a := [(2, .int (v2 + (Int32.ofInt 1))), (1, .int (v1 ||| ((Int32.ofInt 1) <<< (v2 &&& 31)))), (0, .ref (p 16))]) (b := [(0, .ref (p 16)), (1, .int (v1 ||| ((Int32.ofInt 1) <<< (v2 &&& 31)))), (2, .int (v2 + (Int32.ofInt 1)))]) ⟨rfl, rfl, rfl, trivial⟩ rfl k
        have k := ih (v1 ||| ((Int32.ofInt 1) <<< (v2 &&& 31))) (v2 + (Int32.ofInt 1)) (lx_dec h27 hc) k
        rw [k, x120_16, if_neg h27, if_neg h40]
theorem x120_16_rule {p : Nat → Nat} {J : Nat → Nat → Int32} {I : Nat → Int32 → Int32 → Prop} {Q : Int32 → Prop} (h0 : ∀ (v1 : Int32) (v2 : Int32), I 0 v1 v2 → Q v1) (h1 : ∀ (c : Nat) (v1 : Int32) (v2 : Int32), I (c + 1) v1 v2 →
    if (J (p 32) 1) ≤ v2 then (Q v1)
    else if (x76 (fun i => p (31 + i)) (Int32.ofInt 0) v2 J) = v2 then if (x76 (fun i => p (31 + i)) (Int32.ofInt 1) v2 J) = v2 then (I c v1 (v2 + (Int32.ofInt 1)))
        else (I c (v1 ||| ((Int32.ofInt 1) <<< (v2 &&& 31))) (v2 + (Int32.ofInt 1)))
      else (I c (v1 ||| ((Int32.ofInt 1) <<< (v2 &&& 31))) (v2 + (Int32.ofInt 1)))) : ∀ (c : Nat) (v1 : Int32) (v2 : Int32), I c v1 v2 → Q (x120_16 p J c v1 v2) := by
  intro c
  induction c with
  | zero =>
    intro v1 v2 hi
    rw [x120_16]
    exact h0 v1 v2 hi
  | succ c ih =>
    intro v1 v2 hi
    have hi := h1 c v1 v2 hi
    rw [x120_16]
    by_cases h : (J (p 32) 1) ≤ v2
    · rw [if_pos h] at hi ⊢
      exact hi
    · rw [if_neg h] at hi ⊢
      by_cases h : (x76 (fun i => p (31 + i)) (Int32.ofInt 0) v2 J) = v2
      · rw [if_pos h] at hi ⊢
        by_cases h : (x76 (fun i => p (31 + i)) (Int32.ofInt 1) v2 J) = v2
        · rw [if_pos h] at hi ⊢
          exact ih _ _ hi
        · rw [if_neg h] at hi ⊢
          exact ih _ _ hi
      · rw [if_neg h] at hi ⊢
        exact ih _ _ hi
def x120 (p : Nat → Nat) (J : Nat → Nat → Int32) : Int32 := if (J (p 31) 1) = 0 then (Int32.ofInt (-1))
  else (x120_16 p J ((J (p 32) 1).toNatClampNeg) (Int32.ofInt 0) (Int32.ofInt 0))
theorem xt120 {X : nt_X} {d : Nat} {M : nt_M} {o : Option Value × nt_M} {p : Nat → Nat} {J : Nat → Nat → Int32} (hp : xs_P M p) (hn : xs_Q M (fun i => p (31 + i))) (k : nt_ev X d 120 [.ref (p 16)] (me_w M J) o) : o = (some (.int (x120 p J)), me_w M J) := by
  have k : nt_rn X d 120 (0, [(0, .ref (p 16))], [], me_w M J) o := k
  have k := ly_revb 1 (c' := (1, [(0, .ref (p 16))], [.ref (p 16)], me_w M J)) rfl k
  have k := lz_get (a := (p 16)) (g := 1007) (M := me_w M J) (v := .ref (p 31)) rfl (nt_gfR rfl (hp.1 (16, 7, 31) (by decide))) k
  have k := lz_get (a := (p 31)) (g := 601) (M := me_w M J) (v := .int (J (p 31) 1)) rfl (congrArg Value.int (rfl)) k
  have k := ly_revb 1 (c' := (if (J (p 31) 1) = 0 then 10 else 12, [(0, .ref (p 16))], [], me_w M J)) rfl k
  by_cases h7 : (J (p 31) 1) = 0
  · rw [if_pos h7] at k
    have k := ly_revb 1 (c' := (11, [(0, .ref (p 16))], [.int (Int32.ofInt (-1))], me_w M J)) rfl k
    have k := lz_ri rfl (by decide) k
    rw [k, x120, if_pos h7]
  · rw [if_neg h7] at k
    have k := ly_revb 4 (c' := (16, [(2, .int (Int32.ofInt 0)), (1, .int (Int32.ofInt 0)), (0, .ref (p 16))], [], me_w M J)) rfl k
    have k := nt_rn_w (a := [(2, .int (Int32.ofInt 0)), (1, .int (Int32.ofInt 0)), (0, .ref (p 16))]) (b := [(0, .ref (p 16)), (1, .int (Int32.ofInt 0)), (2, .int (Int32.ofInt 0))]) ⟨rfl, rfl, rfl, trivial⟩ rfl k
    have k := xt120_16 hp hn  ((J (p 32) 1).toNatClampNeg) (Int32.ofInt 0) (Int32.ofInt 0) (lx_beg (by decide)) k
    rw [k, x120, if_neg h7]
