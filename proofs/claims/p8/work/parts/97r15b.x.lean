/-! Model.isOf -/
def x209 (v0 : Int32) (v1 : Int32) : Int32 := if ((v0 >>> (v1 &&& 31)) &&& (Int32.ofInt 1)) = (Int32.ofInt 1) then (Int32.ofInt 1)
  else (Int32.ofInt 0)
theorem xt209 {X : nt_X} {d : Nat} {M : nt_M} {o : Option Value × nt_M} {v0 : Int32} {v1 : Int32} {J : Nat → Nat → Int32}  (k : nt_ev X d 209 [.int v0, .int v1] (me_w M J) o) : o = (some (.int (x209 v0 v1)), me_w M J) := by
  have k : nt_rn X d 209 (0, [(0, .int v0), (1, .int v1)], [], me_w M J) o := k
  have k := ly_revb 7 (c' := (if ((v0 >>> (v1 &&& 31)) &&& (Int32.ofInt 1)) = (Int32.ofInt 1) then 9 else 13, [(0, .int v0), (1, .int v1)], [], me_w M J)) rfl k
  by_cases h6 : ((v0 >>> (v1 &&& 31)) &&& (Int32.ofInt 1)) = (Int32.ofInt 1)
  · rw [if_pos h6] at k
    have k := ly_revb 2 (c' := (14, [(0, .int v0), (1, .int v1)], [.int (Int32.ofInt 1)], me_w M J)) rfl k
    have k := lz_ri rfl (by decide) k
    rw [k, x209, if_pos h6]
  · rw [if_neg h6] at k
    have k := ly_revb 1 (c' := (14, [(0, .int v0), (1, .int v1)], [.int (Int32.ofInt 0)], me_w M J)) rfl k
    have k := lz_ri rfl (by decide) k
    rw [k, x209, if_neg h6]
/-! Model.isOn -/
def x208 (p : Nat → Nat) (v1 : Int32) (v2 : Int32) (v3 : Int32) (J : Nat → Nat → Int32) : Int32 := if (x209 v1 v2) = 0 then (Int32.ofInt 0)
  else if v3 < (x180 p v2 (Int32.ofInt 1) J) then (Int32.ofInt 0)
    else if (x180 p v2 (Int32.ofInt 2) J) ≤ v3 then (Int32.ofInt 0)
      else (Int32.ofInt 1)
theorem xt208 {X : nt_X} {d : Nat} {M : nt_M} {o : Option Value × nt_M} {p : Nat → Nat} {v1 : Int32} {v2 : Int32} {v3 : Int32} {J : Nat → Nat → Int32} (hp : xs_P M p) (k : nt_ev X d 208 [.ref (p 0), .int v1, .int v2, .int v3] (me_w M J) o) : o = (some (.int (x208 p v1 v2 v3 J)), me_w M J) := by
  have k : nt_rn X d 208 (0, [(0, .ref (p 0)), (1, .int v1), (2, .int v2), (3, .int v3)], [], me_w M J) o := k
  have k := ly_revb 2 (c' := (2, [(0, .ref (p 0)), (1, .int v1), (2, .int v2), (3, .int v3)], [.int v2, .int v1], me_w M J)) rfl k
  obtain ⟨d1, o1, ed, kc, k⟩ := lz_c (g := 209) (q := 0) (vs := [.int v1, .int v2]) (rest := []) rfl rfl (by decide) (Or.inl ⟨_, rfl, rfl⟩) rfl k
  have e1 := xt209  kc
  subst e1
  have k : nt_rn X _ 208 (5, [(0, .ref (p 0)), (1, .int v1), (2, .int v2), (3, .int v3)], [.int (x209 v1 v2)], me_w M J) _ := k
  have k := ly_revb 1 (c' := (if (x209 v1 v2) = 0 then 32 else 8, [(0, .ref (p 0)), (1, .int v1), (2, .int v2), (3, .int v3)], [], me_w M J)) rfl k
  by_cases h5 : (x209 v1 v2) = 0
  · rw [if_pos h5] at k
    have k := ly_revb 1 (c' := (33, [(0, .ref (p 0)), (1, .int v1), (2, .int v2), (3, .int v3)], [.int (Int32.ofInt 0)], me_w M J)) rfl k
    have k := lz_ri rfl (by decide) k
    rw [k, x208, if_pos h5]
  · rw [if_neg h5] at k
    have k := ly_revb 3 (c' := (11, [(0, .ref (p 0)), (1, .int v1), (2, .int v2), (3, .int v3)], [.int (Int32.ofInt 1), .int v2, .ref (p 0)], me_w M J)) rfl k
    obtain ⟨d1, o1, ed, kc, k⟩ := lz_c (g := 180) (q := 1) (vs := [.ref (p 0), .int v2, .int (Int32.ofInt 1)]) (rest := []) rfl rfl (by decide) (Or.inr (Or.inl ⟨_, rfl, rfl⟩)) rfl k
    have e1 := xt180 hp kc
    subst e1
    have k : nt_rn X _ 208 (14, [(0, .ref (p 0)), (1, .int v1), (2, .int v2), (3, .int v3)], [.int (x180 p v2 (Int32.ofInt 1) J)], me_w M J) _ := k
    have k := ly_revb 2 (c' := (if v3 < (x180 p v2 (Int32.ofInt 1) J) then 32 else 18, [(0, .ref (p 0)), (1, .int v1), (2, .int v2), (3, .int v3)], [], me_w M J)) rfl k
    by_cases h15 : v3 < (x180 p v2 (Int32.ofInt 1) J)
    · rw [if_pos h15] at k
      have k := ly_revb 1 (c' := (33, [(0, .ref (p 0)), (1, .int v1), (2, .int v2), (3, .int v3)], [.int (Int32.ofInt 0)], me_w M J)) rfl k
      have k := lz_ri rfl (by decide) k
      rw [k, x208, if_neg h5, if_pos h15]
    · rw [if_neg h15] at k
      have k := ly_revb 4 (c' := (22, [(0, .ref (p 0)), (1, .int v1), (2, .int v2), (3, .int v3)], [.int (Int32.ofInt 2), .int v2, .ref (p 0), .int v3], me_w M J)) rfl k
      obtain ⟨d1, o1, ed, kc, k⟩ := lz_c (g := 180) (q := 1) (vs := [.ref (p 0), .int v2, .int (Int32.ofInt 2)]) (rest := [.int v3]) rfl rfl (by decide) (Or.inr (Or.inl ⟨_, rfl, rfl⟩)) rfl k
      have e1 := xt180 hp kc
      subst e1
      have k : nt_rn X _ 208 (25, [(0, .ref (p 0)), (1, .int v1), (2, .int v2), (3, .int v3)], [.int (x180 p v2 (Int32.ofInt 2) J), .int v3], me_w M J) _ := k
      have k := ly_revb 1 (c' := (if (x180 p v2 (Int32.ofInt 2) J) ≤ v3 then 32 else 28, [(0, .ref (p 0)), (1, .int v1), (2, .int v2), (3, .int v3)], [], me_w M J)) rfl k
      by_cases h25 : (x180 p v2 (Int32.ofInt 2) J) ≤ v3
      · rw [if_pos h25] at k
        have k := ly_revb 1 (c' := (33, [(0, .ref (p 0)), (1, .int v1), (2, .int v2), (3, .int v3)], [.int (Int32.ofInt 0)], me_w M J)) rfl k
        have k := lz_ri rfl (by decide) k
        rw [k, x208, if_neg h5, if_neg h15, if_pos h25]
      · rw [if_neg h25] at k
        have k := ly_revb 2 (c' := (33, [(0, .ref (p 0)), (1, .int v1), (2, .int v2), (3, .int v3)], [.int (Int32.ofInt 1)], me_w M J)) rfl k
        have k := lz_ri rfl (by decide) k
        rw [k, x208, if_neg h5, if_neg h15, if_neg h25]
/-! Model.notLost -/
def x210_4 (p : Nat → Nat) (v1 : Int32) (J : Nat → Nat → Int32) : Nat → Int32 → Int32 → Int32
  | 0, v2, v3 => v2
  | c + 1, v2, v3 => if (J (p 4) 2) ≤ v3 then v2
    else if (x173 p v3 (Int32.ofInt 0) J) = v1 then if (x173 p v3 (Int32.ofInt 4) J) = 0 then (x210_4 p v1 J c (v2 + (Int32.ofInt 1)) (v3 + (Int32.ofInt 1)))
        else (x210_4 p v1 J c (v2 + (Int32.ofInt 0)) (v3 + (Int32.ofInt 1)))
      else (x210_4 p v1 J c (v2 + (Int32.ofInt 0)) (v3 + (Int32.ofInt 1)))
theorem xt210_4 {X : nt_X} {d : Nat} {M : nt_M} {o : Option Value × nt_M} {p : Nat → Nat} {v1 : Int32} {J : Nat → Nat → Int32} (hp : xs_P M p) : ∀ (c : Nat) (v2 : Int32) (v3 : Int32), (J (p 4) 2).toInt - v3.toInt ≤ c → nt_rn X d 210 (4, [(0, .ref (p 0)), (1, .int v1), (2, .int v2), (3, .int v3)], [], me_w M J) o → o = (some (.int (x210_4 p v1 J c v2 v3)), me_w M J) := by
  intro c
  induction c with
  | zero =>
    intro v2 v3 hc k
    have k := ly_revb 2 (c' := (6, [(0, .ref (p 0)), (1, .int v1), (2, .int v2), (3, .int v3)], [.ref (p 0), .int v3], me_w M J)) rfl k
    have k := lz_get (a := (p 0)) (g := 1127) (M := me_w M J) (v := .ref (p 4)) rfl (nt_gfR rfl (hp.1 (0, 27, 4) (by decide))) k
    have k := ly_revb 1 (c' := (10, [(0, .ref (p 0)), (1, .int v1), (2, .int v2), (3, .int v3)], [.int (Int32.ofInt 2), .ref (p 4), .int v3], me_w M J)) rfl k
    have k := mx_iald (v := J (p 4) 2) rfl (hp.2.2.1 4 (by omega)) ((congrArg (J (p 4)) (show (Int32.ofInt 2).toNatClampNeg = 2 from rfl)).trans (rfl)) k
    have k := ly_revb 1 (c' := (if (J (p 4) 2) ≤ v3 then 47 else 14, [(0, .ref (p 0)), (1, .int v1), (2, .int v2), (3, .int v3)], [], me_w M J)) rfl k
    have h11 : (J (p 4) 2) ≤ v3 := lx_end hc
    rw [if_pos h11] at k
    have k := ly_revb 1 (c' := (48, [(0, .ref (p 0)), (1, .int v1), (2, .int v2), (3, .int v3)], [.int v2], me_w M J)) rfl k
    have k := lz_ri rfl (by decide) k
    rw [k, x210_4]
  | succ c ih =>
    intro v2 v3 hc k
    have k := ly_revb 2 (c' := (6, [(0, .ref (p 0)), (1, .int v1), (2, .int v2), (3, .int v3)], [.ref (p 0), .int v3], me_w M J)) rfl k
    have k := lz_get (a := (p 0)) (g := 1127) (M := me_w M J) (v := .ref (p 4)) rfl (nt_gfR rfl (hp.1 (0, 27, 4) (by decide))) k
    have k := ly_revb 1 (c' := (10, [(0, .ref (p 0)), (1, .int v1), (2, .int v2), (3, .int v3)], [.int (Int32.ofInt 2), .ref (p 4), .int v3], me_w M J)) rfl k
    have k := mx_iald (v := J (p 4) 2) rfl (hp.2.2.1 4 (by omega)) ((congrArg (J (p 4)) (show (Int32.ofInt 2).toNatClampNeg = 2 from rfl)).trans (rfl)) k
    have k := ly_revb 1 (c' := (if (J (p 4) 2) ≤ v3 then 47 else 14, [(0, .ref (p 0)), (1, .int v1), (2, .int v2), (3, .int v3)], [], me_w M J)) rfl k
    by_cases h11 : (J (p 4) 2) ≤ v3
    · rw [if_pos h11] at k
      have k := ly_revb 1 (c' := (48, [(0, .ref (p 0)), (1, .int v1), (2, .int v2), (3, .int v3)], [.int v2], me_w M J)) rfl k
      have k := lz_ri rfl (by decide) k
      rw [k, x210_4, if_pos h11]
    · rw [if_neg h11] at k
      have k := ly_revb 4 (c' := (18, [(0, .ref (p 0)), (1, .int v1), (2, .int v2), (3, .int v3)], [.int (Int32.ofInt 0), .int v3, .ref (p 0), .int v2], me_w M J)) rfl k
      obtain ⟨d1, o1, ed, kc, k⟩ := lz_c (g := 173) (q := 1) (vs := [.ref (p 0), .int v3, .int (Int32.ofInt 0)]) (rest := [.int v2]) rfl rfl (by decide) (Or.inr (Or.inl ⟨_, rfl, rfl⟩)) rfl k
      have e1 := xt173 hp kc
      subst e1
      have k : nt_rn X _ 210 (21, [(0, .ref (p 0)), (1, .int v1), (2, .int v2), (3, .int v3)], [.int (x173 p v3 (Int32.ofInt 0) J), .int v2], me_w M J) _ := k
      have k := ly_revb 2 (c' := (if (x173 p v3 (Int32.ofInt 0) J) = v1 then 25 else 38, [(0, .ref (p 0)), (1, .int v1), (2, .int v2), (3, .int v3)], [.int v2], me_w M J)) rfl k
      by_cases h22 : (x173 p v3 (Int32.ofInt 0) J) = v1
      · rw [if_pos h22] at k
        have k := ly_revb 3 (c' := (28, [(0, .ref (p 0)), (1, .int v1), (2, .int v2), (3, .int v3)], [.int (Int32.ofInt 4), .int v3, .ref (p 0), .int v2], me_w M J)) rfl k
        obtain ⟨d1, o1, ed, kc, k⟩ := lz_c (g := 173) (q := 1) (vs := [.ref (p 0), .int v3, .int (Int32.ofInt 4)]) (rest := [.int v2]) rfl rfl (by decide) (Or.inr (Or.inl ⟨_, rfl, rfl⟩)) rfl k
        have e1 := xt173 hp kc
        subst e1
        have k : nt_rn X _ 210 (31, [(0, .ref (p 0)), (1, .int v1), (2, .int v2), (3, .int v3)], [.int (x173 p v3 (Int32.ofInt 4) J), .int v2], me_w M J) _ := k
        have k := ly_revb 1 (c' := (if (x173 p v3 (Int32.ofInt 4) J) = 0 then 34 else 38, [(0, .ref (p 0)), (1, .int v1), (2, .int v2), (3, .int v3)], [.int v2], me_w M J)) rfl k
        by_cases h31 : (x173 p v3 (Int32.ofInt 4) J) = 0
        · rw [if_pos h31] at k
          have k := ly_revb 6 (c' := (4, [(3, .int (v3 + (Int32.ofInt 1))), (2, .int (v2 + (Int32.ofInt 1))), (0, .ref (p 0)), (1, .int v1)], [], me_w M J)) rfl k
          have k := nt_rn_w (a := [(3, .int (v3 + (Int32.ofInt 1))), (2, .int (v2 + (Int32.ofInt 1))), (0, .ref (p 0)), (1, .int v1)]) (b := [(0, .ref (p 0)), (1, .int v1), (2, .int (v2 + (Int32.ofInt 1))), (3, .int (v3 + (Int32.ofInt 1)))]) ⟨rfl, rfl, rfl, rfl, trivial⟩ rfl k
          have k := ih (v2 + (Int32.ofInt 1)) (v3 + (Int32.ofInt 1)) (lx_dec h11 hc) k
          rw [k, x210_4, if_neg h11, if_pos h22, if_pos h31]
        · rw [if_neg h31] at k
          have k := ly_revb 5 (c' := (4, [(3, .int (v3 + (Int32.ofInt 1))), (2, .int (v2 + (Int32.ofInt 0))), (0, .ref (p 0)), (1, .int v1)], [], me_w M J)) rfl k
          have k := nt_rn_w (a := [(3, .int (v3 + (Int32.ofInt 1))), (2, .int (v2 + (Int32.ofInt 0))), (0, .ref (p 0)), (1, .int v1)]) (b := [(0, .ref (p 0)), (1, .int v1), (2, .int (v2 + (Int32.ofInt 0))), (3, .int (v3 + (Int32.ofInt 1)))]) ⟨rfl, rfl, rfl, rfl, trivial⟩ rfl k
          have k := ih (v2 + (Int32.ofInt 0)) (v3 + (Int32.ofInt 1)) (lx_dec h11 hc) k
          rw [k, x210_4, if_neg h11, if_pos h22, if_neg h31]
      · rw [if_neg h22] at k
        have k := ly_revb 5 (c' := (4, [(3, .int (v3 + (Int32.ofInt 1))), (2, .int (v2 + (Int32.ofInt 0))), (0, .ref (p 0)), (1, .int v1)], [], me_w M J)) rfl k
        have k := nt_rn_w (a := [(3, .int (v3 + (Int32.ofInt 1))), (2, .int (v2 + (Int32.ofInt 0))), (0, .ref (p 0)), (1, .int v1)]) (b := [(0, .ref (p 0)), (1, .int v1), (2, .int (v2 + (Int32.ofInt 0))), (3, .int (v3 + (Int32.ofInt 1)))]) ⟨rfl, rfl, rfl, rfl, trivial⟩ rfl k
        have k := ih (v2 + (Int32.ofInt 0)) (v3 + (Int32.ofInt 1)) (lx_dec h11 hc) k
        rw [k, x210_4, if_neg h11, if_neg h22]
theorem x210_4_rule {p : Nat → Nat} {v1 : Int32} {J : Nat → Nat → Int32} {I : Nat → Int32 → Int32 → Prop} {Q : Int32 → Prop} (h0 : ∀ (v2 : Int32) (v3 : Int32), I 0 v2 v3 → Q v2) (h1 : ∀ (c : Nat) (v2 : Int32) (v3 : Int32), I (c + 1) v2 v3 →
    if (J (p 4) 2) ≤ v3 then (Q v2)
    else if (x173 p v3 (Int32.ofInt 0) J) = v1 then if (x173 p v3 (Int32.ofInt 4) J) = 0 then (I c (v2 + (Int32.ofInt 1)) (v3 + (Int32.ofInt 1)))
        else (I c (v2 + (Int32.ofInt 0)) (v3 + (Int32.ofInt 1)))
      else (I c (v2 + (Int32.ofInt 0)) (v3 + (Int32.ofInt 1)))) : ∀ (c : Nat) (v2 : Int32) (v3 : Int32), I c v2 v3 → Q (x210_4 p v1 J c v2 v3) := by
  intro c
  induction c with
  | zero =>
    intro v2 v3 hi
    rw [x210_4]
    exact h0 v2 v3 hi
  | succ c ih =>
    intro v2 v3 hi
    have hi := h1 c v2 v3 hi
    rw [x210_4]
    by_cases h : (J (p 4) 2) ≤ v3
    · rw [if_pos h] at hi ⊢
      exact hi
    · rw [if_neg h] at hi ⊢
      by_cases h : (x173 p v3 (Int32.ofInt 0) J) = v1
      · rw [if_pos h] at hi ⊢
        by_cases h : (x173 p v3 (Int32.ofInt 4) J) = 0
        · rw [if_pos h] at hi ⊢
          exact ih _ _ hi
        · rw [if_neg h] at hi ⊢
          exact ih _ _ hi
      · rw [if_neg h] at hi ⊢
        exact ih _ _ hi
def x210 (p : Nat → Nat) (v1 : Int32) (J : Nat → Nat → Int32) : Int32 := (x210_4 p v1 J ((J (p 4) 2).toNatClampNeg) (Int32.ofInt 0) (Int32.ofInt 0))
theorem xt210 {X : nt_X} {d : Nat} {M : nt_M} {o : Option Value × nt_M} {p : Nat → Nat} {v1 : Int32} {J : Nat → Nat → Int32} (hp : xs_P M p) (k : nt_ev X d 210 [.ref (p 0), .int v1] (me_w M J) o) : o = (some (.int (x210 p v1 J)), me_w M J) := by
  have k : nt_rn X d 210 (0, [(0, .ref (p 0)), (1, .int v1)], [], me_w M J) o := k
  have k := ly_revb 4 (c' := (4, [(3, .int (Int32.ofInt 0)), (2, .int (Int32.ofInt 0)), (0, .ref (p 0)), (1, .int v1)], [], me_w M J)) rfl k
  have k := nt_rn_w (a := [(3, .int (Int32.ofInt 0)), (2, .int (Int32.ofInt 0)), (0, .ref (p 0)), (1, .int v1)]) (b := [(0, .ref (p 0)), (1, .int v1), (2, .int (Int32.ofInt 0)), (3, .int (Int32.ofInt 0))]) ⟨rfl, rfl, rfl, rfl, trivial⟩ rfl k
  have k := xt210_4 hp  ((J (p 4) 2).toNatClampNeg) (Int32.ofInt 0) (Int32.ofInt 0) (lx_beg (by decide)) k
  rw [k, x210]
/-! Model.cutOn -/
def x207_90 (p : Nat → Nat) (v1 : Int32) (v2 : Int32) (J : Nat → Nat → Int32) : Nat → Int32 → Int32 → Int32
  | 0, v3, v4 => (Int32.ofInt (-1))
  | c + 1, v3, v4 => if (J (p 4) 3) ≤ v4 then (Int32.ofInt (-1))
    else if (x208 p v1 v4 v2 J) = 0 then (x207_90 p v1 v2 J c v3 (v4 + (Int32.ofInt 1)))
      else if (x209 v3 (x180 p v4 (Int32.ofInt 0) J)) = 0 then (x207_90 p v1 v2 J c (v3 ||| ((Int32.ofInt 1) <<< ((x180 p v4 (Int32.ofInt 0) J) &&& 31))) (v4 + (Int32.ofInt 1)))
        else (Int32.ofInt 4)
theorem xt207_90 {X : nt_X} {d : Nat} {M : nt_M} {o : Option Value × nt_M} {p : Nat → Nat} {v1 : Int32} {v2 : Int32} {v5 : Int32} {J : Nat → Nat → Int32} (hp : xs_P M p) : ∀ (c : Nat) (v3 : Int32) (v4 : Int32), (J (p 4) 3).toInt - v4.toInt ≤ c → nt_rn X d 207 (90, [(0, .ref (p 0)), (1, .int v1), (2, .int v2), (3, .int v3), (4, .int v4), (5, .int v5)], [], me_w M J) o → o = (some (.int (x207_90 p v1 v2 J c v3 v4)), me_w M J) := by
  intro c
  induction c with
  | zero =>
    intro v3 v4 hc k
    have k := ly_revb 2 (c' := (93, [(0, .ref (p 0)), (1, .int v1), (2, .int v2), (3, .int v3), (4, .int v4), (5, .int v5)], [.ref (p 0), .int v4], me_w M J)) rfl k
    have k := lz_get (a := (p 0)) (g := 1127) (M := me_w M J) (v := .ref (p 4)) rfl (nt_gfR rfl (hp.1 (0, 27, 4) (by decide))) k
    have k := ly_revb 1 (c' := (97, [(0, .ref (p 0)), (1, .int v1), (2, .int v2), (3, .int v3), (4, .int v4), (5, .int v5)], [.int (Int32.ofInt 3), .ref (p 4), .int v4], me_w M J)) rfl k
    have k := mx_iald (v := J (p 4) 3) rfl (hp.2.2.1 4 (by omega)) ((congrArg (J (p 4)) (show (Int32.ofInt 3).toNatClampNeg = 3 from rfl)).trans (rfl)) k
    have k := ly_revb 1 (c' := (if (J (p 4) 3) ≤ v4 then 149 else 101, [(0, .ref (p 0)), (1, .int v1), (2, .int v2), (3, .int v3), (4, .int v4), (5, .int v5)], [], me_w M J)) rfl k
    have h98 : (J (p 4) 3) ≤ v4 := lx_end hc
    rw [if_pos h98] at k
    have k := ly_revb 1 (c' := (150, [(0, .ref (p 0)), (1, .int v1), (2, .int v2), (3, .int v3), (4, .int v4), (5, .int v5)], [.int (Int32.ofInt (-1))], me_w M J)) rfl k
    have k := lz_ri rfl (by decide) k
    rw [k, x207_90]
  | succ c ih =>
    intro v3 v4 hc k
    have k := ly_revb 2 (c' := (93, [(0, .ref (p 0)), (1, .int v1), (2, .int v2), (3, .int v3), (4, .int v4), (5, .int v5)], [.ref (p 0), .int v4], me_w M J)) rfl k
    have k := lz_get (a := (p 0)) (g := 1127) (M := me_w M J) (v := .ref (p 4)) rfl (nt_gfR rfl (hp.1 (0, 27, 4) (by decide))) k
    have k := ly_revb 1 (c' := (97, [(0, .ref (p 0)), (1, .int v1), (2, .int v2), (3, .int v3), (4, .int v4), (5, .int v5)], [.int (Int32.ofInt 3), .ref (p 4), .int v4], me_w M J)) rfl k
    have k := mx_iald (v := J (p 4) 3) rfl (hp.2.2.1 4 (by omega)) ((congrArg (J (p 4)) (show (Int32.ofInt 3).toNatClampNeg = 3 from rfl)).trans (rfl)) k
    have k := ly_revb 1 (c' := (if (J (p 4) 3) ≤ v4 then 149 else 101, [(0, .ref (p 0)), (1, .int v1), (2, .int v2), (3, .int v3), (4, .int v4), (5, .int v5)], [], me_w M J)) rfl k
    by_cases h98 : (J (p 4) 3) ≤ v4
    · rw [if_pos h98] at k
      have k := ly_revb 1 (c' := (150, [(0, .ref (p 0)), (1, .int v1), (2, .int v2), (3, .int v3), (4, .int v4), (5, .int v5)], [.int (Int32.ofInt (-1))], me_w M J)) rfl k
      have k := lz_ri rfl (by decide) k
      rw [k, x207_90, if_pos h98]
    · rw [if_neg h98] at k
      have k := ly_revb 4 (c' := (106, [(0, .ref (p 0)), (1, .int v1), (2, .int v2), (3, .int v3), (4, .int v4), (5, .int v5)], [.int v2, .int v4, .int v1, .ref (p 0)], me_w M J)) rfl k
      obtain ⟨d1, o1, ed, kc, k⟩ := lz_c (g := 208) (q := 1) (vs := [.ref (p 0), .int v1, .int v4, .int v2]) (rest := []) rfl rfl (by decide) (Or.inr (Or.inl ⟨_, rfl, rfl⟩)) rfl k
      have e1 := xt208 hp kc
      subst e1
      have k : nt_rn X _ 207 (109, [(0, .ref (p 0)), (1, .int v1), (2, .int v2), (3, .int v3), (4, .int v4), (5, .int v5)], [.int (x208 p v1 v4 v2 J)], me_w M J) _ := k
      have k := ly_revb 1 (c' := (if (x208 p v1 v4 v2 J) = 0 then 112 else 115, [(0, .ref (p 0)), (1, .int v1), (2, .int v2), (3, .int v3), (4, .int v4), (5, .int v5)], [], me_w M J)) rfl k
      by_cases h109 : (x208 p v1 v4 v2 J) = 0
      · rw [if_pos h109] at k
        have k := ly_revb 3 (c' := (90, [(4, .int (v4 + (Int32.ofInt 1))), (0, .ref (p 0)), (1, .int v1), (2, .int v2), (3, .int v3), (5, .int v5)], [], me_w M J)) rfl k
        have k := nt_rn_w (a := [(4, .int (v4 + (Int32.ofInt 1))), (0, .ref (p 0)), (1, .int v1), (2, .int v2), (3, .int v3), (5, .int v5)]) (b := [(0, .ref (p 0)), (1, .int v1), (2, .int v2), (3, .int v3), (4, .int (v4 + (Int32.ofInt 1))), (5, .int v5)]) ⟨rfl, rfl, rfl, rfl, rfl, rfl, trivial⟩ rfl k
        have k := ih v3 (v4 + (Int32.ofInt 1)) (lx_dec h98 hc) k
        rw [k, x207_90, if_neg h98, if_pos h109]
      · rw [if_neg h109] at k
        have k := ly_revb 4 (c' := (120, [(0, .ref (p 0)), (1, .int v1), (2, .int v2), (3, .int v3), (4, .int v4), (5, .int v5)], [.int (Int32.ofInt 0), .int v4, .ref (p 0), .int v3], me_w M J)) rfl k
        obtain ⟨d1, o1, ed, kc, k⟩ := lz_c (g := 180) (q := 1) (vs := [.ref (p 0), .int v4, .int (Int32.ofInt 0)]) (rest := [.int v3]) rfl rfl (by decide) (Or.inr (Or.inl ⟨_, rfl, rfl⟩)) rfl k
        have e1 := xt180 hp kc
        subst e1
        have k : nt_rn X _ 207 (123, [(0, .ref (p 0)), (1, .int v1), (2, .int v2), (3, .int v3), (4, .int v4), (5, .int v5)], [.int (x180 p v4 (Int32.ofInt 0) J), .int v3], me_w M J) _ := k
        obtain ⟨d1, o1, ed, kc, k⟩ := lz_c (g := 209) (q := 0) (vs := [.int v3, .int (x180 p v4 (Int32.ofInt 0) J)]) (rest := []) rfl rfl (by decide) (Or.inl ⟨_, rfl, rfl⟩) rfl k
        have e1 := xt209  kc
        subst e1
        have k : nt_rn X _ 207 (126, [(0, .ref (p 0)), (1, .int v1), (2, .int v2), (3, .int v3), (4, .int v4), (5, .int v5)], [.int (x209 v3 (x180 p v4 (Int32.ofInt 0) J))], me_w M J) _ := k
        have k := ly_revb 1 (c' := (if (x209 v3 (x180 p v4 (Int32.ofInt 0) J)) = 0 then 131 else 129, [(0, .ref (p 0)), (1, .int v1), (2, .int v2), (3, .int v3), (4, .int v4), (5, .int v5)], [], me_w M J)) rfl k
        by_cases h126 : (x209 v3 (x180 p v4 (Int32.ofInt 0) J)) = 0
        · rw [if_pos h126] at k
          have k := ly_revb 5 (c' := (137, [(0, .ref (p 0)), (1, .int v1), (2, .int v2), (3, .int v3), (4, .int v4), (5, .int v5)], [.int (Int32.ofInt 0), .int v4, .ref (p 0), .int (Int32.ofInt 1), .int v3], me_w M J)) rfl k
          obtain ⟨d1, o1, ed, kc, k⟩ := lz_c (g := 180) (q := 1) (vs := [.ref (p 0), .int v4, .int (Int32.ofInt 0)]) (rest := [.int (Int32.ofInt 1), .int v3]) rfl rfl (by decide) (Or.inr (Or.inl ⟨_, rfl, rfl⟩)) rfl k
          have e1 := xt180 hp kc
          subst e1
          have k : nt_rn X _ 207 (140, [(0, .ref (p 0)), (1, .int v1), (2, .int v2), (3, .int v3), (4, .int v4), (5, .int v5)], [.int (x180 p v4 (Int32.ofInt 0) J), .int (Int32.ofInt 1), .int v3], me_w M J) _ := k
          have k := ly_revb 5 (c' := (90, [(4, .int (v4 + (Int32.ofInt 1))), (3, .int (v3 ||| ((Int32.ofInt 1) <<< ((x180 p v4 (Int32.ofInt 0) J) &&& 31)))), (0, .ref (p 0)), (1, .int v1), (2, .int v2), (5, .int v5)], [], me_w M J)) rfl k
          have k := nt_rn_w (a := [(4, .int (v4 + (Int32.ofInt 1))), (3, .int (v3 ||| ((Int32.ofInt 1) <<< ((x180 p v4 (Int32.ofInt 0) J) &&& 31)))), (0, .ref (p 0)), (1, .int v1), (2, .int v2), (5, .int v5)]) (b := [(0, .ref (p 0)), (1, .int v1), (2, .int v2), (3, .int (v3 ||| ((Int32.ofInt 1) <<< ((x180 p v4 (Int32.ofInt 0) J) &&& 31)))), (4, .int (v4 + (Int32.ofInt 1))), (5, .int v5)]) ⟨rfl, rfl, rfl, rfl, rfl, rfl, trivial⟩ rfl k
          have k := ih (v3 ||| ((Int32.ofInt 1) <<< ((x180 p v4 (Int32.ofInt 0) J) &&& 31))) (v4 + (Int32.ofInt 1)) (lx_dec h98 hc) k
          rw [k, x207_90, if_neg h98, if_neg h109, if_pos h126]
        · rw [if_neg h126] at k
          have k := ly_revb 1 (c' := (130, [(0, .ref (p 0)), (1, .int v1), (2, .int v2), (3, .int v3), (4, .int v4), (5, .int v5)], [.int (Int32.ofInt 4)], me_w M J)) rfl k
          have k := lz_ri rfl (by decide) k
          rw [k, x207_90, if_neg h98, if_neg h109, if_neg h126]
theorem x207_90_rule {p : Nat → Nat} {v1 : Int32} {v2 : Int32} {J : Nat → Nat → Int32} {I : Nat → Int32 → Int32 → Prop} {Q : Int32 → Prop} (h0 : ∀ (v3 : Int32) (v4 : Int32), I 0 v3 v4 → Q (Int32.ofInt (-1))) (h1 : ∀ (c : Nat) (v3 : Int32) (v4 : Int32), I (c + 1) v3 v4 →
    if (J (p 4) 3) ≤ v4 then (Q (Int32.ofInt (-1)))
    else if (x208 p v1 v4 v2 J) = 0 then (I c v3 (v4 + (Int32.ofInt 1)))
      else if (x209 v3 (x180 p v4 (Int32.ofInt 0) J)) = 0 then (I c (v3 ||| ((Int32.ofInt 1) <<< ((x180 p v4 (Int32.ofInt 0) J) &&& 31))) (v4 + (Int32.ofInt 1)))
        else (Q (Int32.ofInt 4))) : ∀ (c : Nat) (v3 : Int32) (v4 : Int32), I c v3 v4 → Q (x207_90 p v1 v2 J c v3 v4) := by
  intro c
  induction c with
  | zero =>
    intro v3 v4 hi
    rw [x207_90]
    exact h0 v3 v4 hi
  | succ c ih =>
    intro v3 v4 hi
    have hi := h1 c v3 v4 hi
    rw [x207_90]
    by_cases h : (J (p 4) 3) ≤ v4
    · rw [if_pos h] at hi ⊢
      exact hi
    · rw [if_neg h] at hi ⊢
      by_cases h : (x208 p v1 v4 v2 J) = 0
      · rw [if_pos h] at hi ⊢
        exact ih _ _ hi
      · rw [if_neg h] at hi ⊢
        by_cases h : (x209 v3 (x180 p v4 (Int32.ofInt 0) J)) = 0
        · rw [if_pos h] at hi ⊢
          exact ih _ _ hi
        · rw [if_neg h] at hi ⊢
          exact hi
def x207_18 (p : Nat → Nat) (v1 : Int32) (v2 : Int32) (v3 : Int32) (J : Nat → Nat → Int32) : Nat → Int32 → Int32 → Int32
  | 0, v4, v5 => v4
  | c + 1, v4, v5 => if (J (p 4) 3) ≤ v5 then v4
    else if (x208 p v1 v5 v2 J) = 0 then (x207_18 p v1 v2 v3 J c (v4 + (Int32.ofInt 0)) (v5 + (Int32.ofInt 1)))
      else (x207_18 p v1 v2 v3 J c (v4 + (x169 p (x180 p v5 (Int32.ofInt 0) J) v3 J)) (v5 + (Int32.ofInt 1)))
theorem xt207_18 {X : nt_X} {d : Nat} {M : nt_M} {o : Option Value × nt_M} {p : Nat → Nat} {v1 : Int32} {v2 : Int32} {v3 : Int32} {J : Nat → Nat → Int32} (hp : xs_P M p) : ∀ (c : Nat) (v4 : Int32) (v5 : Int32), (J (p 4) 3).toInt - v5.toInt ≤ c → nt_rn X d 207 (18, [(0, .ref (p 0)), (1, .int v1), (2, .int v2), (3, .int v3), (4, .int v4), (5, .int v5)], [], me_w M J) o → ∃ (w5 : Int32), nt_rn X d 207 (67, [(0, .ref (p 0)), (1, .int v1), (2, .int v2), (3, .int v3), (4, .int (x207_18 p v1 v2 v3 J c v4 v5)), (5, .int w5)], [], me_w M J) o := by
  intro c
  induction c with
  | zero =>
    intro v4 v5 hc k
    have k := ly_revb 2 (c' := (21, [(0, .ref (p 0)), (1, .int v1), (2, .int v2), (3, .int v3), (4, .int v4), (5, .int v5)], [.ref (p 0), .int v5], me_w M J)) rfl k
    have k := lz_get (a := (p 0)) (g := 1127) (M := me_w M J) (v := .ref (p 4)) rfl (nt_gfR rfl (hp.1 (0, 27, 4) (by decide))) k
    have k := ly_revb 1 (c' := (25, [(0, .ref (p 0)), (1, .int v1), (2, .int v2), (3, .int v3), (4, .int v4), (5, .int v5)], [.int (Int32.ofInt 3), .ref (p 4), .int v5], me_w M J)) rfl k
    have k := mx_iald (v := J (p 4) 3) rfl (hp.2.2.1 4 (by omega)) ((congrArg (J (p 4)) (show (Int32.ofInt 3).toNatClampNeg = 3 from rfl)).trans (rfl)) k
    have k := ly_revb 1 (c' := (if (J (p 4) 3) ≤ v5 then 67 else 29, [(0, .ref (p 0)), (1, .int v1), (2, .int v2), (3, .int v3), (4, .int v4), (5, .int v5)], [], me_w M J)) rfl k
    have h26 : (J (p 4) 3) ≤ v5 := lx_end hc
    rw [if_pos h26] at k
    have k := nt_rn_w (a := [(0, .ref (p 0)), (1, .int v1), (2, .int v2), (3, .int v3), (4, .int v4), (5, .int v5)]) (b := [(0, .ref (p 0)), (1, .int v1), (2, .int v2), (3, .int v3), (4, .int v4), (5, .int v5)]) ⟨rfl, rfl, rfl, rfl, rfl, rfl, trivial⟩ rfl k
    rw [x207_18]
    exact ⟨_, k⟩
  | succ c ih =>
    intro v4 v5 hc k
    have k := ly_revb 2 (c' := (21, [(0, .ref (p 0)), (1, .int v1), (2, .int v2), (3, .int v3), (4, .int v4), (5, .int v5)], [.ref (p 0), .int v5], me_w M J)) rfl k
    have k := lz_get (a := (p 0)) (g := 1127) (M := me_w M J) (v := .ref (p 4)) rfl (nt_gfR rfl (hp.1 (0, 27, 4) (by decide))) k
    have k := ly_revb 1 (c' := (25, [(0, .ref (p 0)), (1, .int v1), (2, .int v2), (3, .int v3), (4, .int v4), (5, .int v5)], [.int (Int32.ofInt 3), .ref (p 4), .int v5], me_w M J)) rfl k
    have k := mx_iald (v := J (p 4) 3) rfl (hp.2.2.1 4 (by omega)) ((congrArg (J (p 4)) (show (Int32.ofInt 3).toNatClampNeg = 3 from rfl)).trans (rfl)) k
    have k := ly_revb 1 (c' := (if (J (p 4) 3) ≤ v5 then 67 else 29, [(0, .ref (p 0)), (1, .int v1), (2, .int v2), (3, .int v3), (4, .int v4), (5, .int v5)], [], me_w M J)) rfl k
    by_cases h26 : (J (p 4) 3) ≤ v5
    · rw [if_pos h26] at k
      have k := nt_rn_w (a := [(0, .ref (p 0)), (1, .int v1), (2, .int v2), (3, .int v3), (4, .int v4), (5, .int v5)]) (b := [(0, .ref (p 0)), (1, .int v1), (2, .int v2), (3, .int v3), (4, .int v4), (5, .int v5)]) ⟨rfl, rfl, rfl, rfl, rfl, rfl, trivial⟩ rfl k
      rw [x207_18, if_pos h26]
      exact ⟨_, k⟩
    · rw [if_neg h26] at k
      have k := ly_revb 5 (c' := (36, [(0, .ref (p 0)), (1, .int v1), (2, .int v2), (3, .int v3), (4, .int v4), (5, .int v5)], [.int v2, .int v5, .int v1, .ref (p 0), .int v4], me_w M J)) rfl k
      obtain ⟨d1, o1, ed, kc, k⟩ := lz_c (g := 208) (q := 1) (vs := [.ref (p 0), .int v1, .int v5, .int v2]) (rest := [.int v4]) rfl rfl (by decide) (Or.inr (Or.inl ⟨_, rfl, rfl⟩)) rfl k
      have e1 := xt208 hp kc
      subst e1
      have k : nt_rn X _ 207 (39, [(0, .ref (p 0)), (1, .int v1), (2, .int v2), (3, .int v3), (4, .int v4), (5, .int v5)], [.int (x208 p v1 v5 v2 J), .int v4], me_w M J) _ := k
      have k := ly_revb 1 (c' := (if (x208 p v1 v5 v2 J) = 0 then 57 else 42, [(0, .ref (p 0)), (1, .int v1), (2, .int v2), (3, .int v3), (4, .int v4), (5, .int v5)], [.int v4], me_w M J)) rfl k
      by_cases h39 : (x208 p v1 v5 v2 J) = 0
      · rw [if_pos h39] at k
        have k := ly_revb 5 (c' := (18, [(5, .int (v5 + (Int32.ofInt 1))), (4, .int (v4 + (Int32.ofInt 0))), (0, .ref (p 0)), (1, .int v1), (2, .int v2), (3, .int v3)], [], me_w M J)) rfl k
        have k := nt_rn_w (a := [(5, .int (v5 + (Int32.ofInt 1))), (4, .int (v4 + (Int32.ofInt 0))), (0, .ref (p 0)), (1, .int v1), (2, .int v2), (3, .int v3)]) (b := [(0, .ref (p 0)), (1, .int v1), (2, .int v2), (3, .int v3), (4, .int (v4 + (Int32.ofInt 0))), (5, .int (v5 + (Int32.ofInt 1)))]) ⟨rfl, rfl, rfl, rfl, rfl, rfl, trivial⟩ rfl k
        have k := ih (v4 + (Int32.ofInt 0)) (v5 + (Int32.ofInt 1)) (lx_dec h26 hc) k
        rw [x207_18, if_neg h26, if_pos h39]
        exact k
      · rw [if_neg h39] at k
        have k := ly_revb 4 (c' := (47, [(0, .ref (p 0)), (1, .int v1), (2, .int v2), (3, .int v3), (4, .int v4), (5, .int v5)], [.int (Int32.ofInt 0), .int v5, .ref (p 0), .ref (p 0), .int v4], me_w M J)) rfl k
        obtain ⟨d1, o1, ed, kc, k⟩ := lz_c (g := 180) (q := 1) (vs := [.ref (p 0), .int v5, .int (Int32.ofInt 0)]) (rest := [.ref (p 0), .int v4]) rfl rfl (by decide) (Or.inr (Or.inl ⟨_, rfl, rfl⟩)) rfl k
        have e1 := xt180 hp kc
        subst e1
        have k : nt_rn X _ 207 (50, [(0, .ref (p 0)), (1, .int v1), (2, .int v2), (3, .int v3), (4, .int v4), (5, .int v5)], [.int (x180 p v5 (Int32.ofInt 0) J), .ref (p 0), .int v4], me_w M J) _ := k
        have k := ly_revb 1 (c' := (51, [(0, .ref (p 0)), (1, .int v1), (2, .int v2), (3, .int v3), (4, .int v4), (5, .int v5)], [.int v3, .int (x180 p v5 (Int32.ofInt 0) J), .ref (p 0), .int v4], me_w M J)) rfl k
        obtain ⟨d1, o1, ed, kc, k⟩ := lz_c (g := 169) (q := 1) (vs := [.ref (p 0), .int (x180 p v5 (Int32.ofInt 0) J), .int v3]) (rest := [.int v4]) rfl rfl (by decide) (Or.inr (Or.inl ⟨_, rfl, rfl⟩)) rfl k
        have e1 := xt169 hp kc
        subst e1
        have k : nt_rn X _ 207 (54, [(0, .ref (p 0)), (1, .int v1), (2, .int v2), (3, .int v3), (4, .int v4), (5, .int v5)], [.int (x169 p (x180 p v5 (Int32.ofInt 0) J) v3 J), .int v4], me_w M J) _ := k
        have k := ly_revb 5 (c' := (18, [(5, .int (v5 + (Int32.ofInt 1))), (4, .int (v4 + (x169 p (x180 p v5 (Int32.ofInt 0) J) v3 J))), (0, .ref (p 0)), (1, .int v1), (2, .int v2), (3, .int v3)], [], me_w M J)) rfl k
        have k := nt_rn_w (a := [(5, .int (v5 + (Int32.ofInt 1))), (4, .int (v4 + (x169 p (x180 p v5 (Int32.ofInt 0) J) v3 J))), (0, .ref (p 0)), (1, .int v1), (2, .int v2), (3, .int v3)]) (b := [(0, .ref (p 0)), (1, .int v1), (2, .int v2), (3, .int v3), (4, .int (v4 + (x169 p (x180 p v5 (Int32.ofInt 0) J) v3 J))), (5, .int (v5 + (Int32.ofInt 1)))]) ⟨rfl, rfl, rfl, rfl, rfl, rfl, trivial⟩ rfl k
        have k := ih (v4 + (x169 p (x180 p v5 (Int32.ofInt 0) J) v3 J)) (v5 + (Int32.ofInt 1)) (lx_dec h26 hc) k
        rw [x207_18, if_neg h26, if_neg h39]
        exact k
theorem x207_18_rule {p : Nat → Nat} {v1 : Int32} {v2 : Int32} {v3 : Int32} {J : Nat → Nat → Int32} {I : Nat → Int32 → Int32 → Prop} {Q : Int32 → Prop} (h0 : ∀ (v4 : Int32) (v5 : Int32), I 0 v4 v5 → Q v4) (h1 : ∀ (c : Nat) (v4 : Int32) (v5 : Int32), I (c + 1) v4 v5 →
    if (J (p 4) 3) ≤ v5 then (Q v4)
    else if (x208 p v1 v5 v2 J) = 0 then (I c (v4 + (Int32.ofInt 0)) (v5 + (Int32.ofInt 1)))
      else (I c (v4 + (x169 p (x180 p v5 (Int32.ofInt 0) J) v3 J)) (v5 + (Int32.ofInt 1)))) : ∀ (c : Nat) (v4 : Int32) (v5 : Int32), I c v4 v5 → Q (x207_18 p v1 v2 v3 J c v4 v5) := by
  intro c
  induction c with
  | zero =>
    intro v4 v5 hi
    rw [x207_18]
    exact h0 v4 v5 hi
  | succ c ih =>
    intro v4 v5 hi
    have hi := h1 c v4 v5 hi
    rw [x207_18]
    by_cases h : (J (p 4) 3) ≤ v5
    · rw [if_pos h] at hi ⊢
      exact hi
    · rw [if_neg h] at hi ⊢
      by_cases h : (x208 p v1 v5 v2 J) = 0
      · rw [if_pos h] at hi ⊢
        exact ih _ _ hi
      · rw [if_neg h] at hi ⊢
        exact ih _ _ hi
def x207_2 (p : Nat → Nat) (v1 : Int32) (v2 : Int32) (J : Nat → Nat → Int32) : Nat → Int32 → Int32
  | 0, v3 => (x207_90 p v1 v2 J ((J (p 4) 3).toNatClampNeg) (Int32.ofInt 0) (Int32.ofInt 0))
  | c + 1, v3 => if (J (p 4) 0) ≤ v3 then (x207_90 p v1 v2 J ((J (p 4) 3).toNatClampNeg) (Int32.ofInt 0) (Int32.ofInt 0))
    else if (x207_18 p v1 v2 v3 J ((J (p 4) 3).toNatClampNeg) (Int32.ofInt 0) (Int32.ofInt 0)) ≤ (x210 p v3 J) then (x207_2 p v1 v2 J c (v3 + (Int32.ofInt 1)))
      else v3
theorem xt207_2 {X : nt_X} {d : Nat} {M : nt_M} {o : Option Value × nt_M} {p : Nat → Nat} {v1 : Int32} {v2 : Int32} {J : Nat → Nat → Int32} (hp : xs_P M p) : ∀ (c : Nat) (v3 : Int32) (v4 : Int32) (v5 : Int32), (J (p 4) 0).toInt - v3.toInt ≤ c → nt_rn X d 207 (2, [(0, .ref (p 0)), (1, .int v1), (2, .int v2), (3, .int v3), (4, .int v4), (5, .int v5)], [], me_w M J) o → o = (some (.int (x207_2 p v1 v2 J c v3)), me_w M J) := by
  intro c
  induction c with
  | zero =>
    intro v3 v4 v5 hc k
    have k := ly_revb 2 (c' := (4, [(0, .ref (p 0)), (1, .int v1), (2, .int v2), (3, .int v3), (4, .int v4), (5, .int v5)], [.ref (p 0), .int v3], me_w M J)) rfl k
    have k := lz_get (a := (p 0)) (g := 1127) (M := me_w M J) (v := .ref (p 4)) rfl (nt_gfR rfl (hp.1 (0, 27, 4) (by decide))) k
    have k := ly_revb 1 (c' := (8, [(0, .ref (p 0)), (1, .int v1), (2, .int v2), (3, .int v3), (4, .int v4), (5, .int v5)], [.int (Int32.ofInt 0), .ref (p 4), .int v3], me_w M J)) rfl k
    have k := mx_iald (v := J (p 4) 0) rfl (hp.2.2.1 4 (by omega)) ((congrArg (J (p 4)) (show (Int32.ofInt 0).toNatClampNeg = 0 from rfl)).trans (rfl)) k
    have k := ly_revb 1 (c' := (if (J (p 4) 0) ≤ v3 then 85 else 12, [(0, .ref (p 0)), (1, .int v1), (2, .int v2), (3, .int v3), (4, .int v4), (5, .int v5)], [], me_w M J)) rfl k
    have h9 : (J (p 4) 0) ≤ v3 := lx_end hc
    rw [if_pos h9] at k
    have k := ly_revb 4 (c' := (90, [(4, .int (Int32.ofInt 0)), (3, .int (Int32.ofInt 0)), (0, .ref (p 0)), (1, .int v1), (2, .int v2), (5, .int v5)], [], me_w M J)) rfl k
    have k := nt_rn_w (a := [(4, .int (Int32.ofInt 0)), (3, .int (Int32.ofInt 0)), (0, .ref (p 0)), (1, .int v1), (2, .int v2), (5, .int v5)]) (b := [(0, .ref (p 0)), (1, .int v1), (2, .int v2), (3, .int (Int32.ofInt 0)), (4, .int (Int32.ofInt 0)), (5, .int v5)]) ⟨rfl, rfl, rfl, rfl, rfl, rfl, trivial⟩ rfl k
    have k := xt207_90 hp  ((J (p 4) 3).toNatClampNeg) (Int32.ofInt 0) (Int32.ofInt 0) (lx_beg (by decide)) k
    rw [k, x207_2]
  | succ c ih =>
    intro v3 v4 v5 hc k
    have k := ly_revb 2 (c' := (4, [(0, .ref (p 0)), (1, .int v1), (2, .int v2), (3, .int v3), (4, .int v4), (5, .int v5)], [.ref (p 0), .int v3], me_w M J)) rfl k
    have k := lz_get (a := (p 0)) (g := 1127) (M := me_w M J) (v := .ref (p 4)) rfl (nt_gfR rfl (hp.1 (0, 27, 4) (by decide))) k
    have k := ly_revb 1 (c' := (8, [(0, .ref (p 0)), (1, .int v1), (2, .int v2), (3, .int v3), (4, .int v4), (5, .int v5)], [.int (Int32.ofInt 0), .ref (p 4), .int v3], me_w M J)) rfl k
    have k := mx_iald (v := J (p 4) 0) rfl (hp.2.2.1 4 (by omega)) ((congrArg (J (p 4)) (show (Int32.ofInt 0).toNatClampNeg = 0 from rfl)).trans (rfl)) k
    have k := ly_revb 1 (c' := (if (J (p 4) 0) ≤ v3 then 85 else 12, [(0, .ref (p 0)), (1, .int v1), (2, .int v2), (3, .int v3), (4, .int v4), (5, .int v5)], [], me_w M J)) rfl k
    by_cases h9 : (J (p 4) 0) ≤ v3
    · rw [if_pos h9] at k
      have k := ly_revb 4 (c' := (90, [(4, .int (Int32.ofInt 0)), (3, .int (Int32.ofInt 0)), (0, .ref (p 0)), (1, .int v1), (2, .int v2), (5, .int v5)], [], me_w M J)) rfl k
      have k := nt_rn_w (a := [(4, .int (Int32.ofInt 0)), (3, .int (Int32.ofInt 0)), (0, .ref (p 0)), (1, .int v1), (2, .int v2), (5, .int v5)]) (b := [(0, .ref (p 0)), (1, .int v1), (2, .int v2), (3, .int (Int32.ofInt 0)), (4, .int (Int32.ofInt 0)), (5, .int v5)]) ⟨rfl, rfl, rfl, rfl, rfl, rfl, trivial⟩ rfl k
      have k := xt207_90 hp  ((J (p 4) 3).toNatClampNeg) (Int32.ofInt 0) (Int32.ofInt 0) (lx_beg (by decide)) k
      rw [k, x207_2, if_pos h9]
    · rw [if_neg h9] at k
      have k := ly_revb 4 (c' := (18, [(5, .int (Int32.ofInt 0)), (4, .int (Int32.ofInt 0)), (0, .ref (p 0)), (1, .int v1), (2, .int v2), (3, .int v3)], [], me_w M J)) rfl k
      have k := nt_rn_w (a := [(5, .int (Int32.ofInt 0)), (4, .int (Int32.ofInt 0)), (0, .ref (p 0)), (1, .int v1), (2, .int v2), (3, .int v3)]) (b := [(0, .ref (p 0)), (1, .int v1), (2, .int v2), (3, .int v3), (4, .int (Int32.ofInt 0)), (5, .int (Int32.ofInt 0))]) ⟨rfl, rfl, rfl, rfl, rfl, rfl, trivial⟩ rfl k
      have k := xt207_18 hp  ((J (p 4) 3).toNatClampNeg) (Int32.ofInt 0) (Int32.ofInt 0) (lx_beg (by decide)) k
      obtain ⟨w5, k⟩ := k
      have k : nt_rn X _ 207 (67, [(0, .ref (p 0)), (1, .int v1), (2, .int v2), (3, .int v3), (4, .int (x207_18 p v1 v2 v3 J ((J (p 4) 3).toNatClampNeg) (Int32.ofInt 0) (Int32.ofInt 0))), (5, .int w5)], [], me_w M J) _ := k
      have k := ly_revb 3 (c' := (71, [(0, .ref (p 0)), (1, .int v1), (2, .int v2), (3, .int v3), (4, .int (x207_18 p v1 v2 v3 J ((J (p 4) 3).toNatClampNeg) (Int32.ofInt 0) (Int32.ofInt 0))), (5, .int w5)], [.int v3, .ref (p 0), .int (x207_18 p v1 v2 v3 J ((J (p 4) 3).toNatClampNeg) (Int32.ofInt 0) (Int32.ofInt 0))], me_w M J)) rfl k
      obtain ⟨d1, o1, ed, kc, k⟩ := lz_c (g := 210) (q := 1) (vs := [.ref (p 0), .int v3]) (rest := [.int (x207_18 p v1 v2 v3 J ((J (p 4) 3).toNatClampNeg) (Int32.ofInt 0) (Int32.ofInt 0))]) rfl rfl (by decide) (Or.inr (Or.inl ⟨_, rfl, rfl⟩)) rfl k
      have e1 := xt210 hp kc
      subst e1
      have k : nt_rn X _ 207 (74, [(0, .ref (p 0)), (1, .int v1), (2, .int v2), (3, .int v3), (4, .int (x207_18 p v1 v2 v3 J ((J (p 4) 3).toNatClampNeg) (Int32.ofInt 0) (Int32.ofInt 0))), (5, .int w5)], [.int (x210 p v3 J), .int (x207_18 p v1 v2 v3 J ((J (p 4) 3).toNatClampNeg) (Int32.ofInt 0) (Int32.ofInt 0))], me_w M J) _ := k
      have k := ly_revb 1 (c' := (if (x207_18 p v1 v2 v3 J ((J (p 4) 3).toNatClampNeg) (Int32.ofInt 0) (Int32.ofInt 0)) ≤ (x210 p v3 J) then 79 else 77, [(0, .ref (p 0)), (1, .int v1), (2, .int v2), (3, .int v3), (4, .int (x207_18 p v1 v2 v3 J ((J (p 4) 3).toNatClampNeg) (Int32.ofInt 0) (Int32.ofInt 0))), (5, .int w5)], [], me_w M J)) rfl k
      by_cases h74 : (x207_18 p v1 v2 v3 J ((J (p 4) 3).toNatClampNeg) (Int32.ofInt 0) (Int32.ofInt 0)) ≤ (x210 p v3 J)
      · rw [if_pos h74] at k
        have k := ly_revb 2 (c' := (2, [(3, .int (v3 + (Int32.ofInt 1))), (0, .ref (p 0)), (1, .int v1), (2, .int v2), (4, .int (x207_18 p v1 v2 v3 J ((J (p 4) 3).toNatClampNeg) (Int32.ofInt 0) (Int32.ofInt 0))), (5, .int w5)], [], me_w M J)) rfl k
        have k := nt_rn_w (a := [(3, .int (v3 + (Int32.ofInt 1))), (0, .ref (p 0)), (1, .int v1), (2, .int v2), (4, .int (x207_18 p v1 v2 v3 J ((J (p 4) 3).toNatClampNeg) (Int32.ofInt 0) (Int32.ofInt 0))), (5, .int w5)]) (b := [(0, .ref (p 0)), (1, .int v1), (2, .int v2), (3, .int (v3 + (Int32.ofInt 1))), (4, .int (x207_18 p v1 v2 v3 J ((J (p 4) 3).toNatClampNeg) (Int32.ofInt 0) (Int32.ofInt 0))), (5, .int w5)]) ⟨rfl, rfl, rfl, rfl, rfl, rfl, trivial⟩ rfl k
        have k := ih (v3 + (Int32.ofInt 1)) (x207_18 p v1 v2 v3 J ((J (p 4) 3).toNatClampNeg) (Int32.ofInt 0) (Int32.ofInt 0)) w5 (lx_dec h9 hc) k
        rw [k, x207_2, if_neg h9, if_pos h74]
      · rw [if_neg h74] at k
        have k := ly_revb 1 (c' := (78, [(0, .ref (p 0)), (1, .int v1), (2, .int v2), (3, .int v3), (4, .int (x207_18 p v1 v2 v3 J ((J (p 4) 3).toNatClampNeg) (Int32.ofInt 0) (Int32.ofInt 0))), (5, .int w5)], [.int v3], me_w M J)) rfl k
        have k := lz_ri rfl (by decide) k
        rw [k, x207_2, if_neg h9, if_neg h74]
theorem x207_2_rule {p : Nat → Nat} {v1 : Int32} {v2 : Int32} {J : Nat → Nat → Int32} {I : Nat → Int32 → Prop} {Q : Int32 → Prop} (h0 : ∀ (v3 : Int32), I 0 v3 → Q (x207_90 p v1 v2 J ((J (p 4) 3).toNatClampNeg) (Int32.ofInt 0) (Int32.ofInt 0))) (h1 : ∀ (c : Nat) (v3 : Int32), I (c + 1) v3 →
    if (J (p 4) 0) ≤ v3 then (Q (x207_90 p v1 v2 J ((J (p 4) 3).toNatClampNeg) (Int32.ofInt 0) (Int32.ofInt 0)))
    else if (x207_18 p v1 v2 v3 J ((J (p 4) 3).toNatClampNeg) (Int32.ofInt 0) (Int32.ofInt 0)) ≤ (x210 p v3 J) then (I c (v3 + (Int32.ofInt 1)))
      else (Q v3)) : ∀ (c : Nat) (v3 : Int32), I c v3 → Q (x207_2 p v1 v2 J c v3) := by
  intro c
  induction c with
  | zero =>
    intro v3 hi
    rw [x207_2]
    exact h0 v3 hi
  | succ c ih =>
    intro v3 hi
    have hi := h1 c v3 hi
    rw [x207_2]
    by_cases h : (J (p 4) 0) ≤ v3
    · rw [if_pos h] at hi ⊢
      exact hi
    · rw [if_neg h] at hi ⊢
      by_cases h : (x207_18 p v1 v2 v3 J ((J (p 4) 3).toNatClampNeg) (Int32.ofInt 0) (Int32.ofInt 0)) ≤ (x210 p v3 J)
      · rw [if_pos h] at hi ⊢
        exact ih _ hi
      · rw [if_neg h] at hi ⊢
        exact hi
def x207 (p : Nat → Nat) (v1 : Int32) (v2 : Int32) (J : Nat → Nat → Int32) : Int32 := (x207_2 p v1 v2 J ((J (p 4) 0).toNatClampNeg) (Int32.ofInt 0))
theorem xt207 {X : nt_X} {d : Nat} {M : nt_M} {o : Option Value × nt_M} {p : Nat → Nat} {v1 : Int32} {v2 : Int32} {J : Nat → Nat → Int32} (hp : xs_P M p) (k : nt_ev X d 207 [.ref (p 0), .int v1, .int v2] (me_w M J) o) : o = (some (.int (x207 p v1 v2 J)), me_w M J) := by
  have k : nt_rn X d 207 (0, [(0, .ref (p 0)), (1, .int v1), (2, .int v2)], [], me_w M J) o := k
  have k := ly_revb 2 (c' := (2, [(3, .int (Int32.ofInt 0)), (0, .ref (p 0)), (1, .int v1), (2, .int v2)], [], me_w M J)) rfl k
  have k := nt_rn_w (a := [(3, .int (Int32.ofInt 0)), (0, .ref (p 0)), (1, .int v1), (2, .int v2)]) (b := [(0, .ref (p 0)), (1, .int v1), (2, .int v2), (3, .int (Int32.ofInt 0)), (4, .int (Int32.ofInt 0)), (5, .int (Int32.ofInt 0))]) ⟨rfl, rfl, rfl, rfl, trivial⟩ rfl k
  have k := xt207_2 hp  ((J (p 4) 0).toNatClampNeg) (Int32.ofInt 0) (Int32.ofInt 0) (Int32.ofInt 0) (lx_beg (by decide)) k
  rw [k, x207]
/-! Model.cutDay -/
def x206_2 (p : Nat → Nat) (v1 : Int32) (J : Nat → Nat → Int32) : Nat → Int32 → Int32
  | 0, v2 => (Int32.ofInt (-1))
  | c + 1, v2 => if (Int32.ofInt 99) ≤ v2 then (Int32.ofInt (-1))
    else if (x207 p v1 v2 J) < 0 then (x206_2 p v1 J c (v2 + (Int32.ofInt 1)))
      else v2
theorem xt206_2 {X : nt_X} {d : Nat} {M : nt_M} {o : Option Value × nt_M} {p : Nat → Nat} {v1 : Int32} {J : Nat → Nat → Int32} (hp : xs_P M p) : ∀ (c : Nat) (v2 : Int32), (Int32.ofInt 99).toInt - v2.toInt ≤ c → nt_rn X d 206 (2, [(0, .ref (p 0)), (1, .int v1), (2, .int v2)], [], me_w M J) o → o = (some (.int (x206_2 p v1 J c v2)), me_w M J) := by
  intro c
  induction c with
  | zero =>
    intro v2 hc k
    have k := ly_revb 3 (c' := (if (Int32.ofInt 99) ≤ v2 then 25 else 8, [(0, .ref (p 0)), (1, .int v1), (2, .int v2)], [], me_w M J)) rfl k
    have h5 : (Int32.ofInt 99) ≤ v2 := lx_end hc
    rw [if_pos h5] at k
    have k := ly_revb 1 (c' := (26, [(0, .ref (p 0)), (1, .int v1), (2, .int v2)], [.int (Int32.ofInt (-1))], me_w M J)) rfl k
    have k := lz_ri rfl (by decide) k
    rw [k, x206_2]
  | succ c ih =>
    intro v2 hc k
    have k := ly_revb 3 (c' := (if (Int32.ofInt 99) ≤ v2 then 25 else 8, [(0, .ref (p 0)), (1, .int v1), (2, .int v2)], [], me_w M J)) rfl k
    by_cases h5 : (Int32.ofInt 99) ≤ v2
    · rw [if_pos h5] at k
      have k := ly_revb 1 (c' := (26, [(0, .ref (p 0)), (1, .int v1), (2, .int v2)], [.int (Int32.ofInt (-1))], me_w M J)) rfl k
      have k := lz_ri rfl (by decide) k
      rw [k, x206_2, if_pos h5]
    · rw [if_neg h5] at k
      have k := ly_revb 3 (c' := (11, [(0, .ref (p 0)), (1, .int v1), (2, .int v2)], [.int v2, .int v1, .ref (p 0)], me_w M J)) rfl k
      obtain ⟨d1, o1, ed, kc, k⟩ := lz_c (g := 207) (q := 1) (vs := [.ref (p 0), .int v1, .int v2]) (rest := []) rfl rfl (by decide) (Or.inr (Or.inl ⟨_, rfl, rfl⟩)) rfl k
      have e1 := xt207 hp kc
      subst e1
      have k : nt_rn X _ 206 (14, [(0, .ref (p 0)), (1, .int v1), (2, .int v2)], [.int (x207 p v1 v2 J)], me_w M J) _ := k
      have k := ly_revb 1 (c' := (if (x207 p v1 v2 J) < 0 then 19 else 17, [(0, .ref (p 0)), (1, .int v1), (2, .int v2)], [], me_w M J)) rfl k
      by_cases h14 : (x207 p v1 v2 J) < 0
      · rw [if_pos h14] at k
        have k := ly_revb 2 (c' := (2, [(2, .int (v2 + (Int32.ofInt 1))), (0, .ref (p 0)), (1, .int v1)], [], me_w M J)) rfl k
        have k := nt_rn_w (a := [(2, .int (v2 + (Int32.ofInt 1))), (0, .ref (p 0)), (1, .int v1)]) (b := [(0, .ref (p 0)), (1, .int v1), (2, .int (v2 + (Int32.ofInt 1)))]) ⟨rfl, rfl, rfl, trivial⟩ rfl k
        have k := ih (v2 + (Int32.ofInt 1)) (lx_dec h5 hc) k
        rw [k, x206_2, if_neg h5, if_pos h14]
      · rw [if_neg h14] at k
        have k := ly_revb 1 (c' := (18, [(0, .ref (p 0)), (1, .int v1), (2, .int v2)], [.int v2], me_w M J)) rfl k
        have k := lz_ri rfl (by decide) k
        rw [k, x206_2, if_neg h5, if_neg h14]
theorem x206_2_rule {p : Nat → Nat} {v1 : Int32} {J : Nat → Nat → Int32} {I : Nat → Int32 → Prop} {Q : Int32 → Prop} (h0 : ∀ (v2 : Int32), I 0 v2 → Q (Int32.ofInt (-1))) (h1 : ∀ (c : Nat) (v2 : Int32), I (c + 1) v2 →
    if (Int32.ofInt 99) ≤ v2 then (Q (Int32.ofInt (-1)))
    else if (x207 p v1 v2 J) < 0 then (I c (v2 + (Int32.ofInt 1)))
      else (Q v2)) : ∀ (c : Nat) (v2 : Int32), I c v2 → Q (x206_2 p v1 J c v2) := by
  intro c
  induction c with
  | zero =>
    intro v2 hi
    rw [x206_2]
    exact h0 v2 hi
  | succ c ih =>
    intro v2 hi
    have hi := h1 c v2 hi
    rw [x206_2]
    by_cases h : (Int32.ofInt 99) ≤ v2
    · rw [if_pos h] at hi ⊢
      exact hi
    · rw [if_neg h] at hi ⊢
      by_cases h : (x207 p v1 v2 J) < 0
      · rw [if_pos h] at hi ⊢
        exact ih _ hi
      · rw [if_neg h] at hi ⊢
        exact hi
def x206 (p : Nat → Nat) (v1 : Int32) (J : Nat → Nat → Int32) : Int32 := (x206_2 p v1 J ((Int32.ofInt 99).toNatClampNeg) (Int32.ofInt 0))
theorem xt206 {X : nt_X} {d : Nat} {M : nt_M} {o : Option Value × nt_M} {p : Nat → Nat} {v1 : Int32} {J : Nat → Nat → Int32} (hp : xs_P M p) (k : nt_ev X d 206 [.ref (p 0), .int v1] (me_w M J) o) : o = (some (.int (x206 p v1 J)), me_w M J) := by
  have k : nt_rn X d 206 (0, [(0, .ref (p 0)), (1, .int v1)], [], me_w M J) o := k
  have k := ly_revb 2 (c' := (2, [(2, .int (Int32.ofInt 0)), (0, .ref (p 0)), (1, .int v1)], [], me_w M J)) rfl k
  have k := nt_rn_w (a := [(2, .int (Int32.ofInt 0)), (0, .ref (p 0)), (1, .int v1)]) (b := [(0, .ref (p 0)), (1, .int v1), (2, .int (Int32.ofInt 0))]) ⟨rfl, rfl, rfl, trivial⟩ rfl k
  have k := xt206_2 hp  ((Int32.ofInt 99).toNatClampNeg) (Int32.ofInt 0) (lx_beg (by decide)) k
  rw [k, x206]
/-! Model.payOf -/
def x213_4 (p : Nat → Nat) (v1 : Int32) (J : Nat → Nat → Int32) : Nat → Int32 → Int32 → Int32
  | 0, v2, v3 => v2
  | c + 1, v2, v3 => if (J (p 4) 3) ≤ v3 then v2
    else if (x209 v1 v3) = 0 then (x213_4 p v1 J c (v2 + (Int32.ofInt 0)) (v3 + (Int32.ofInt 1)))
      else (x213_4 p v1 J c (v2 + (x180 p v3 (Int32.ofInt 3) J)) (v3 + (Int32.ofInt 1)))
theorem xt213_4 {X : nt_X} {d : Nat} {M : nt_M} {o : Option Value × nt_M} {p : Nat → Nat} {v1 : Int32} {J : Nat → Nat → Int32} (hp : xs_P M p) : ∀ (c : Nat) (v2 : Int32) (v3 : Int32), (J (p 4) 3).toInt - v3.toInt ≤ c → nt_rn X d 213 (4, [(0, .ref (p 0)), (1, .int v1), (2, .int v2), (3, .int v3)], [], me_w M J) o → o = (some (.int (x213_4 p v1 J c v2 v3)), me_w M J) := by
  intro c
  induction c with
  | zero =>
    intro v2 v3 hc k
    have k := ly_revb 2 (c' := (6, [(0, .ref (p 0)), (1, .int v1), (2, .int v2), (3, .int v3)], [.ref (p 0), .int v3], me_w M J)) rfl k
    have k := lz_get (a := (p 0)) (g := 1127) (M := me_w M J) (v := .ref (p 4)) rfl (nt_gfR rfl (hp.1 (0, 27, 4) (by decide))) k
    have k := ly_revb 1 (c' := (10, [(0, .ref (p 0)), (1, .int v1), (2, .int v2), (3, .int v3)], [.int (Int32.ofInt 3), .ref (p 4), .int v3], me_w M J)) rfl k
    have k := mx_iald (v := J (p 4) 3) rfl (hp.2.2.1 4 (by omega)) ((congrArg (J (p 4)) (show (Int32.ofInt 3).toNatClampNeg = 3 from rfl)).trans (rfl)) k
    have k := ly_revb 1 (c' := (if (J (p 4) 3) ≤ v3 then 41 else 14, [(0, .ref (p 0)), (1, .int v1), (2, .int v2), (3, .int v3)], [], me_w M J)) rfl k
    have h11 : (J (p 4) 3) ≤ v3 := lx_end hc
    rw [if_pos h11] at k
    have k := ly_revb 1 (c' := (42, [(0, .ref (p 0)), (1, .int v1), (2, .int v2), (3, .int v3)], [.int v2], me_w M J)) rfl k
    have k := lz_ri rfl (by decide) k
    rw [k, x213_4]
  | succ c ih =>
    intro v2 v3 hc k
    have k := ly_revb 2 (c' := (6, [(0, .ref (p 0)), (1, .int v1), (2, .int v2), (3, .int v3)], [.ref (p 0), .int v3], me_w M J)) rfl k
    have k := lz_get (a := (p 0)) (g := 1127) (M := me_w M J) (v := .ref (p 4)) rfl (nt_gfR rfl (hp.1 (0, 27, 4) (by decide))) k
    have k := ly_revb 1 (c' := (10, [(0, .ref (p 0)), (1, .int v1), (2, .int v2), (3, .int v3)], [.int (Int32.ofInt 3), .ref (p 4), .int v3], me_w M J)) rfl k
    have k := mx_iald (v := J (p 4) 3) rfl (hp.2.2.1 4 (by omega)) ((congrArg (J (p 4)) (show (Int32.ofInt 3).toNatClampNeg = 3 from rfl)).trans (rfl)) k
    have k := ly_revb 1 (c' := (if (J (p 4) 3) ≤ v3 then 41 else 14, [(0, .ref (p 0)), (1, .int v1), (2, .int v2), (3, .int v3)], [], me_w M J)) rfl k
    by_cases h11 : (J (p 4) 3) ≤ v3
    · rw [if_pos h11] at k
      have k := ly_revb 1 (c' := (42, [(0, .ref (p 0)), (1, .int v1), (2, .int v2), (3, .int v3)], [.int v2], me_w M J)) rfl k
      have k := lz_ri rfl (by decide) k
      rw [k, x213_4, if_pos h11]
    · rw [if_neg h11] at k
      have k := ly_revb 3 (c' := (17, [(0, .ref (p 0)), (1, .int v1), (2, .int v2), (3, .int v3)], [.int v3, .int v1, .int v2], me_w M J)) rfl k
      obtain ⟨d1, o1, ed, kc, k⟩ := lz_c (g := 209) (q := 0) (vs := [.int v1, .int v3]) (rest := [.int v2]) rfl rfl (by decide) (Or.inl ⟨_, rfl, rfl⟩) rfl k
      have e1 := xt209  kc
      subst e1
      have k : nt_rn X _ 213 (20, [(0, .ref (p 0)), (1, .int v1), (2, .int v2), (3, .int v3)], [.int (x209 v1 v3), .int v2], me_w M J) _ := k
      have k := ly_revb 1 (c' := (if (x209 v1 v3) = 0 then 32 else 23, [(0, .ref (p 0)), (1, .int v1), (2, .int v2), (3, .int v3)], [.int v2], me_w M J)) rfl k
      by_cases h20 : (x209 v1 v3) = 0
      · rw [if_pos h20] at k
        have k := ly_revb 5 (c' := (4, [(3, .int (v3 + (Int32.ofInt 1))), (2, .int (v2 + (Int32.ofInt 0))), (0, .ref (p 0)), (1, .int v1)], [], me_w M J)) rfl k
        have k := nt_rn_w (a := [(3, .int (v3 + (Int32.ofInt 1))), (2, .int (v2 + (Int32.ofInt 0))), (0, .ref (p 0)), (1, .int v1)]) (b := [(0, .ref (p 0)), (1, .int v1), (2, .int (v2 + (Int32.ofInt 0))), (3, .int (v3 + (Int32.ofInt 1)))]) ⟨rfl, rfl, rfl, rfl, trivial⟩ rfl k
        have k := ih (v2 + (Int32.ofInt 0)) (v3 + (Int32.ofInt 1)) (lx_dec h11 hc) k
        rw [k, x213_4, if_neg h11, if_pos h20]
      · rw [if_neg h20] at k
        have k := ly_revb 3 (c' := (26, [(0, .ref (p 0)), (1, .int v1), (2, .int v2), (3, .int v3)], [.int (Int32.ofInt 3), .int v3, .ref (p 0), .int v2], me_w M J)) rfl k
        obtain ⟨d1, o1, ed, kc, k⟩ := lz_c (g := 180) (q := 1) (vs := [.ref (p 0), .int v3, .int (Int32.ofInt 3)]) (rest := [.int v2]) rfl rfl (by decide) (Or.inr (Or.inl ⟨_, rfl, rfl⟩)) rfl k
        have e1 := xt180 hp kc
        subst e1
        have k : nt_rn X _ 213 (29, [(0, .ref (p 0)), (1, .int v1), (2, .int v2), (3, .int v3)], [.int (x180 p v3 (Int32.ofInt 3) J), .int v2], me_w M J) _ := k
        have k := ly_revb 5 (c' := (4, [(3, .int (v3 + (Int32.ofInt 1))), (2, .int (v2 + (x180 p v3 (Int32.ofInt 3) J))), (0, .ref (p 0)), (1, .int v1)], [], me_w M J)) rfl k
        have k := nt_rn_w (a := [(3, .int (v3 + (Int32.ofInt 1))), (2, .int (v2 + (x180 p v3 (Int32.ofInt 3) J))), (0, .ref (p 0)), (1, .int v1)]) (b := [(0, .ref (p 0)), (1, .int v1), (2, .int (v2 + (x180 p v3 (Int32.ofInt 3) J))), (3, .int (v3 + (Int32.ofInt 1)))]) ⟨rfl, rfl, rfl, rfl, trivial⟩ rfl k
        have k := ih (v2 + (x180 p v3 (Int32.ofInt 3) J)) (v3 + (Int32.ofInt 1)) (lx_dec h11 hc) k
        rw [k, x213_4, if_neg h11, if_neg h20]
theorem x213_4_rule {p : Nat → Nat} {v1 : Int32} {J : Nat → Nat → Int32} {I : Nat → Int32 → Int32 → Prop} {Q : Int32 → Prop} (h0 : ∀ (v2 : Int32) (v3 : Int32), I 0 v2 v3 → Q v2) (h1 : ∀ (c : Nat) (v2 : Int32) (v3 : Int32), I (c + 1) v2 v3 →
    if (J (p 4) 3) ≤ v3 then (Q v2)
    else if (x209 v1 v3) = 0 then (I c (v2 + (Int32.ofInt 0)) (v3 + (Int32.ofInt 1)))
      else (I c (v2 + (x180 p v3 (Int32.ofInt 3) J)) (v3 + (Int32.ofInt 1)))) : ∀ (c : Nat) (v2 : Int32) (v3 : Int32), I c v2 v3 → Q (x213_4 p v1 J c v2 v3) := by
  intro c
  induction c with
  | zero =>
    intro v2 v3 hi
    rw [x213_4]
    exact h0 v2 v3 hi
  | succ c ih =>
    intro v2 v3 hi
    have hi := h1 c v2 v3 hi
    rw [x213_4]
    by_cases h : (J (p 4) 3) ≤ v3
    · rw [if_pos h] at hi ⊢
      exact hi
    · rw [if_neg h] at hi ⊢
      by_cases h : (x209 v1 v3) = 0
      · rw [if_pos h] at hi ⊢
        exact ih _ _ hi
      · rw [if_neg h] at hi ⊢
        exact ih _ _ hi
def x213 (p : Nat → Nat) (v1 : Int32) (J : Nat → Nat → Int32) : Int32 := (x213_4 p v1 J ((J (p 4) 3).toNatClampNeg) (Int32.ofInt 0) (Int32.ofInt 0))
theorem xt213 {X : nt_X} {d : Nat} {M : nt_M} {o : Option Value × nt_M} {p : Nat → Nat} {v1 : Int32} {J : Nat → Nat → Int32} (hp : xs_P M p) (k : nt_ev X d 213 [.ref (p 0), .int v1] (me_w M J) o) : o = (some (.int (x213 p v1 J)), me_w M J) := by
  have k : nt_rn X d 213 (0, [(0, .ref (p 0)), (1, .int v1)], [], me_w M J) o := k
  have k := ly_revb 4 (c' := (4, [(3, .int (Int32.ofInt 0)), (2, .int (Int32.ofInt 0)), (0, .ref (p 0)), (1, .int v1)], [], me_w M J)) rfl k
  have k := nt_rn_w (a := [(3, .int (Int32.ofInt 0)), (2, .int (Int32.ofInt 0)), (0, .ref (p 0)), (1, .int v1)]) (b := [(0, .ref (p 0)), (1, .int v1), (2, .int (Int32.ofInt 0)), (3, .int (Int32.ofInt 0))]) ⟨rfl, rfl, rfl, rfl, trivial⟩ rfl k
  have k := xt213_4 hp  ((J (p 4) 3).toNatClampNeg) (Int32.ofInt 0) (Int32.ofInt 0) (lx_beg (by decide)) k
  rw [k, x213]
/-! Model.most -/
def x212_23 (p : Nat → Nat) (v1 : Int32) (J : Nat → Nat → Int32) : Nat → Int32 → Int32 → Int32
  | 0, v2, v3 => if v1 = 0 then (x213 p v2 J)
    else v2
  | c + 1, v2, v3 => if ((Int32.ofInt 1) <<< ((J (p 4) 3) &&& 31)) ≤ v3 then if v1 = 0 then (x213 p v2 J)
      else v2
    else if (x213 p v2 J) < (x213 p v3 J) then if 0 ≤ (x206 p v3 J) then (x212_23 p v1 J c v2 (v3 + (Int32.ofInt 1)))
        else (x212_23 p v1 J c v3 (v3 + (Int32.ofInt 1)))
      else if (x213 p v3 J) = (x213 p v2 J) then if (x214 v2) ≤ (x214 v3) then (x212_23 p v1 J c v2 (v3 + (Int32.ofInt 1)))
          else if 0 ≤ (x206 p v3 J) then (x212_23 p v1 J c v2 (v3 + (Int32.ofInt 1)))
            else (x212_23 p v1 J c v3 (v3 + (Int32.ofInt 1)))
        else (x212_23 p v1 J c v2 (v3 + (Int32.ofInt 1)))
theorem xt212_23 {X : nt_X} {d : Nat} {M : nt_M} {o : Option Value × nt_M} {p : Nat → Nat} {v1 : Int32} {J : Nat → Nat → Int32} (hp : xs_P M p) : ∀ (c : Nat) (v2 : Int32) (v3 : Int32) (v4 : Int32), ((Int32.ofInt 1) <<< ((J (p 4) 3) &&& 31)).toInt - v3.toInt ≤ c → nt_rn X d 212 (23, [(0, .ref (p 0)), (1, .int v1), (2, .int v2), (3, .int v3), (4, .int v4)], [], me_w M J) o → o = (some (.int (x212_23 p v1 J c v2 v3)), me_w M J) := by
  intro c
  induction c with
  | zero =>
    intro v2 v3 v4 hc k
    have k := ly_revb 3 (c' := (26, [(0, .ref (p 0)), (1, .int v1), (2, .int v2), (3, .int v3), (4, .int v4)], [.ref (p 0), .int (Int32.ofInt 1), .int v3], me_w M J)) rfl k
    have k := lz_get (a := (p 0)) (g := 1127) (M := me_w M J) (v := .ref (p 4)) rfl (nt_gfR rfl (hp.1 (0, 27, 4) (by decide))) k
    have k := ly_revb 1 (c' := (30, [(0, .ref (p 0)), (1, .int v1), (2, .int v2), (3, .int v3), (4, .int v4)], [.int (Int32.ofInt 3), .ref (p 4), .int (Int32.ofInt 1), .int v3], me_w M J)) rfl k
    have k := mx_iald (v := J (p 4) 3) rfl (hp.2.2.1 4 (by omega)) ((congrArg (J (p 4)) (show (Int32.ofInt 3).toNatClampNeg = 3 from rfl)).trans (rfl)) k
    have k := ly_revb 2 (c' := (if ((Int32.ofInt 1) <<< ((J (p 4) 3) &&& 31)) ≤ v3 then 100 else 35, [(0, .ref (p 0)), (1, .int v1), (2, .int v2), (3, .int v3), (4, .int v4)], [], me_w M J)) rfl k
    have h32 : ((Int32.ofInt 1) <<< ((J (p 4) 3) &&& 31)) ≤ v3 := lx_end hc
    rw [if_pos h32] at k
    have k := ly_revb 2 (c' := (if v1 = 0 then 104 else 112, [(0, .ref (p 0)), (1, .int v1), (2, .int v2), (3, .int v3), (4, .int v4)], [], me_w M J)) rfl k
    by_cases h101 : v1 = 0
    · rw [if_pos h101] at k
      have k := ly_revb 2 (c' := (106, [(0, .ref (p 0)), (1, .int v1), (2, .int v2), (3, .int v3), (4, .int v4)], [.int v2, .ref (p 0)], me_w M J)) rfl k
      obtain ⟨d1, o1, ed, kc, k⟩ := lz_c (g := 213) (q := 1) (vs := [.ref (p 0), .int v2]) (rest := []) rfl rfl (by decide) (Or.inr (Or.inl ⟨_, rfl, rfl⟩)) rfl k
      have e1 := xt213 hp kc
      subst e1
      have k : nt_rn X _ 212 (109, [(0, .ref (p 0)), (1, .int v1), (2, .int v2), (3, .int v3), (4, .int v4)], [.int (x213 p v2 J)], me_w M J) _ := k
      have k := ly_revb 1 (c' := (113, [(0, .ref (p 0)), (1, .int v1), (2, .int v2), (3, .int v3), (4, .int v4)], [.int (x213 p v2 J)], me_w M J)) rfl k
      have k := lz_ri rfl (by decide) k
      rw [k, x212_23, if_pos h101]
    · rw [if_neg h101] at k
      have k := ly_revb 1 (c' := (113, [(0, .ref (p 0)), (1, .int v1), (2, .int v2), (3, .int v3), (4, .int v4)], [.int v2], me_w M J)) rfl k
      have k := lz_ri rfl (by decide) k
      rw [k, x212_23, if_neg h101]
  | succ c ih =>
    intro v2 v3 v4 hc k
    have k := ly_revb 3 (c' := (26, [(0, .ref (p 0)), (1, .int v1), (2, .int v2), (3, .int v3), (4, .int v4)], [.ref (p 0), .int (Int32.ofInt 1), .int v3], me_w M J)) rfl k
    have k := lz_get (a := (p 0)) (g := 1127) (M := me_w M J) (v := .ref (p 4)) rfl (nt_gfR rfl (hp.1 (0, 27, 4) (by decide))) k
    have k := ly_revb 1 (c' := (30, [(0, .ref (p 0)), (1, .int v1), (2, .int v2), (3, .int v3), (4, .int v4)], [.int (Int32.ofInt 3), .ref (p 4), .int (Int32.ofInt 1), .int v3], me_w M J)) rfl k
    have k := mx_iald (v := J (p 4) 3) rfl (hp.2.2.1 4 (by omega)) ((congrArg (J (p 4)) (show (Int32.ofInt 3).toNatClampNeg = 3 from rfl)).trans (rfl)) k
    have k := ly_revb 2 (c' := (if ((Int32.ofInt 1) <<< ((J (p 4) 3) &&& 31)) ≤ v3 then 100 else 35, [(0, .ref (p 0)), (1, .int v1), (2, .int v2), (3, .int v3), (4, .int v4)], [], me_w M J)) rfl k
    by_cases h32 : ((Int32.ofInt 1) <<< ((J (p 4) 3) &&& 31)) ≤ v3
    · rw [if_pos h32] at k
      have k := ly_revb 2 (c' := (if v1 = 0 then 104 else 112, [(0, .ref (p 0)), (1, .int v1), (2, .int v2), (3, .int v3), (4, .int v4)], [], me_w M J)) rfl k
      by_cases h101 : v1 = 0
      · rw [if_pos h101] at k
        have k := ly_revb 2 (c' := (106, [(0, .ref (p 0)), (1, .int v1), (2, .int v2), (3, .int v3), (4, .int v4)], [.int v2, .ref (p 0)], me_w M J)) rfl k
        obtain ⟨d1, o1, ed, kc, k⟩ := lz_c (g := 213) (q := 1) (vs := [.ref (p 0), .int v2]) (rest := []) rfl rfl (by decide) (Or.inr (Or.inl ⟨_, rfl, rfl⟩)) rfl k
        have e1 := xt213 hp kc
        subst e1
        have k : nt_rn X _ 212 (109, [(0, .ref (p 0)), (1, .int v1), (2, .int v2), (3, .int v3), (4, .int v4)], [.int (x213 p v2 J)], me_w M J) _ := k
        have k := ly_revb 1 (c' := (113, [(0, .ref (p 0)), (1, .int v1), (2, .int v2), (3, .int v3), (4, .int v4)], [.int (x213 p v2 J)], me_w M J)) rfl k
        have k := lz_ri rfl (by decide) k
        rw [k, x212_23, if_pos h32, if_pos h101]
      · rw [if_neg h101] at k
        have k := ly_revb 1 (c' := (113, [(0, .ref (p 0)), (1, .int v1), (2, .int v2), (3, .int v3), (4, .int v4)], [.int v2], me_w M J)) rfl k
        have k := lz_ri rfl (by decide) k
        rw [k, x212_23, if_pos h32, if_neg h101]
    · rw [if_neg h32] at k
      have k := ly_revb 2 (c' := (37, [(0, .ref (p 0)), (1, .int v1), (2, .int v2), (3, .int v3), (4, .int v4)], [.int v3, .ref (p 0)], me_w M J)) rfl k
      obtain ⟨d1, o1, ed, kc, k⟩ := lz_c (g := 213) (q := 1) (vs := [.ref (p 0), .int v3]) (rest := []) rfl rfl (by decide) (Or.inr (Or.inl ⟨_, rfl, rfl⟩)) rfl k
      have e1 := xt213 hp kc
      subst e1
      have k : nt_rn X _ 212 (40, [(0, .ref (p 0)), (1, .int v1), (2, .int v2), (3, .int v3), (4, .int v4)], [.int (x213 p v3 J)], me_w M J) _ := k
      have k := ly_revb 2 (c' := (42, [(0, .ref (p 0)), (1, .int v1), (2, .int v2), (3, .int v3), (4, .int v4)], [.int v2, .ref (p 0), .int (x213 p v3 J)], me_w M J)) rfl k
      obtain ⟨d1, o1, ed, kc, k⟩ := lz_c (g := 213) (q := 1) (vs := [.ref (p 0), .int v2]) (rest := [.int (x213 p v3 J)]) rfl rfl (by decide) (Or.inr (Or.inl ⟨_, rfl, rfl⟩)) rfl k
      have e1 := xt213 hp kc
      subst e1
      have k : nt_rn X _ 212 (45, [(0, .ref (p 0)), (1, .int v1), (2, .int v2), (3, .int v3), (4, .int v4)], [.int (x213 p v2 J), .int (x213 p v3 J)], me_w M J) _ := k
      have k := ly_revb 1 (c' := (if (x213 p v2 J) < (x213 p v3 J) then 72 else 48, [(0, .ref (p 0)), (1, .int v1), (2, .int v2), (3, .int v3), (4, .int v4)], [], me_w M J)) rfl k
      by_cases h45 : (x213 p v2 J) < (x213 p v3 J)
      · rw [if_pos h45] at k
        have k := ly_revb 5 (c' := (if (Int32.ofInt 1) = 0 then 94 else 84, [(4, .int (Int32.ofInt 1)), (0, .ref (p 0)), (1, .int v1), (2, .int v2), (3, .int v3)], [], me_w M J)) rfl k
        rw [if_neg (show ¬ ((Int32.ofInt 1) = 0) from by decide)] at k
        have k := ly_revb 2 (c' := (86, [(4, .int (Int32.ofInt 1)), (0, .ref (p 0)), (1, .int v1), (2, .int v2), (3, .int v3)], [.int v3, .ref (p 0)], me_w M J)) rfl k
        obtain ⟨d1, o1, ed, kc, k⟩ := lz_c (g := 206) (q := 1) (vs := [.ref (p 0), .int v3]) (rest := []) rfl rfl (by decide) (Or.inr (Or.inl ⟨_, rfl, rfl⟩)) rfl k
        have e1 := xt206 hp kc
        subst e1
        have k : nt_rn X _ 212 (89, [(4, .int (Int32.ofInt 1)), (0, .ref (p 0)), (1, .int v1), (2, .int v2), (3, .int v3)], [.int (x206 p v3 J)], me_w M J) _ := k
        have k := ly_revb 1 (c' := (if 0 ≤ (x206 p v3 J) then 94 else 92, [(4, .int (Int32.ofInt 1)), (0, .ref (p 0)), (1, .int v1), (2, .int v2), (3, .int v3)], [], me_w M J)) rfl k
        by_cases h89 : 0 ≤ (x206 p v3 J)
        · rw [if_pos h89] at k
          have k := ly_revb 2 (c' := (23, [(3, .int (v3 + (Int32.ofInt 1))), (4, .int (Int32.ofInt 1)), (0, .ref (p 0)), (1, .int v1), (2, .int v2)], [], me_w M J)) rfl k
          have k := nt_rn_w (a := [(3, .int (v3 + (Int32.ofInt 1))), (4, .int (Int32.ofInt 1)), (0, .ref (p 0)), (1, .int v1), (2, .int v2)]) (b := [(0, .ref (p 0)), (1, .int v1), (2, .int v2), (3, .int (v3 + (Int32.ofInt 1))), (4, .int (Int32.ofInt 1))]) ⟨rfl, rfl, rfl, rfl, rfl, trivial⟩ rfl k
          have k := ih v2 (v3 + (Int32.ofInt 1)) (Int32.ofInt 1) (lx_dec h32 hc) k
          rw [k, x212_23, if_neg h32, if_pos h45, if_pos h89]
        · rw [if_neg h89] at k
          have k := ly_revb 4 (c' := (23, [(3, .int (v3 + (Int32.ofInt 1))), (2, .int v3), (4, .int (Int32.ofInt 1)), (0, .ref (p 0)), (1, .int v1)], [], me_w M J)) rfl k
          have k := nt_rn_w (a := [(3, .int (v3 + (Int32.ofInt 1))), (2, .int v3), (4, .int (Int32.ofInt 1)), (0, .ref (p 0)), (1, .int v1)]) (b := [(0, .ref (p 0)), (1, .int v1), (2, .int v3), (3, .int (v3 + (Int32.ofInt 1))), (4, .int (Int32.ofInt 1))]) ⟨rfl, rfl, rfl, rfl, rfl, trivial⟩ rfl k
          have k := ih v3 (v3 + (Int32.ofInt 1)) (Int32.ofInt 1) (lx_dec h32 hc) k
          rw [k, x212_23, if_neg h32, if_pos h45, if_neg h89]
      · rw [if_neg h45] at k
        have k := ly_revb 2 (c' := (50, [(0, .ref (p 0)), (1, .int v1), (2, .int v2), (3, .int v3), (4, .int v4)], [.int v3, .ref (p 0)], me_w M J)) rfl k
        obtain ⟨d1, o1, ed, kc, k⟩ := lz_c (g := 213) (q := 1) (vs := [.ref (p 0), .int v3]) (rest := []) rfl rfl (by decide) (Or.inr (Or.inl ⟨_, rfl, rfl⟩)) rfl k
        have e1 := xt213 hp kc
        subst e1
        have k : nt_rn X _ 212 (53, [(0, .ref (p 0)), (1, .int v1), (2, .int v2), (3, .int v3), (4, .int v4)], [.int (x213 p v3 J)], me_w M J) _ := k
        have k := ly_revb 2 (c' := (55, [(0, .ref (p 0)), (1, .int v1), (2, .int v2), (3, .int v3), (4, .int v4)], [.int v2, .ref (p 0), .int (x213 p v3 J)], me_w M J)) rfl k
        obtain ⟨d1, o1, ed, kc, k⟩ := lz_c (g := 213) (q := 1) (vs := [.ref (p 0), .int v2]) (rest := [.int (x213 p v3 J)]) rfl rfl (by decide) (Or.inr (Or.inl ⟨_, rfl, rfl⟩)) rfl k
        have e1 := xt213 hp kc
        subst e1
        have k : nt_rn X _ 212 (58, [(0, .ref (p 0)), (1, .int v1), (2, .int v2), (3, .int v3), (4, .int v4)], [.int (x213 p v2 J), .int (x213 p v3 J)], me_w M J) _ := k
        have k := ly_revb 1 (c' := (if (x213 p v3 J) = (x213 p v2 J) then 61 else 76, [(0, .ref (p 0)), (1, .int v1), (2, .int v2), (3, .int v3), (4, .int v4)], [], me_w M J)) rfl k
        by_cases h58 : (x213 p v3 J) = (x213 p v2 J)
        · rw [if_pos h58] at k
          have k := ly_revb 1 (c' := (62, [(0, .ref (p 0)), (1, .int v1), (2, .int v2), (3, .int v3), (4, .int v4)], [.int v3], me_w M J)) rfl k
          obtain ⟨d1, o1, ed, kc, k⟩ := lz_c (g := 214) (q := 0) (vs := [.int v3]) (rest := []) rfl rfl (by decide) (Or.inl ⟨_, rfl, rfl⟩) rfl k
          have e1 := xt214  kc
          subst e1
          have k : nt_rn X _ 212 (65, [(0, .ref (p 0)), (1, .int v1), (2, .int v2), (3, .int v3), (4, .int v4)], [.int (x214 v3)], me_w M J) _ := k
          have k := ly_revb 1 (c' := (66, [(0, .ref (p 0)), (1, .int v1), (2, .int v2), (3, .int v3), (4, .int v4)], [.int v2, .int (x214 v3)], me_w M J)) rfl k
          obtain ⟨d1, o1, ed, kc, k⟩ := lz_c (g := 214) (q := 0) (vs := [.int v2]) (rest := [.int (x214 v3)]) rfl rfl (by decide) (Or.inl ⟨_, rfl, rfl⟩) rfl k
          have e1 := xt214  kc
          subst e1
          have k : nt_rn X _ 212 (69, [(0, .ref (p 0)), (1, .int v1), (2, .int v2), (3, .int v3), (4, .int v4)], [.int (x214 v2), .int (x214 v3)], me_w M J) _ := k
          have k := ly_revb 1 (c' := (if (x214 v2) ≤ (x214 v3) then 76 else 72, [(0, .ref (p 0)), (1, .int v1), (2, .int v2), (3, .int v3), (4, .int v4)], [], me_w M J)) rfl k
          by_cases h69 : (x214 v2) ≤ (x214 v3)
          · rw [if_pos h69] at k
            have k := ly_revb 4 (c' := (if (Int32.ofInt 0) = 0 then 94 else 84, [(4, .int (Int32.ofInt 0)), (0, .ref (p 0)), (1, .int v1), (2, .int v2), (3, .int v3)], [], me_w M J)) rfl k
            rw [if_pos (show (Int32.ofInt 0) = 0 from by decide)] at k
            have k := ly_revb 2 (c' := (23, [(3, .int (v3 + (Int32.ofInt 1))), (4, .int (Int32.ofInt 0)), (0, .ref (p 0)), (1, .int v1), (2, .int v2)], [], me_w M J)) rfl k
            have k := nt_rn_w (a := [(3, .int (v3 + (Int32.ofInt 1))), (4, .int (Int32.ofInt 0)), (0, .ref (p 0)), (1, .int v1), (2, .int v2)]) (b := [(0, .ref (p 0)), (1, .int v1), (2, .int v2), (3, .int (v3 + (Int32.ofInt 1))), (4, .int (Int32.ofInt 0))]) ⟨rfl, rfl, rfl, rfl, rfl, trivial⟩ rfl k
            have k := ih v2 (v3 + (Int32.ofInt 1)) (Int32.ofInt 0) (lx_dec h32 hc) k
            rw [k, x212_23, if_neg h32, if_neg h45, if_pos h58, if_pos h69]
          · rw [if_neg h69] at k
            have k := ly_revb 5 (c' := (if (Int32.ofInt 1) = 0 then 94 else 84, [(4, .int (Int32.ofInt 1)), (0, .ref (p 0)), (1, .int v1), (2, .int v2), (3, .int v3)], [], me_w M J)) rfl k
            rw [if_neg (show ¬ ((Int32.ofInt 1) = 0) from by decide)] at k
            have k := ly_revb 2 (c' := (86, [(4, .int (Int32.ofInt 1)), (0, .ref (p 0)), (1, .int v1), (2, .int v2), (3, .int v3)], [.int v3, .ref (p 0)], me_w M J)) rfl k
            obtain ⟨d1, o1, ed, kc, k⟩ := lz_c (g := 206) (q := 1) (vs := [.ref (p 0), .int v3]) (rest := []) rfl rfl (by decide) (Or.inr (Or.inl ⟨_, rfl, rfl⟩)) rfl k
            have e1 := xt206 hp kc
            subst e1
            have k : nt_rn X _ 212 (89, [(4, .int (Int32.ofInt 1)), (0, .ref (p 0)), (1, .int v1), (2, .int v2), (3, .int v3)], [.int (x206 p v3 J)], me_w M J) _ := k
            have k := ly_revb 1 (c' := (if 0 ≤ (x206 p v3 J) then 94 else 92, [(4, .int (Int32.ofInt 1)), (0, .ref (p 0)), (1, .int v1), (2, .int v2), (3, .int v3)], [], me_w M J)) rfl k
            by_cases h89 : 0 ≤ (x206 p v3 J)
            · rw [if_pos h89] at k
              have k := ly_revb 2 (c' := (23, [(3, .int (v3 + (Int32.ofInt 1))), (4, .int (Int32.ofInt 1)), (0, .ref (p 0)), (1, .int v1), (2, .int v2)], [], me_w M J)) rfl k
              have k := nt_rn_w (a := [(3, .int (v3 + (Int32.ofInt 1))), (4, .int (Int32.ofInt 1)), (0, .ref (p 0)), (1, .int v1), (2, .int v2)]) (b := [(0, .ref (p 0)), (1, .int v1), (2, .int v2), (3, .int (v3 + (Int32.ofInt 1))), (4, .int (Int32.ofInt 1))]) ⟨rfl, rfl, rfl, rfl, rfl, trivial⟩ rfl k
              have k := ih v2 (v3 + (Int32.ofInt 1)) (Int32.ofInt 1) (lx_dec h32 hc) k
              rw [k, x212_23, if_neg h32, if_neg h45, if_pos h58, if_neg h69, if_pos h89]
            · rw [if_neg h89] at k
              have k := ly_revb 4 (c' := (23, [(3, .int (v3 + (Int32.ofInt 1))), (2, .int v3), (4, .int (Int32.ofInt 1)), (0, .ref (p 0)), (1, .int v1)], [], me_w M J)) rfl k
              have k := nt_rn_w (a := [(3, .int (v3 + (Int32.ofInt 1))), (2, .int v3), (4, .int (Int32.ofInt 1)), (0, .ref (p 0)), (1, .int v1)]) (b := [(0, .ref (p 0)), (1, .int v1), (2, .int v3), (3, .int (v3 + (Int32.ofInt 1))), (4, .int (Int32.ofInt 1))]) ⟨rfl, rfl, rfl, rfl, rfl, trivial⟩ rfl k
              have k := ih v3 (v3 + (Int32.ofInt 1)) (Int32.ofInt 1) (lx_dec h32 hc) k
              rw [k, x212_23, if_neg h32, if_neg h45, if_pos h58, if_neg h69, if_neg h89]
        · rw [if_neg h58] at k
          have k := ly_revb 4 (c' := (if (Int32.ofInt 0) = 0 then 94 else 84, [(4, .int (Int32.ofInt 0)), (0, .ref (p 0)), (1, .int v1), (2, .int v2), (3, .int v3)], [], me_w M J)) rfl k
          rw [if_pos (show (Int32.ofInt 0) = 0 from by decide)] at k
          have k := ly_revb 2 (c' := (23, [(3, .int (v3 + (Int32.ofInt 1))), (4, .int (Int32.ofInt 0)), (0, .ref (p 0)), (1, .int v1), (2, .int v2)], [], me_w M J)) rfl k
          have k := nt_rn_w (a := [(3, .int (v3 + (Int32.ofInt 1))), (4, .int (Int32.ofInt 0)), (0, .ref (p 0)), (1, .int v1), (2, .int v2)]) (b := [(0, .ref (p 0)), (1, .int v1), (2, .int v2), (3, .int (v3 + (Int32.ofInt 1))), (4, .int (Int32.ofInt 0))]) ⟨rfl, rfl, rfl, rfl, rfl, trivial⟩ rfl k
          have k := ih v2 (v3 + (Int32.ofInt 1)) (Int32.ofInt 0) (lx_dec h32 hc) k
          rw [k, x212_23, if_neg h32, if_neg h45, if_neg h58]
theorem x212_23_rule {p : Nat → Nat} {v1 : Int32} {J : Nat → Nat → Int32} {I : Nat → Int32 → Int32 → Prop} {Q : Int32 → Prop} (h0 : ∀ (v2 : Int32) (v3 : Int32), I 0 v2 v3 → Q (if v1 = 0 then (x213 p v2 J)
    else v2)) (h1 : ∀ (c : Nat) (v2 : Int32) (v3 : Int32), I (c + 1) v2 v3 →
    if ((Int32.ofInt 1) <<< ((J (p 4) 3) &&& 31)) ≤ v3 then if v1 = 0 then (Q (x213 p v2 J))
      else (Q v2)
    else if (x213 p v2 J) < (x213 p v3 J) then if 0 ≤ (x206 p v3 J) then (I c v2 (v3 + (Int32.ofInt 1)))
        else (I c v3 (v3 + (Int32.ofInt 1)))
      else if (x213 p v3 J) = (x213 p v2 J) then if (x214 v2) ≤ (x214 v3) then (I c v2 (v3 + (Int32.ofInt 1)))
          else if 0 ≤ (x206 p v3 J) then (I c v2 (v3 + (Int32.ofInt 1)))
            else (I c v3 (v3 + (Int32.ofInt 1)))
        else (I c v2 (v3 + (Int32.ofInt 1)))) : ∀ (c : Nat) (v2 : Int32) (v3 : Int32), I c v2 v3 → Q (x212_23 p v1 J c v2 v3) := by
  intro c
  induction c with
  | zero =>
    intro v2 v3 hi
    rw [x212_23]
    exact h0 v2 v3 hi
  | succ c ih =>
    intro v2 v3 hi
    have hi := h1 c v2 v3 hi
    rw [x212_23]
    by_cases h : ((Int32.ofInt 1) <<< ((J (p 4) 3) &&& 31)) ≤ v3
    · rw [if_pos h] at hi ⊢
      by_cases h : v1 = 0
      · rw [if_pos h] at hi ⊢
        exact hi
      · rw [if_neg h] at hi ⊢
        exact hi
    · rw [if_neg h] at hi ⊢
      by_cases h : (x213 p v2 J) < (x213 p v3 J)
      · rw [if_pos h] at hi ⊢
        by_cases h : 0 ≤ (x206 p v3 J)
        · rw [if_pos h] at hi ⊢
          exact ih _ _ hi
        · rw [if_neg h] at hi ⊢
          exact ih _ _ hi
      · rw [if_neg h] at hi ⊢
        by_cases h : (x213 p v3 J) = (x213 p v2 J)
        · rw [if_pos h] at hi ⊢
          by_cases h : (x214 v2) ≤ (x214 v3)
          · rw [if_pos h] at hi ⊢
            exact ih _ _ hi
          · rw [if_neg h] at hi ⊢
            by_cases h : 0 ≤ (x206 p v3 J)
            · rw [if_pos h] at hi ⊢
              exact ih _ _ hi
            · rw [if_neg h] at hi ⊢
              exact ih _ _ hi
        · rw [if_neg h] at hi ⊢
          exact ih _ _ hi
def x212 (p : Nat → Nat) (v1 : Int32) (J : Nat → Nat → Int32) : Int32 := if (x188 p J) = 0 then (Int32.ofInt (-1))
  else if (x145 v1.toInt64 (Int64.ofNat 0) (Int64.ofNat 1)) = 0 then (Int32.ofInt (-1))
    else (x212_23 p v1 J (((Int32.ofInt 1) <<< ((J (p 4) 3) &&& 31)).toNatClampNeg) (Int32.ofInt 0) (Int32.ofInt 1))
theorem xt212 {X : nt_X} {d : Nat} {M : nt_M} {o : Option Value × nt_M} {p : Nat → Nat} {v1 : Int32} {J : Nat → Nat → Int32} (hp : xs_P M p) (k : nt_ev X d 212 [.ref (p 0), .int v1] (me_w M J) o) : o = (some (.int (x212 p v1 J)), me_w M J) := by
  have k : nt_rn X d 212 (0, [(0, .ref (p 0)), (1, .int v1)], [], me_w M J) o := k
  have k := ly_revb 1 (c' := (1, [(0, .ref (p 0)), (1, .int v1)], [.ref (p 0)], me_w M J)) rfl k
  obtain ⟨d1, o1, ed, kc, k⟩ := lz_c (g := 188) (q := 1) (vs := [.ref (p 0)]) (rest := []) rfl rfl (by decide) (Or.inr (Or.inl ⟨_, rfl, rfl⟩)) rfl k
  have e1 := xt188 hp kc
  subst e1
  have k : nt_rn X _ 212 (4, [(0, .ref (p 0)), (1, .int v1)], [.int (x188 p J)], me_w M J) _ := k
  have k := ly_revb 1 (c' := (if (x188 p J) = 0 then 17 else 7, [(0, .ref (p 0)), (1, .int v1)], [], me_w M J)) rfl k
  by_cases h4 : (x188 p J) = 0
  · rw [if_pos h4] at k
    have k := ly_revb 1 (c' := (18, [(0, .ref (p 0)), (1, .int v1)], [.int (Int32.ofInt (-1))], me_w M J)) rfl k
    have k := lz_ri rfl (by decide) k
    rw [k, x212, if_pos h4]
  · rw [if_neg h4] at k
    have k := ly_revb 4 (c' := (11, [(0, .ref (p 0)), (1, .int v1)], [.long (Int64.ofNat 1), .long (Int64.ofNat 0), .long v1.toInt64], me_w M J)) rfl k
    obtain ⟨d1, o1, ed, kc, k⟩ := lz_c (g := 145) (q := 0) (vs := [.long v1.toInt64, .long (Int64.ofNat 0), .long (Int64.ofNat 1)]) (rest := []) rfl rfl (by decide) (Or.inl ⟨_, rfl, rfl⟩) rfl k
    have e1 := xt145  kc
    subst e1
    have k : nt_rn X _ 212 (14, [(0, .ref (p 0)), (1, .int v1)], [.int (x145 v1.toInt64 (Int64.ofNat 0) (Int64.ofNat 1))], me_w M J) _ := k
    have k := ly_revb 1 (c' := (if (x145 v1.toInt64 (Int64.ofNat 0) (Int64.ofNat 1)) = 0 then 17 else 19, [(0, .ref (p 0)), (1, .int v1)], [], me_w M J)) rfl k
    by_cases h14 : (x145 v1.toInt64 (Int64.ofNat 0) (Int64.ofNat 1)) = 0
    · rw [if_pos h14] at k
      have k := ly_revb 1 (c' := (18, [(0, .ref (p 0)), (1, .int v1)], [.int (Int32.ofInt (-1))], me_w M J)) rfl k
      have k := lz_ri rfl (by decide) k
      rw [k, x212, if_neg h4, if_pos h14]
    · rw [if_neg h14] at k
      have k := ly_revb 4 (c' := (23, [(3, .int (Int32.ofInt 1)), (2, .int (Int32.ofInt 0)), (0, .ref (p 0)), (1, .int v1)], [], me_w M J)) rfl k
      have k := nt_rn_w (a := [(3, .int (Int32.ofInt 1)), (2, .int (Int32.ofInt 0)), (0, .ref (p 0)), (1, .int v1)]) (b := [(0, .ref (p 0)), (1, .int v1), (2, .int (Int32.ofInt 0)), (3, .int (Int32.ofInt 1)), (4, .int (Int32.ofInt 0))]) ⟨rfl, rfl, rfl, rfl, trivial⟩ rfl k
      have k := xt212_23 hp  (((Int32.ofInt 1) <<< ((J (p 4) 3) &&& 31)).toNatClampNeg) (Int32.ofInt 0) (Int32.ofInt 1) (Int32.ofInt 0) (lx_beg (by decide)) k
      rw [k, x212, if_neg h4, if_neg h14]
/-! Model.payFrom -/
def x224_4 (p : Nat → Nat) (v1 : Int32) (J : Nat → Nat → Int32) : Nat → Int32 → Int32 → Int32
  | 0, v2, v3 => v2
  | c + 1, v2, v3 => if (J (p 4) 3) ≤ v3 then v2
    else if (x209 v1 (x180 p v3 (Int32.ofInt 0) J)) = 0 then (x224_4 p v1 J c (v2 + (Int32.ofInt 0)) (v3 + (Int32.ofInt 1)))
      else if (x180 p v3 (Int32.ofInt 1) J) < (J (p 4) 4) then (x224_4 p v1 J c (v2 + (Int32.ofInt 0)) (v3 + (Int32.ofInt 1)))
        else (x224_4 p v1 J c (v2 + (x180 p v3 (Int32.ofInt 3) J)) (v3 + (Int32.ofInt 1)))
theorem xt224_4 {X : nt_X} {d : Nat} {M : nt_M} {o : Option Value × nt_M} {p : Nat → Nat} {v1 : Int32} {J : Nat → Nat → Int32} (hp : xs_P M p) : ∀ (c : Nat) (v2 : Int32) (v3 : Int32), (J (p 4) 3).toInt - v3.toInt ≤ c → nt_rn X d 224 (4, [(0, .ref (p 0)), (1, .int v1), (2, .int v2), (3, .int v3)], [], me_w M J) o → o = (some (.int (x224_4 p v1 J c v2 v3)), me_w M J) := by
  intro c
  induction c with
  | zero =>
    intro v2 v3 hc k
    have k := ly_revb 2 (c' := (6, [(0, .ref (p 0)), (1, .int v1), (2, .int v2), (3, .int v3)], [.ref (p 0), .int v3], me_w M J)) rfl k
    have k := lz_get (a := (p 0)) (g := 1127) (M := me_w M J) (v := .ref (p 4)) rfl (nt_gfR rfl (hp.1 (0, 27, 4) (by decide))) k
    have k := ly_revb 1 (c' := (10, [(0, .ref (p 0)), (1, .int v1), (2, .int v2), (3, .int v3)], [.int (Int32.ofInt 3), .ref (p 4), .int v3], me_w M J)) rfl k
    have k := mx_iald (v := J (p 4) 3) rfl (hp.2.2.1 4 (by omega)) ((congrArg (J (p 4)) (show (Int32.ofInt 3).toNatClampNeg = 3 from rfl)).trans (rfl)) k
    have k := ly_revb 1 (c' := (if (J (p 4) 3) ≤ v3 then 61 else 14, [(0, .ref (p 0)), (1, .int v1), (2, .int v2), (3, .int v3)], [], me_w M J)) rfl k
    have h11 : (J (p 4) 3) ≤ v3 := lx_end hc
    rw [if_pos h11] at k
    have k := ly_revb 1 (c' := (62, [(0, .ref (p 0)), (1, .int v1), (2, .int v2), (3, .int v3)], [.int v2], me_w M J)) rfl k
    have k := lz_ri rfl (by decide) k
    rw [k, x224_4]
  | succ c ih =>
    intro v2 v3 hc k
    have k := ly_revb 2 (c' := (6, [(0, .ref (p 0)), (1, .int v1), (2, .int v2), (3, .int v3)], [.ref (p 0), .int v3], me_w M J)) rfl k
    have k := lz_get (a := (p 0)) (g := 1127) (M := me_w M J) (v := .ref (p 4)) rfl (nt_gfR rfl (hp.1 (0, 27, 4) (by decide))) k
    have k := ly_revb 1 (c' := (10, [(0, .ref (p 0)), (1, .int v1), (2, .int v2), (3, .int v3)], [.int (Int32.ofInt 3), .ref (p 4), .int v3], me_w M J)) rfl k
    have k := mx_iald (v := J (p 4) 3) rfl (hp.2.2.1 4 (by omega)) ((congrArg (J (p 4)) (show (Int32.ofInt 3).toNatClampNeg = 3 from rfl)).trans (rfl)) k
    have k := ly_revb 1 (c' := (if (J (p 4) 3) ≤ v3 then 61 else 14, [(0, .ref (p 0)), (1, .int v1), (2, .int v2), (3, .int v3)], [], me_w M J)) rfl k
    by_cases h11 : (J (p 4) 3) ≤ v3
    · rw [if_pos h11] at k
      have k := ly_revb 1 (c' := (62, [(0, .ref (p 0)), (1, .int v1), (2, .int v2), (3, .int v3)], [.int v2], me_w M J)) rfl k
      have k := lz_ri rfl (by decide) k
      rw [k, x224_4, if_pos h11]
    · rw [if_neg h11] at k
      have k := ly_revb 5 (c' := (19, [(0, .ref (p 0)), (1, .int v1), (2, .int v2), (3, .int v3)], [.int (Int32.ofInt 0), .int v3, .ref (p 0), .int v1, .int v2], me_w M J)) rfl k
      obtain ⟨d1, o1, ed, kc, k⟩ := lz_c (g := 180) (q := 1) (vs := [.ref (p 0), .int v3, .int (Int32.ofInt 0)]) (rest := [.int v1, .int v2]) rfl rfl (by decide) (Or.inr (Or.inl ⟨_, rfl, rfl⟩)) rfl k
      have e1 := xt180 hp kc
      subst e1
      have k : nt_rn X _ 224 (22, [(0, .ref (p 0)), (1, .int v1), (2, .int v2), (3, .int v3)], [.int (x180 p v3 (Int32.ofInt 0) J), .int v1, .int v2], me_w M J) _ := k
      obtain ⟨d1, o1, ed, kc, k⟩ := lz_c (g := 209) (q := 0) (vs := [.int v1, .int (x180 p v3 (Int32.ofInt 0) J)]) (rest := [.int v2]) rfl rfl (by decide) (Or.inl ⟨_, rfl, rfl⟩) rfl k
      have e1 := xt209  kc
      subst e1
      have k : nt_rn X _ 224 (25, [(0, .ref (p 0)), (1, .int v1), (2, .int v2), (3, .int v3)], [.int (x209 v1 (x180 p v3 (Int32.ofInt 0) J)), .int v2], me_w M J) _ := k
      have k := ly_revb 1 (c' := (if (x209 v1 (x180 p v3 (Int32.ofInt 0) J)) = 0 then 52 else 28, [(0, .ref (p 0)), (1, .int v1), (2, .int v2), (3, .int v3)], [.int v2], me_w M J)) rfl k
      by_cases h25 : (x209 v1 (x180 p v3 (Int32.ofInt 0) J)) = 0
      · rw [if_pos h25] at k
        have k := ly_revb 5 (c' := (4, [(3, .int (v3 + (Int32.ofInt 1))), (2, .int (v2 + (Int32.ofInt 0))), (0, .ref (p 0)), (1, .int v1)], [], me_w M J)) rfl k
        have k := nt_rn_w (a := [(3, .int (v3 + (Int32.ofInt 1))), (2, .int (v2 + (Int32.ofInt 0))), (0, .ref (p 0)), (1, .int v1)]) (b := [(0, .ref (p 0)), (1, .int v1), (2, .int (v2 + (Int32.ofInt 0))), (3, .int (v3 + (Int32.ofInt 1)))]) ⟨rfl, rfl, rfl, rfl, trivial⟩ rfl k
        have k := ih (v2 + (Int32.ofInt 0)) (v3 + (Int32.ofInt 1)) (lx_dec h11 hc) k
        rw [k, x224_4, if_neg h11, if_pos h25]
      · rw [if_neg h25] at k
        have k := ly_revb 3 (c' := (31, [(0, .ref (p 0)), (1, .int v1), (2, .int v2), (3, .int v3)], [.int (Int32.ofInt 1), .int v3, .ref (p 0), .int v2], me_w M J)) rfl k
        obtain ⟨d1, o1, ed, kc, k⟩ := lz_c (g := 180) (q := 1) (vs := [.ref (p 0), .int v3, .int (Int32.ofInt 1)]) (rest := [.int v2]) rfl rfl (by decide) (Or.inr (Or.inl ⟨_, rfl, rfl⟩)) rfl k
        have e1 := xt180 hp kc
        subst e1
        have k : nt_rn X _ 224 (34, [(0, .ref (p 0)), (1, .int v1), (2, .int v2), (3, .int v3)], [.int (x180 p v3 (Int32.ofInt 1) J), .int v2], me_w M J) _ := k
        have k := ly_revb 1 (c' := (35, [(0, .ref (p 0)), (1, .int v1), (2, .int v2), (3, .int v3)], [.ref (p 0), .int (x180 p v3 (Int32.ofInt 1) J), .int v2], me_w M J)) rfl k
        have k := lz_get (a := (p 0)) (g := 1127) (M := me_w M J) (v := .ref (p 4)) rfl (nt_gfR rfl (hp.1 (0, 27, 4) (by decide))) k
        have k := ly_revb 1 (c' := (39, [(0, .ref (p 0)), (1, .int v1), (2, .int v2), (3, .int v3)], [.int (Int32.ofInt 4), .ref (p 4), .int (x180 p v3 (Int32.ofInt 1) J), .int v2], me_w M J)) rfl k
        have k := mx_iald (v := J (p 4) 4) rfl (hp.2.2.1 4 (by omega)) ((congrArg (J (p 4)) (show (Int32.ofInt 4).toNatClampNeg = 4 from rfl)).trans (rfl)) k
        have k := ly_revb 1 (c' := (if (x180 p v3 (Int32.ofInt 1) J) < (J (p 4) 4) then 52 else 43, [(0, .ref (p 0)), (1, .int v1), (2, .int v2), (3, .int v3)], [.int v2], me_w M J)) rfl k
        by_cases h40 : (x180 p v3 (Int32.ofInt 1) J) < (J (p 4) 4)
        · rw [if_pos h40] at k
          have k := ly_revb 5 (c' := (4, [(3, .int (v3 + (Int32.ofInt 1))), (2, .int (v2 + (Int32.ofInt 0))), (0, .ref (p 0)), (1, .int v1)], [], me_w M J)) rfl k
          have k := nt_rn_w (a := [(3, .int (v3 + (Int32.ofInt 1))), (2, .int (v2 + (Int32.ofInt 0))), (0, .ref (p 0)), (1, .int v1)]) (b := [(0, .ref (p 0)), (1, .int v1), (2, .int (v2 + (Int32.ofInt 0))), (3, .int (v3 + (Int32.ofInt 1)))]) ⟨rfl, rfl, rfl, rfl, trivial⟩ rfl k
          have k := ih (v2 + (Int32.ofInt 0)) (v3 + (Int32.ofInt 1)) (lx_dec h11 hc) k
          rw [k, x224_4, if_neg h11, if_neg h25, if_pos h40]
        · rw [if_neg h40] at k
          have k := ly_revb 3 (c' := (46, [(0, .ref (p 0)), (1, .int v1), (2, .int v2), (3, .int v3)], [.int (Int32.ofInt 3), .int v3, .ref (p 0), .int v2], me_w M J)) rfl k
          obtain ⟨d1, o1, ed, kc, k⟩ := lz_c (g := 180) (q := 1) (vs := [.ref (p 0), .int v3, .int (Int32.ofInt 3)]) (rest := [.int v2]) rfl rfl (by decide) (Or.inr (Or.inl ⟨_, rfl, rfl⟩)) rfl k
          have e1 := xt180 hp kc
          subst e1
          have k : nt_rn X _ 224 (49, [(0, .ref (p 0)), (1, .int v1), (2, .int v2), (3, .int v3)], [.int (x180 p v3 (Int32.ofInt 3) J), .int v2], me_w M J) _ := k
          have k := ly_revb 5 (c' := (4, [(3, .int (v3 + (Int32.ofInt 1))), (2, .int (v2 + (x180 p v3 (Int32.ofInt 3) J))), (0, .ref (p 0)), (1, .int v1)], [], me_w M J)) rfl k
          have k := nt_rn_w (a := [(3, .int (v3 + (Int32.ofInt 1))), (2, .int (v2 + (x180 p v3 (Int32.ofInt 3) J))), (0, .ref (p 0)), (1, .int v1)]) (b := [(0, .ref (p 0)), (1, .int v1), (2, .int (v2 + (x180 p v3 (Int32.ofInt 3) J))), (3, .int (v3 + (Int32.ofInt 1)))]) ⟨rfl, rfl, rfl, rfl, trivial⟩ rfl k
          have k := ih (v2 + (x180 p v3 (Int32.ofInt 3) J)) (v3 + (Int32.ofInt 1)) (lx_dec h11 hc) k
          rw [k, x224_4, if_neg h11, if_neg h25, if_neg h40]
theorem x224_4_rule {p : Nat → Nat} {v1 : Int32} {J : Nat → Nat → Int32} {I : Nat → Int32 → Int32 → Prop} {Q : Int32 → Prop} (h0 : ∀ (v2 : Int32) (v3 : Int32), I 0 v2 v3 → Q v2) (h1 : ∀ (c : Nat) (v2 : Int32) (v3 : Int32), I (c + 1) v2 v3 →
    if (J (p 4) 3) ≤ v3 then (Q v2)
    else if (x209 v1 (x180 p v3 (Int32.ofInt 0) J)) = 0 then (I c (v2 + (Int32.ofInt 0)) (v3 + (Int32.ofInt 1)))
      else if (x180 p v3 (Int32.ofInt 1) J) < (J (p 4) 4) then (I c (v2 + (Int32.ofInt 0)) (v3 + (Int32.ofInt 1)))
        else (I c (v2 + (x180 p v3 (Int32.ofInt 3) J)) (v3 + (Int32.ofInt 1)))) : ∀ (c : Nat) (v2 : Int32) (v3 : Int32), I c v2 v3 → Q (x224_4 p v1 J c v2 v3) := by
  intro c
  induction c with
  | zero =>
    intro v2 v3 hi
    rw [x224_4]
    exact h0 v2 v3 hi
  | succ c ih =>
    intro v2 v3 hi
    have hi := h1 c v2 v3 hi
    rw [x224_4]
    by_cases h : (J (p 4) 3) ≤ v3
    · rw [if_pos h] at hi ⊢
      exact hi
    · rw [if_neg h] at hi ⊢
      by_cases h : (x209 v1 (x180 p v3 (Int32.ofInt 0) J)) = 0
      · rw [if_pos h] at hi ⊢
        exact ih _ _ hi
      · rw [if_neg h] at hi ⊢
        by_cases h : (x180 p v3 (Int32.ofInt 1) J) < (J (p 4) 4)
        · rw [if_pos h] at hi ⊢
          exact ih _ _ hi
        · rw [if_neg h] at hi ⊢
          exact ih _ _ hi
def x224 (p : Nat → Nat) (v1 : Int32) (J : Nat → Nat → Int32) : Int32 := (x224_4 p v1 J ((J (p 4) 3).toNatClampNeg) (Int32.ofInt 0) (Int32.ofInt 0))
theorem xt224 {X : nt_X} {d : Nat} {M : nt_M} {o : Option Value × nt_M} {p : Nat → Nat} {v1 : Int32} {J : Nat → Nat → Int32} (hp : xs_P M p) (k : nt_ev X d 224 [.ref (p 0), .int v1] (me_w M J) o) : o = (some (.int (x224 p v1 J)), me_w M J) := by
  have k : nt_rn X d 224 (0, [(0, .ref (p 0)), (1, .int v1)], [], me_w M J) o := k
  have k := ly_revb 4 (c' := (4, [(3, .int (Int32.ofInt 0)), (2, .int (Int32.ofInt 0)), (0, .ref (p 0)), (1, .int v1)], [], me_w M J)) rfl k
  have k := nt_rn_w (a := [(3, .int (Int32.ofInt 0)), (2, .int (Int32.ofInt 0)), (0, .ref (p 0)), (1, .int v1)]) (b := [(0, .ref (p 0)), (1, .int v1), (2, .int (Int32.ofInt 0)), (3, .int (Int32.ofInt 0))]) ⟨rfl, rfl, rfl, rfl, trivial⟩ rfl k
  have k := xt224_4 hp  ((J (p 4) 3).toNatClampNeg) (Int32.ofInt 0) (Int32.ofInt 0) (lx_beg (by decide)) k
  rw [k, x224]
/-! Model.couldBe -/
def x225_55 (p : Nat → Nat) (v1 : Int32) (v2 : Int32) (J : Nat → Nat → Int32) : Nat → Int32 → Int32 → Int32
  | 0, v3, v4 => v3
  | c + 1, v3, v4 => if (J (p 4) 2) ≤ v4 then v3
    else if (x172 p v4 J) = 0 then (x225_55 p v1 v2 J c (v3 + (Int32.ofInt 0)) (v4 + (Int32.ofInt 1)))
      else if (x173 p v4 (Int32.ofInt 0) J) = v2 then (x225_55 p v1 v2 J c (v3 + (Int32.ofInt 1)) (v4 + (Int32.ofInt 1)))
        else (x225_55 p v1 v2 J c (v3 + (Int32.ofInt 0)) (v4 + (Int32.ofInt 1)))
theorem xt225_55 {X : nt_X} {d : Nat} {M : nt_M} {o : Option Value × nt_M} {p : Nat → Nat} {v1 : Int32} {v2 : Int32} {J : Nat → Nat → Int32} (hp : xs_P M p) : ∀ (c : Nat) (v3 : Int32) (v4 : Int32), (J (p 4) 2).toInt - v4.toInt ≤ c → nt_rn X d 225 (55, [(0, .ref (p 0)), (1, .int v1), (2, .int v2), (3, .int v3), (4, .int v4)], [], me_w M J) o → ∃ (w4 : Int32), nt_rn X d 225 (100, [(0, .ref (p 0)), (1, .int v1), (2, .int v2), (3, .int (x225_55 p v1 v2 J c v3 v4)), (4, .int w4)], [], me_w M J) o := by
  intro c
  induction c with
  | zero =>
    intro v3 v4 hc k
    have k := ly_revb 2 (c' := (58, [(0, .ref (p 0)), (1, .int v1), (2, .int v2), (3, .int v3), (4, .int v4)], [.ref (p 0), .int v4], me_w M J)) rfl k
    have k := lz_get (a := (p 0)) (g := 1127) (M := me_w M J) (v := .ref (p 4)) rfl (nt_gfR rfl (hp.1 (0, 27, 4) (by decide))) k
    have k := ly_revb 1 (c' := (62, [(0, .ref (p 0)), (1, .int v1), (2, .int v2), (3, .int v3), (4, .int v4)], [.int (Int32.ofInt 2), .ref (p 4), .int v4], me_w M J)) rfl k
    have k := mx_iald (v := J (p 4) 2) rfl (hp.2.2.1 4 (by omega)) ((congrArg (J (p 4)) (show (Int32.ofInt 2).toNatClampNeg = 2 from rfl)).trans (rfl)) k
    have k := ly_revb 1 (c' := (if (J (p 4) 2) ≤ v4 then 100 else 66, [(0, .ref (p 0)), (1, .int v1), (2, .int v2), (3, .int v3), (4, .int v4)], [], me_w M J)) rfl k
    have h63 : (J (p 4) 2) ≤ v4 := lx_end hc
    rw [if_pos h63] at k
    have k := nt_rn_w (a := [(0, .ref (p 0)), (1, .int v1), (2, .int v2), (3, .int v3), (4, .int v4)]) (b := [(0, .ref (p 0)), (1, .int v1), (2, .int v2), (3, .int v3), (4, .int v4)]) ⟨rfl, rfl, rfl, rfl, rfl, trivial⟩ rfl k
    rw [x225_55]
    exact ⟨_, k⟩
  | succ c ih =>
    intro v3 v4 hc k
    have k := ly_revb 2 (c' := (58, [(0, .ref (p 0)), (1, .int v1), (2, .int v2), (3, .int v3), (4, .int v4)], [.ref (p 0), .int v4], me_w M J)) rfl k
    have k := lz_get (a := (p 0)) (g := 1127) (M := me_w M J) (v := .ref (p 4)) rfl (nt_gfR rfl (hp.1 (0, 27, 4) (by decide))) k
    have k := ly_revb 1 (c' := (62, [(0, .ref (p 0)), (1, .int v1), (2, .int v2), (3, .int v3), (4, .int v4)], [.int (Int32.ofInt 2), .ref (p 4), .int v4], me_w M J)) rfl k
    have k := mx_iald (v := J (p 4) 2) rfl (hp.2.2.1 4 (by omega)) ((congrArg (J (p 4)) (show (Int32.ofInt 2).toNatClampNeg = 2 from rfl)).trans (rfl)) k
    have k := ly_revb 1 (c' := (if (J (p 4) 2) ≤ v4 then 100 else 66, [(0, .ref (p 0)), (1, .int v1), (2, .int v2), (3, .int v3), (4, .int v4)], [], me_w M J)) rfl k
    by_cases h63 : (J (p 4) 2) ≤ v4
    · rw [if_pos h63] at k
      have k := nt_rn_w (a := [(0, .ref (p 0)), (1, .int v1), (2, .int v2), (3, .int v3), (4, .int v4)]) (b := [(0, .ref (p 0)), (1, .int v1), (2, .int v2), (3, .int v3), (4, .int v4)]) ⟨rfl, rfl, rfl, rfl, rfl, trivial⟩ rfl k
      rw [x225_55, if_pos h63]
      exact ⟨_, k⟩
    · rw [if_neg h63] at k
      have k := ly_revb 3 (c' := (70, [(0, .ref (p 0)), (1, .int v1), (2, .int v2), (3, .int v3), (4, .int v4)], [.int v4, .ref (p 0), .int v3], me_w M J)) rfl k
      obtain ⟨d1, o1, ed, kc, k⟩ := lz_c (g := 172) (q := 1) (vs := [.ref (p 0), .int v4]) (rest := [.int v3]) rfl rfl (by decide) (Or.inr (Or.inl ⟨_, rfl, rfl⟩)) rfl k
      have e1 := xt172 hp kc
      subst e1
      have k : nt_rn X _ 225 (73, [(0, .ref (p 0)), (1, .int v1), (2, .int v2), (3, .int v3), (4, .int v4)], [.int (x172 p v4 J), .int v3], me_w M J) _ := k
      have k := ly_revb 1 (c' := (if (x172 p v4 J) = 0 then 91 else 76, [(0, .ref (p 0)), (1, .int v1), (2, .int v2), (3, .int v3), (4, .int v4)], [.int v3], me_w M J)) rfl k
      by_cases h73 : (x172 p v4 J) = 0
      · rw [if_pos h73] at k
        have k := ly_revb 5 (c' := (55, [(4, .int (v4 + (Int32.ofInt 1))), (3, .int (v3 + (Int32.ofInt 0))), (0, .ref (p 0)), (1, .int v1), (2, .int v2)], [], me_w M J)) rfl k
        have k := nt_rn_w (a := [(4, .int (v4 + (Int32.ofInt 1))), (3, .int (v3 + (Int32.ofInt 0))), (0, .ref (p 0)), (1, .int v1), (2, .int v2)]) (b := [(0, .ref (p 0)), (1, .int v1), (2, .int v2), (3, .int (v3 + (Int32.ofInt 0))), (4, .int (v4 + (Int32.ofInt 1)))]) ⟨rfl, rfl, rfl, rfl, rfl, trivial⟩ rfl k
        have k := ih (v3 + (Int32.ofInt 0)) (v4 + (Int32.ofInt 1)) (lx_dec h63 hc) k
        rw [x225_55, if_neg h63, if_pos h73]
        exact k
      · rw [if_neg h73] at k
        have k := ly_revb 3 (c' := (80, [(0, .ref (p 0)), (1, .int v1), (2, .int v2), (3, .int v3), (4, .int v4)], [.int (Int32.ofInt 0), .int v4, .ref (p 0), .int v3], me_w M J)) rfl k
        obtain ⟨d1, o1, ed, kc, k⟩ := lz_c (g := 173) (q := 1) (vs := [.ref (p 0), .int v4, .int (Int32.ofInt 0)]) (rest := [.int v3]) rfl rfl (by decide) (Or.inr (Or.inl ⟨_, rfl, rfl⟩)) rfl k
        have e1 := xt173 hp kc
        subst e1
        have k : nt_rn X _ 225 (83, [(0, .ref (p 0)), (1, .int v1), (2, .int v2), (3, .int v3), (4, .int v4)], [.int (x173 p v4 (Int32.ofInt 0) J), .int v3], me_w M J) _ := k
        have k := ly_revb 2 (c' := (if (x173 p v4 (Int32.ofInt 0) J) = v2 then 87 else 91, [(0, .ref (p 0)), (1, .int v1), (2, .int v2), (3, .int v3), (4, .int v4)], [.int v3], me_w M J)) rfl k
        by_cases h84 : (x173 p v4 (Int32.ofInt 0) J) = v2
        · rw [if_pos h84] at k
          have k := ly_revb 6 (c' := (55, [(4, .int (v4 + (Int32.ofInt 1))), (3, .int (v3 + (Int32.ofInt 1))), (0, .ref (p 0)), (1, .int v1), (2, .int v2)], [], me_w M J)) rfl k
          have k := nt_rn_w (a := [(4, .int (v4 + (Int32.ofInt 1))), (3, .int (v3 + (Int32.ofInt 1))), (0, .ref (p 0)), (1, .int v1), (2, .int v2)]) (b := [(0, .ref (p 0)), (1, .int v1), (2, .int v2), (3, .int (v3 + (Int32.ofInt 1))), (4, .int (v4 + (Int32.ofInt 1)))]) ⟨rfl, rfl, rfl, rfl, rfl, trivial⟩ rfl k
          have k := ih (v3 + (Int32.ofInt 1)) (v4 + (Int32.ofInt 1)) (lx_dec h63 hc) k
          rw [x225_55, if_neg h63, if_neg h73, if_pos h84]
          exact k
        · rw [if_neg h84] at k
          have k := ly_revb 5 (c' := (55, [(4, .int (v4 + (Int32.ofInt 1))), (3, .int (v3 + (Int32.ofInt 0))), (0, .ref (p 0)), (1, .int v1), (2, .int v2)], [], me_w M J)) rfl k
          have k := nt_rn_w (a := [(4, .int (v4 + (Int32.ofInt 1))), (3, .int (v3 + (Int32.ofInt 0))), (0, .ref (p 0)), (1, .int v1), (2, .int v2)]) (b := [(0, .ref (p 0)), (1, .int v1), (2, .int v2), (3, .int (v3 + (Int32.ofInt 0))), (4, .int (v4 + (Int32.ofInt 1)))]) ⟨rfl, rfl, rfl, rfl, rfl, trivial⟩ rfl k
          have k := ih (v3 + (Int32.ofInt 0)) (v4 + (Int32.ofInt 1)) (lx_dec h63 hc) k
          rw [x225_55, if_neg h63, if_neg h73, if_neg h84]
          exact k
theorem x225_55_rule {p : Nat → Nat} {v1 : Int32} {v2 : Int32} {J : Nat → Nat → Int32} {I : Nat → Int32 → Int32 → Prop} {Q : Int32 → Prop} (h0 : ∀ (v3 : Int32) (v4 : Int32), I 0 v3 v4 → Q v3) (h1 : ∀ (c : Nat) (v3 : Int32) (v4 : Int32), I (c + 1) v3 v4 →
    if (J (p 4) 2) ≤ v4 then (Q v3)
    else if (x172 p v4 J) = 0 then (I c (v3 + (Int32.ofInt 0)) (v4 + (Int32.ofInt 1)))
      else if (x173 p v4 (Int32.ofInt 0) J) = v2 then (I c (v3 + (Int32.ofInt 1)) (v4 + (Int32.ofInt 1)))
        else (I c (v3 + (Int32.ofInt 0)) (v4 + (Int32.ofInt 1)))) : ∀ (c : Nat) (v3 : Int32) (v4 : Int32), I c v3 v4 → Q (x225_55 p v1 v2 J c v3 v4) := by
  intro c
  induction c with
  | zero =>
    intro v3 v4 hi
    rw [x225_55]
    exact h0 v3 v4 hi
  | succ c ih =>
    intro v3 v4 hi
    have hi := h1 c v3 v4 hi
    rw [x225_55]
    by_cases h : (J (p 4) 2) ≤ v4
    · rw [if_pos h] at hi ⊢
      exact hi
    · rw [if_neg h] at hi ⊢
      by_cases h : (x172 p v4 J) = 0
      · rw [if_pos h] at hi ⊢
        exact ih _ _ hi
      · rw [if_neg h] at hi ⊢
        by_cases h : (x173 p v4 (Int32.ofInt 0) J) = v2
        · rw [if_pos h] at hi ⊢
          exact ih _ _ hi
        · rw [if_neg h] at hi ⊢
          exact ih _ _ hi
def x225_103 (p : Nat → Nat) (v1 : Int32) (v2 : Int32) (J : Nat → Nat → Int32) : Nat → Int32 → Int32 → Int32
  | 0, v3, v4 => v3
  | c + 1, v3, v4 => if (J (p 4) 1) ≤ v4 then v3
    else if (x209 v1 v4) = 0 then (x225_103 p v1 v2 J c (v3 - (Int32.ofInt 0)) (v4 + (Int32.ofInt 1)))
      else (x225_103 p v1 v2 J c (v3 - (x169 p v4 v2 J)) (v4 + (Int32.ofInt 1)))
theorem xt225_103 {X : nt_X} {d : Nat} {M : nt_M} {o : Option Value × nt_M} {p : Nat → Nat} {v1 : Int32} {v2 : Int32} {J : Nat → Nat → Int32} (hp : xs_P M p) : ∀ (c : Nat) (v3 : Int32) (v4 : Int32), (J (p 4) 1).toInt - v4.toInt ≤ c → nt_rn X d 225 (103, [(0, .ref (p 0)), (1, .int v1), (2, .int v2), (3, .int v3), (4, .int v4)], [], me_w M J) o → ∃ (w4 : Int32), nt_rn X d 225 (143, [(0, .ref (p 0)), (1, .int v1), (2, .int v2), (3, .int (x225_103 p v1 v2 J c v3 v4)), (4, .int w4)], [], me_w M J) o := by
  intro c
  induction c with
  | zero =>
    intro v3 v4 hc k
    have k := ly_revb 2 (c' := (106, [(0, .ref (p 0)), (1, .int v1), (2, .int v2), (3, .int v3), (4, .int v4)], [.ref (p 0), .int v4], me_w M J)) rfl k
    have k := lz_get (a := (p 0)) (g := 1127) (M := me_w M J) (v := .ref (p 4)) rfl (nt_gfR rfl (hp.1 (0, 27, 4) (by decide))) k
    have k := ly_revb 1 (c' := (110, [(0, .ref (p 0)), (1, .int v1), (2, .int v2), (3, .int v3), (4, .int v4)], [.int (Int32.ofInt 1), .ref (p 4), .int v4], me_w M J)) rfl k
    have k := mx_iald (v := J (p 4) 1) rfl (hp.2.2.1 4 (by omega)) ((congrArg (J (p 4)) (show (Int32.ofInt 1).toNatClampNeg = 1 from rfl)).trans (rfl)) k
    have k := ly_revb 1 (c' := (if (J (p 4) 1) ≤ v4 then 143 else 114, [(0, .ref (p 0)), (1, .int v1), (2, .int v2), (3, .int v3), (4, .int v4)], [], me_w M J)) rfl k
    have h111 : (J (p 4) 1) ≤ v4 := lx_end hc
    rw [if_pos h111] at k
    have k := nt_rn_w (a := [(0, .ref (p 0)), (1, .int v1), (2, .int v2), (3, .int v3), (4, .int v4)]) (b := [(0, .ref (p 0)), (1, .int v1), (2, .int v2), (3, .int v3), (4, .int v4)]) ⟨rfl, rfl, rfl, rfl, rfl, trivial⟩ rfl k
    rw [x225_103]
    exact ⟨_, k⟩
  | succ c ih =>
    intro v3 v4 hc k
    have k := ly_revb 2 (c' := (106, [(0, .ref (p 0)), (1, .int v1), (2, .int v2), (3, .int v3), (4, .int v4)], [.ref (p 0), .int v4], me_w M J)) rfl k
    have k := lz_get (a := (p 0)) (g := 1127) (M := me_w M J) (v := .ref (p 4)) rfl (nt_gfR rfl (hp.1 (0, 27, 4) (by decide))) k
    have k := ly_revb 1 (c' := (110, [(0, .ref (p 0)), (1, .int v1), (2, .int v2), (3, .int v3), (4, .int v4)], [.int (Int32.ofInt 1), .ref (p 4), .int v4], me_w M J)) rfl k
    have k := mx_iald (v := J (p 4) 1) rfl (hp.2.2.1 4 (by omega)) ((congrArg (J (p 4)) (show (Int32.ofInt 1).toNatClampNeg = 1 from rfl)).trans (rfl)) k
    have k := ly_revb 1 (c' := (if (J (p 4) 1) ≤ v4 then 143 else 114, [(0, .ref (p 0)), (1, .int v1), (2, .int v2), (3, .int v3), (4, .int v4)], [], me_w M J)) rfl k
    by_cases h111 : (J (p 4) 1) ≤ v4
    · rw [if_pos h111] at k
      have k := nt_rn_w (a := [(0, .ref (p 0)), (1, .int v1), (2, .int v2), (3, .int v3), (4, .int v4)]) (b := [(0, .ref (p 0)), (1, .int v1), (2, .int v2), (3, .int v3), (4, .int v4)]) ⟨rfl, rfl, rfl, rfl, rfl, trivial⟩ rfl k
      rw [x225_103, if_pos h111]
      exact ⟨_, k⟩
    · rw [if_neg h111] at k
      have k := ly_revb 3 (c' := (118, [(0, .ref (p 0)), (1, .int v1), (2, .int v2), (3, .int v3), (4, .int v4)], [.int v4, .int v1, .int v3], me_w M J)) rfl k
      obtain ⟨d1, o1, ed, kc, k⟩ := lz_c (g := 209) (q := 0) (vs := [.int v1, .int v4]) (rest := [.int v3]) rfl rfl (by decide) (Or.inl ⟨_, rfl, rfl⟩) rfl k
      have e1 := xt209  kc
      subst e1
      have k : nt_rn X _ 225 (121, [(0, .ref (p 0)), (1, .int v1), (2, .int v2), (3, .int v3), (4, .int v4)], [.int (x209 v1 v4), .int v3], me_w M J) _ := k
      have k := ly_revb 1 (c' := (if (x209 v1 v4) = 0 then 134 else 124, [(0, .ref (p 0)), (1, .int v1), (2, .int v2), (3, .int v3), (4, .int v4)], [.int v3], me_w M J)) rfl k
      by_cases h121 : (x209 v1 v4) = 0
      · rw [if_pos h121] at k
        have k := ly_revb 5 (c' := (103, [(4, .int (v4 + (Int32.ofInt 1))), (3, .int (v3 - (Int32.ofInt 0))), (0, .ref (p 0)), (1, .int v1), (2, .int v2)], [], me_w M J)) rfl k
        have k := nt_rn_w (a := [(4, .int (v4 + (Int32.ofInt 1))), (3, .int (v3 - (Int32.ofInt 0))), (0, .ref (p 0)), (1, .int v1), (2, .int v2)]) (b := [(0, .ref (p 0)), (1, .int v1), (2, .int v2), (3, .int (v3 - (Int32.ofInt 0))), (4, .int (v4 + (Int32.ofInt 1)))]) ⟨rfl, rfl, rfl, rfl, rfl, trivial⟩ rfl k
        have k := ih (v3 - (Int32.ofInt 0)) (v4 + (Int32.ofInt 1)) (lx_dec h111 hc) k
        rw [x225_103, if_neg h111, if_pos h121]
        exact k
      · rw [if_neg h121] at k
        have k := ly_revb 3 (c' := (128, [(0, .ref (p 0)), (1, .int v1), (2, .int v2), (3, .int v3), (4, .int v4)], [.int v2, .int v4, .ref (p 0), .int v3], me_w M J)) rfl k
        obtain ⟨d1, o1, ed, kc, k⟩ := lz_c (g := 169) (q := 1) (vs := [.ref (p 0), .int v4, .int v2]) (rest := [.int v3]) rfl rfl (by decide) (Or.inr (Or.inl ⟨_, rfl, rfl⟩)) rfl k
        have e1 := xt169 hp kc
        subst e1
        have k : nt_rn X _ 225 (131, [(0, .ref (p 0)), (1, .int v1), (2, .int v2), (3, .int v3), (4, .int v4)], [.int (x169 p v4 v2 J), .int v3], me_w M J) _ := k
        have k := ly_revb 5 (c' := (103, [(4, .int (v4 + (Int32.ofInt 1))), (3, .int (v3 - (x169 p v4 v2 J))), (0, .ref (p 0)), (1, .int v1), (2, .int v2)], [], me_w M J)) rfl k
        have k := nt_rn_w (a := [(4, .int (v4 + (Int32.ofInt 1))), (3, .int (v3 - (x169 p v4 v2 J))), (0, .ref (p 0)), (1, .int v1), (2, .int v2)]) (b := [(0, .ref (p 0)), (1, .int v1), (2, .int v2), (3, .int (v3 - (x169 p v4 v2 J))), (4, .int (v4 + (Int32.ofInt 1)))]) ⟨rfl, rfl, rfl, rfl, rfl, trivial⟩ rfl k
        have k := ih (v3 - (x169 p v4 v2 J)) (v4 + (Int32.ofInt 1)) (lx_dec h111 hc) k
        rw [x225_103, if_neg h111, if_neg h121]
        exact k
theorem x225_103_rule {p : Nat → Nat} {v1 : Int32} {v2 : Int32} {J : Nat → Nat → Int32} {I : Nat → Int32 → Int32 → Prop} {Q : Int32 → Prop} (h0 : ∀ (v3 : Int32) (v4 : Int32), I 0 v3 v4 → Q v3) (h1 : ∀ (c : Nat) (v3 : Int32) (v4 : Int32), I (c + 1) v3 v4 →
    if (J (p 4) 1) ≤ v4 then (Q v3)
    else if (x209 v1 v4) = 0 then (I c (v3 - (Int32.ofInt 0)) (v4 + (Int32.ofInt 1)))
      else (I c (v3 - (x169 p v4 v2 J)) (v4 + (Int32.ofInt 1)))) : ∀ (c : Nat) (v3 : Int32) (v4 : Int32), I c v3 v4 → Q (x225_103 p v1 v2 J c v3 v4) := by
  intro c
  induction c with
  | zero =>
    intro v3 v4 hi
    rw [x225_103]
    exact h0 v3 v4 hi
  | succ c ih =>
    intro v3 v4 hi
    have hi := h1 c v3 v4 hi
    rw [x225_103]
    by_cases h : (J (p 4) 1) ≤ v4
    · rw [if_pos h] at hi ⊢
      exact hi
    · rw [if_neg h] at hi ⊢
      by_cases h : (x209 v1 v4) = 0
      · rw [if_pos h] at hi ⊢
        exact ih _ _ hi
      · rw [if_neg h] at hi ⊢
        exact ih _ _ hi
def x225_40 (p : Nat → Nat) (v1 : Int32) (J : Nat → Nat → Int32) : Nat → Int32 → Int32
  | 0, v2 => (Int32.ofInt 1)
  | c + 1, v2 => if (J (p 4) 0) ≤ v2 then (Int32.ofInt 1)
    else if 0 ≤ (x225_103 p v1 v2 J ((J (p 4) 1).toNatClampNeg) (x225_55 p v1 v2 J ((J (p 4) 2).toNatClampNeg) (Int32.ofInt 0) (Int32.ofInt 0)) (Int32.ofInt 0)) then (x225_40 p v1 J c (v2 + (Int32.ofInt 1)))
      else (Int32.ofInt 0)
theorem xt225_40 {X : nt_X} {d : Nat} {M : nt_M} {o : Option Value × nt_M} {p : Nat → Nat} {v1 : Int32} {J : Nat → Nat → Int32} (hp : xs_P M p) : ∀ (c : Nat) (v2 : Int32) (v3 : Int32) (v4 : Int32), (J (p 4) 0).toInt - v2.toInt ≤ c → nt_rn X d 225 (40, [(0, .ref (p 0)), (1, .int v1), (2, .int v2), (3, .int v3), (4, .int v4)], [], me_w M J) o → o = (some (.int (x225_40 p v1 J c v2)), me_w M J) := by
  intro c
  induction c with
  | zero =>
    intro v2 v3 v4 hc k
    have k := ly_revb 2 (c' := (42, [(0, .ref (p 0)), (1, .int v1), (2, .int v2), (3, .int v3), (4, .int v4)], [.ref (p 0), .int v2], me_w M J)) rfl k
    have k := lz_get (a := (p 0)) (g := 1127) (M := me_w M J) (v := .ref (p 4)) rfl (nt_gfR rfl (hp.1 (0, 27, 4) (by decide))) k
    have k := ly_revb 1 (c' := (46, [(0, .ref (p 0)), (1, .int v1), (2, .int v2), (3, .int v3), (4, .int v4)], [.int (Int32.ofInt 0), .ref (p 4), .int v2], me_w M J)) rfl k
    have k := mx_iald (v := J (p 4) 0) rfl (hp.2.2.1 4 (by omega)) ((congrArg (J (p 4)) (show (Int32.ofInt 0).toNatClampNeg = 0 from rfl)).trans (rfl)) k
    have k := ly_revb 1 (c' := (if (J (p 4) 0) ≤ v2 then 155 else 50, [(0, .ref (p 0)), (1, .int v1), (2, .int v2), (3, .int v3), (4, .int v4)], [], me_w M J)) rfl k
    have h47 : (J (p 4) 0) ≤ v2 := lx_end hc
    rw [if_pos h47] at k
    have k := ly_revb 1 (c' := (156, [(0, .ref (p 0)), (1, .int v1), (2, .int v2), (3, .int v3), (4, .int v4)], [.int (Int32.ofInt 1)], me_w M J)) rfl k
    have k := lz_ri rfl (by decide) k
    rw [k, x225_40]
  | succ c ih =>
    intro v2 v3 v4 hc k
    have k := ly_revb 2 (c' := (42, [(0, .ref (p 0)), (1, .int v1), (2, .int v2), (3, .int v3), (4, .int v4)], [.ref (p 0), .int v2], me_w M J)) rfl k
    have k := lz_get (a := (p 0)) (g := 1127) (M := me_w M J) (v := .ref (p 4)) rfl (nt_gfR rfl (hp.1 (0, 27, 4) (by decide))) k
    have k := ly_revb 1 (c' := (46, [(0, .ref (p 0)), (1, .int v1), (2, .int v2), (3, .int v3), (4, .int v4)], [.int (Int32.ofInt 0), .ref (p 4), .int v2], me_w M J)) rfl k
    have k := mx_iald (v := J (p 4) 0) rfl (hp.2.2.1 4 (by omega)) ((congrArg (J (p 4)) (show (Int32.ofInt 0).toNatClampNeg = 0 from rfl)).trans (rfl)) k
    have k := ly_revb 1 (c' := (if (J (p 4) 0) ≤ v2 then 155 else 50, [(0, .ref (p 0)), (1, .int v1), (2, .int v2), (3, .int v3), (4, .int v4)], [], me_w M J)) rfl k
    by_cases h47 : (J (p 4) 0) ≤ v2
    · rw [if_pos h47] at k
      have k := ly_revb 1 (c' := (156, [(0, .ref (p 0)), (1, .int v1), (2, .int v2), (3, .int v3), (4, .int v4)], [.int (Int32.ofInt 1)], me_w M J)) rfl k
      have k := lz_ri rfl (by decide) k
      rw [k, x225_40, if_pos h47]
    · rw [if_neg h47] at k
      have k := ly_revb 4 (c' := (55, [(4, .int (Int32.ofInt 0)), (3, .int (Int32.ofInt 0)), (0, .ref (p 0)), (1, .int v1), (2, .int v2)], [], me_w M J)) rfl k
      have k := nt_rn_w (a := [(4, .int (Int32.ofInt 0)), (3, .int (Int32.ofInt 0)), (0, .ref (p 0)), (1, .int v1), (2, .int v2)]) (b := [(0, .ref (p 0)), (1, .int v1), (2, .int v2), (3, .int (Int32.ofInt 0)), (4, .int (Int32.ofInt 0))]) ⟨rfl, rfl, rfl, rfl, rfl, trivial⟩ rfl k
      have k := xt225_55 hp  ((J (p 4) 2).toNatClampNeg) (Int32.ofInt 0) (Int32.ofInt 0) (lx_beg (by decide)) k
      obtain ⟨w4, k⟩ := k
      have k : nt_rn X _ 225 (100, [(0, .ref (p 0)), (1, .int v1), (2, .int v2), (3, .int (x225_55 p v1 v2 J ((J (p 4) 2).toNatClampNeg) (Int32.ofInt 0) (Int32.ofInt 0))), (4, .int w4)], [], me_w M J) _ := k
      have k := ly_revb 2 (c' := (103, [(4, .int (Int32.ofInt 0)), (0, .ref (p 0)), (1, .int v1), (2, .int v2), (3, .int (x225_55 p v1 v2 J ((J (p 4) 2).toNatClampNeg) (Int32.ofInt 0) (Int32.ofInt 0)))], [], me_w M J)) rfl k
      have k := nt_rn_w (a := [(4, .int (Int32.ofInt 0)), (0, .ref (p 0)), (1, .int v1), (2, .int v2), (3, .int (x225_55 p v1 v2 J ((J (p 4) 2).toNatClampNeg) (Int32.ofInt 0) (Int32.ofInt 0)))]) (b := [(0, .ref (p 0)), (1, .int v1), (2, .int v2), (3, .int (x225_55 p v1 v2 J ((J (p 4) 2).toNatClampNeg) (Int32.ofInt 0) (Int32.ofInt 0))), (4, .int (Int32.ofInt 0))]) ⟨rfl, rfl, rfl, rfl, rfl, trivial⟩ rfl k
      have k := xt225_103 hp  ((J (p 4) 1).toNatClampNeg) (x225_55 p v1 v2 J ((J (p 4) 2).toNatClampNeg) (Int32.ofInt 0) (Int32.ofInt 0)) (Int32.ofInt 0) (lx_beg (by decide)) k
      obtain ⟨w4, k⟩ := k
      have k : nt_rn X _ 225 (143, [(0, .ref (p 0)), (1, .int v1), (2, .int v2), (3, .int (x225_103 p v1 v2 J ((J (p 4) 1).toNatClampNeg) (x225_55 p v1 v2 J ((J (p 4) 2).toNatClampNeg) (Int32.ofInt 0) (Int32.ofInt 0)) (Int32.ofInt 0))), (4, .int w4)], [], me_w M J) _ := k
      have k := ly_revb 2 (c' := (if 0 ≤ (x225_103 p v1 v2 J ((J (p 4) 1).toNatClampNeg) (x225_55 p v1 v2 J ((J (p 4) 2).toNatClampNeg) (Int32.ofInt 0) (Int32.ofInt 0)) (Int32.ofInt 0)) then 149 else 147, [(0, .ref (p 0)), (1, .int v1), (2, .int v2), (3, .int (x225_103 p v1 v2 J ((J (p 4) 1).toNatClampNeg) (x225_55 p v1 v2 J ((J (p 4) 2).toNatClampNeg) (Int32.ofInt 0) (Int32.ofInt 0)) (Int32.ofInt 0))), (4, .int w4)], [], me_w M J)) rfl k
      by_cases h144 : 0 ≤ (x225_103 p v1 v2 J ((J (p 4) 1).toNatClampNeg) (x225_55 p v1 v2 J ((J (p 4) 2).toNatClampNeg) (Int32.ofInt 0) (Int32.ofInt 0)) (Int32.ofInt 0))
      · rw [if_pos h144] at k
        have k := ly_revb 2 (c' := (40, [(2, .int (v2 + (Int32.ofInt 1))), (0, .ref (p 0)), (1, .int v1), (3, .int (x225_103 p v1 v2 J ((J (p 4) 1).toNatClampNeg) (x225_55 p v1 v2 J ((J (p 4) 2).toNatClampNeg) (Int32.ofInt 0) (Int32.ofInt 0)) (Int32.ofInt 0))), (4, .int w4)], [], me_w M J)) rfl k
        have k := nt_rn_w (a := [(2, .int (v2 + (Int32.ofInt 1))), (0, .ref (p 0)), (1, .int v1), (3, .int (x225_103 p v1 v2 J ((J (p 4) 1).toNatClampNeg) (x225_55 p v1 v2 J ((J (p 4) 2).toNatClampNeg) (Int32.ofInt 0) (Int32.ofInt 0)) (Int32.ofInt 0))), (4, .int w4)]) (b := [(0, .ref (p 0)), (1, .int v1), (2, .int (v2 + (Int32.ofInt 1))), (3, .int (x225_103 p v1 v2 J ((J (p 4) 1).toNatClampNeg) (x225_55 p v1 v2 J ((J (p 4) 2).toNatClampNeg) (Int32.ofInt 0) (Int32.ofInt 0)) (Int32.ofInt 0))), (4, .int w4)]) ⟨rfl, rfl, rfl, rfl, rfl, trivial⟩ rfl k
        have k := ih (v2 + (Int32.ofInt 1)) (x225_103 p v1 v2 J ((J (p 4) 1).toNatClampNeg) (x225_55 p v1 v2 J ((J (p 4) 2).toNatClampNeg) (Int32.ofInt 0) (Int32.ofInt 0)) (Int32.ofInt 0)) w4 (lx_dec h47 hc) k
        rw [k, x225_40, if_neg h47, if_pos h144]
      · rw [if_neg h144] at k
        have k := ly_revb 1 (c' := (148, [(0, .ref (p 0)), (1, .int v1), (2, .int v2), (3, .int (x225_103 p v1 v2 J ((J (p 4) 1).toNatClampNeg) (x225_55 p v1 v2 J ((J (p 4) 2).toNatClampNeg) (Int32.ofInt 0) (Int32.ofInt 0)) (Int32.ofInt 0))), (4, .int w4)], [.int (Int32.ofInt 0)], me_w M J)) rfl k
        have k := lz_ri rfl (by decide) k
        rw [k, x225_40, if_neg h47, if_neg h144]
theorem x225_40_rule {p : Nat → Nat} {v1 : Int32} {J : Nat → Nat → Int32} {I : Nat → Int32 → Prop} {Q : Int32 → Prop} (h0 : ∀ (v2 : Int32), I 0 v2 → Q (Int32.ofInt 1)) (h1 : ∀ (c : Nat) (v2 : Int32), I (c + 1) v2 →
    if (J (p 4) 0) ≤ v2 then (Q (Int32.ofInt 1))
    else if 0 ≤ (x225_103 p v1 v2 J ((J (p 4) 1).toNatClampNeg) (x225_55 p v1 v2 J ((J (p 4) 2).toNatClampNeg) (Int32.ofInt 0) (Int32.ofInt 0)) (Int32.ofInt 0)) then (I c (v2 + (Int32.ofInt 1)))
      else (Q (Int32.ofInt 0))) : ∀ (c : Nat) (v2 : Int32), I c v2 → Q (x225_40 p v1 J c v2) := by
  intro c
  induction c with
  | zero =>
    intro v2 hi
    rw [x225_40]
    exact h0 v2 hi
  | succ c ih =>
    intro v2 hi
    have hi := h1 c v2 hi
    rw [x225_40]
    by_cases h : (J (p 4) 0) ≤ v2
    · rw [if_pos h] at hi ⊢
      exact hi
    · rw [if_neg h] at hi ⊢
      by_cases h : 0 ≤ (x225_103 p v1 v2 J ((J (p 4) 1).toNatClampNeg) (x225_55 p v1 v2 J ((J (p 4) 2).toNatClampNeg) (Int32.ofInt 0) (Int32.ofInt 0)) (Int32.ofInt 0))
      · rw [if_pos h] at hi ⊢
        exact ih _ hi
      · rw [if_neg h] at hi ⊢
        exact hi
def x225_2 (p : Nat → Nat) (v1 : Int32) (J : Nat → Nat → Int32) : Nat → Int32 → Int32
  | 0, v2 => (x225_40 p v1 J ((J (p 4) 0).toNatClampNeg) (Int32.ofInt 0))
  | c + 1, v2 => if (J (p 4) 1) ≤ v2 then (x225_40 p v1 J ((J (p 4) 0).toNatClampNeg) (Int32.ofInt 0))
    else if (x209 v1 v2) = 0 then (x225_2 p v1 J c (v2 + (Int32.ofInt 1)))
      else if (x169 p v2 (Int32.ofInt 4) J) = (Int32.ofInt 2) then (Int32.ofInt 0)
        else (x225_2 p v1 J c (v2 + (Int32.ofInt 1)))
theorem xt225_2 {X : nt_X} {d : Nat} {M : nt_M} {o : Option Value × nt_M} {p : Nat → Nat} {v1 : Int32} {J : Nat → Nat → Int32} (hp : xs_P M p) : ∀ (c : Nat) (v2 : Int32), (J (p 4) 1).toInt - v2.toInt ≤ c → nt_rn X d 225 (2, [(0, .ref (p 0)), (1, .int v1), (2, .int v2)], [], me_w M J) o → o = (some (.int (x225_2 p v1 J c v2)), me_w M J) := by
  intro c
  induction c with
  | zero =>
    intro v2 hc k
    have k := ly_revb 2 (c' := (4, [(0, .ref (p 0)), (1, .int v1), (2, .int v2)], [.ref (p 0), .int v2], me_w M J)) rfl k
    have k := lz_get (a := (p 0)) (g := 1127) (M := me_w M J) (v := .ref (p 4)) rfl (nt_gfR rfl (hp.1 (0, 27, 4) (by decide))) k
    have k := ly_revb 1 (c' := (8, [(0, .ref (p 0)), (1, .int v1), (2, .int v2)], [.int (Int32.ofInt 1), .ref (p 4), .int v2], me_w M J)) rfl k
    have k := mx_iald (v := J (p 4) 1) rfl (hp.2.2.1 4 (by omega)) ((congrArg (J (p 4)) (show (Int32.ofInt 1).toNatClampNeg = 1 from rfl)).trans (rfl)) k
    have k := ly_revb 1 (c' := (if (J (p 4) 1) ≤ v2 then 38 else 12, [(0, .ref (p 0)), (1, .int v1), (2, .int v2)], [], me_w M J)) rfl k
    have h9 : (J (p 4) 1) ≤ v2 := lx_end hc
    rw [if_pos h9] at k
    have k := ly_revb 2 (c' := (40, [(2, .int (Int32.ofInt 0)), (0, .ref (p 0)), (1, .int v1)], [], me_w M J)) rfl k
    have k := nt_rn_w (a := [(2, .int (Int32.ofInt 0)), (0, .ref (p 0)), (1, .int v1)]) (b := [(0, .ref (p 0)), (1, .int v1), (2, .int (Int32.ofInt 0)), (3, .int (Int32.ofInt 0)), (4, .int (Int32.ofInt 0))]) ⟨rfl, rfl, rfl, trivial⟩ rfl k
    have k := xt225_40 hp  ((J (p 4) 0).toNatClampNeg) (Int32.ofInt 0) (Int32.ofInt 0) (Int32.ofInt 0) (lx_beg (by decide)) k
    rw [k, x225_2]
  | succ c ih =>
    intro v2 hc k
    have k := ly_revb 2 (c' := (4, [(0, .ref (p 0)), (1, .int v1), (2, .int v2)], [.ref (p 0), .int v2], me_w M J)) rfl k
    have k := lz_get (a := (p 0)) (g := 1127) (M := me_w M J) (v := .ref (p 4)) rfl (nt_gfR rfl (hp.1 (0, 27, 4) (by decide))) k
    have k := ly_revb 1 (c' := (8, [(0, .ref (p 0)), (1, .int v1), (2, .int v2)], [.int (Int32.ofInt 1), .ref (p 4), .int v2], me_w M J)) rfl k
    have k := mx_iald (v := J (p 4) 1) rfl (hp.2.2.1 4 (by omega)) ((congrArg (J (p 4)) (show (Int32.ofInt 1).toNatClampNeg = 1 from rfl)).trans (rfl)) k
    have k := ly_revb 1 (c' := (if (J (p 4) 1) ≤ v2 then 38 else 12, [(0, .ref (p 0)), (1, .int v1), (2, .int v2)], [], me_w M J)) rfl k
    by_cases h9 : (J (p 4) 1) ≤ v2
    · rw [if_pos h9] at k
      have k := ly_revb 2 (c' := (40, [(2, .int (Int32.ofInt 0)), (0, .ref (p 0)), (1, .int v1)], [], me_w M J)) rfl k
      have k := nt_rn_w (a := [(2, .int (Int32.ofInt 0)), (0, .ref (p 0)), (1, .int v1)]) (b := [(0, .ref (p 0)), (1, .int v1), (2, .int (Int32.ofInt 0)), (3, .int (Int32.ofInt 0)), (4, .int (Int32.ofInt 0))]) ⟨rfl, rfl, rfl, trivial⟩ rfl k
      have k := xt225_40 hp  ((J (p 4) 0).toNatClampNeg) (Int32.ofInt 0) (Int32.ofInt 0) (Int32.ofInt 0) (lx_beg (by decide)) k
      rw [k, x225_2, if_pos h9]
    · rw [if_neg h9] at k
      have k := ly_revb 2 (c' := (14, [(0, .ref (p 0)), (1, .int v1), (2, .int v2)], [.int v2, .int v1], me_w M J)) rfl k
      obtain ⟨d1, o1, ed, kc, k⟩ := lz_c (g := 209) (q := 0) (vs := [.int v1, .int v2]) (rest := []) rfl rfl (by decide) (Or.inl ⟨_, rfl, rfl⟩) rfl k
      have e1 := xt209  kc
      subst e1
      have k : nt_rn X _ 225 (17, [(0, .ref (p 0)), (1, .int v1), (2, .int v2)], [.int (x209 v1 v2)], me_w M J) _ := k
      have k := ly_revb 1 (c' := (if (x209 v1 v2) = 0 then 32 else 20, [(0, .ref (p 0)), (1, .int v1), (2, .int v2)], [], me_w M J)) rfl k
      by_cases h17 : (x209 v1 v2) = 0
      · rw [if_pos h17] at k
        have k := ly_revb 2 (c' := (2, [(2, .int (v2 + (Int32.ofInt 1))), (0, .ref (p 0)), (1, .int v1)], [], me_w M J)) rfl k
        have k := nt_rn_w (a := [(2, .int (v2 + (Int32.ofInt 1))), (0, .ref (p 0)), (1, .int v1)]) (b := [(0, .ref (p 0)), (1, .int v1), (2, .int (v2 + (Int32.ofInt 1)))]) ⟨rfl, rfl, rfl, trivial⟩ rfl k
        have k := ih (v2 + (Int32.ofInt 1)) (lx_dec h9 hc) k
        rw [k, x225_2, if_neg h9, if_pos h17]
      · rw [if_neg h17] at k
        have k := ly_revb 3 (c' := (23, [(0, .ref (p 0)), (1, .int v1), (2, .int v2)], [.int (Int32.ofInt 4), .int v2, .ref (p 0)], me_w M J)) rfl k
        obtain ⟨d1, o1, ed, kc, k⟩ := lz_c (g := 169) (q := 1) (vs := [.ref (p 0), .int v2, .int (Int32.ofInt 4)]) (rest := []) rfl rfl (by decide) (Or.inr (Or.inl ⟨_, rfl, rfl⟩)) rfl k
        have e1 := xt169 hp kc
        subst e1
        have k : nt_rn X _ 225 (26, [(0, .ref (p 0)), (1, .int v1), (2, .int v2)], [.int (x169 p v2 (Int32.ofInt 4) J)], me_w M J) _ := k
        have k := ly_revb 2 (c' := (if (x169 p v2 (Int32.ofInt 4) J) = (Int32.ofInt 2) then 30 else 32, [(0, .ref (p 0)), (1, .int v1), (2, .int v2)], [], me_w M J)) rfl k
        by_cases h27 : (x169 p v2 (Int32.ofInt 4) J) = (Int32.ofInt 2)
        · rw [if_pos h27] at k
          have k := ly_revb 1 (c' := (31, [(0, .ref (p 0)), (1, .int v1), (2, .int v2)], [.int (Int32.ofInt 0)], me_w M J)) rfl k
          have k := lz_ri rfl (by decide) k
          rw [k, x225_2, if_neg h9, if_neg h17, if_pos h27]
        · rw [if_neg h27] at k
          have k := ly_revb 2 (c' := (2, [(2, .int (v2 + (Int32.ofInt 1))), (0, .ref (p 0)), (1, .int v1)], [], me_w M J)) rfl k
          have k := nt_rn_w (a := [(2, .int (v2 + (Int32.ofInt 1))), (0, .ref (p 0)), (1, .int v1)]) (b := [(0, .ref (p 0)), (1, .int v1), (2, .int (v2 + (Int32.ofInt 1)))]) ⟨rfl, rfl, rfl, trivial⟩ rfl k
          have k := ih (v2 + (Int32.ofInt 1)) (lx_dec h9 hc) k
          rw [k, x225_2, if_neg h9, if_neg h17, if_neg h27]
theorem x225_2_rule {p : Nat → Nat} {v1 : Int32} {J : Nat → Nat → Int32} {I : Nat → Int32 → Prop} {Q : Int32 → Prop} (h0 : ∀ (v2 : Int32), I 0 v2 → Q (x225_40 p v1 J ((J (p 4) 0).toNatClampNeg) (Int32.ofInt 0))) (h1 : ∀ (c : Nat) (v2 : Int32), I (c + 1) v2 →
    if (J (p 4) 1) ≤ v2 then (Q (x225_40 p v1 J ((J (p 4) 0).toNatClampNeg) (Int32.ofInt 0)))
    else if (x209 v1 v2) = 0 then (I c (v2 + (Int32.ofInt 1)))
      else if (x169 p v2 (Int32.ofInt 4) J) = (Int32.ofInt 2) then (Q (Int32.ofInt 0))
        else (I c (v2 + (Int32.ofInt 1)))) : ∀ (c : Nat) (v2 : Int32), I c v2 → Q (x225_2 p v1 J c v2) := by
  intro c
  induction c with
  | zero =>
    intro v2 hi
    rw [x225_2]
    exact h0 v2 hi
  | succ c ih =>
    intro v2 hi
    have hi := h1 c v2 hi
    rw [x225_2]
    by_cases h : (J (p 4) 1) ≤ v2
    · rw [if_pos h] at hi ⊢
      exact hi
    · rw [if_neg h] at hi ⊢
      by_cases h : (x209 v1 v2) = 0
      · rw [if_pos h] at hi ⊢
        exact ih _ hi
      · rw [if_neg h] at hi ⊢
        by_cases h : (x169 p v2 (Int32.ofInt 4) J) = (Int32.ofInt 2)
        · rw [if_pos h] at hi ⊢
          exact hi
        · rw [if_neg h] at hi ⊢
          exact ih _ hi
def x225 (p : Nat → Nat) (v1 : Int32) (J : Nat → Nat → Int32) : Int32 := (x225_2 p v1 J ((J (p 4) 1).toNatClampNeg) (Int32.ofInt 0))
theorem xt225 {X : nt_X} {d : Nat} {M : nt_M} {o : Option Value × nt_M} {p : Nat → Nat} {v1 : Int32} {J : Nat → Nat → Int32} (hp : xs_P M p) (k : nt_ev X d 225 [.ref (p 0), .int v1] (me_w M J) o) : o = (some (.int (x225 p v1 J)), me_w M J) := by
  have k : nt_rn X d 225 (0, [(0, .ref (p 0)), (1, .int v1)], [], me_w M J) o := k
  have k := ly_revb 2 (c' := (2, [(2, .int (Int32.ofInt 0)), (0, .ref (p 0)), (1, .int v1)], [], me_w M J)) rfl k
  have k := nt_rn_w (a := [(2, .int (Int32.ofInt 0)), (0, .ref (p 0)), (1, .int v1)]) (b := [(0, .ref (p 0)), (1, .int v1), (2, .int (Int32.ofInt 0))]) ⟨rfl, rfl, rfl, trivial⟩ rfl k
  have k := xt225_2 hp  ((J (p 4) 1).toNatClampNeg) (Int32.ofInt 0) (lx_beg (by decide)) k
  rw [k, x225]
/-! Model.dealt -/
def x223_23 (p : Nat → Nat) (v1 : Int32) (J : Nat → Nat → Int32) : Nat → Int32 → Int32 → Int32
  | 0, v2, v3 => if v1 = 0 then (x224 p v2 J)
    else v2
  | c + 1, v2, v3 => if ((Int32.ofInt 1) <<< ((J (p 4) 1) &&& 31)) ≤ v3 then if v1 = 0 then (x224 p v2 J)
      else v2
    else if (x224 p v2 J) < (x224 p v3 J) then if (x225 p v3 J) = 0 then (x223_23 p v1 J c v2 (v3 + (Int32.ofInt 1)))
        else (x223_23 p v1 J c v3 (v3 + (Int32.ofInt 1)))
      else if (x224 p v3 J) = (x224 p v2 J) then if (x214 v2) ≤ (x214 v3) then (x223_23 p v1 J c v2 (v3 + (Int32.ofInt 1)))
          else if (x225 p v3 J) = 0 then (x223_23 p v1 J c v2 (v3 + (Int32.ofInt 1)))
            else (x223_23 p v1 J c v3 (v3 + (Int32.ofInt 1)))
        else (x223_23 p v1 J c v2 (v3 + (Int32.ofInt 1)))
theorem xt223_23 {X : nt_X} {d : Nat} {M : nt_M} {o : Option Value × nt_M} {p : Nat → Nat} {v1 : Int32} {J : Nat → Nat → Int32} (hp : xs_P M p) : ∀ (c : Nat) (v2 : Int32) (v3 : Int32) (v4 : Int32), ((Int32.ofInt 1) <<< ((J (p 4) 1) &&& 31)).toInt - v3.toInt ≤ c → nt_rn X d 223 (23, [(0, .ref (p 0)), (1, .int v1), (2, .int v2), (3, .int v3), (4, .int v4)], [], me_w M J) o → o = (some (.int (x223_23 p v1 J c v2 v3)), me_w M J) := by
  intro c
  induction c with
  | zero =>
    intro v2 v3 v4 hc k
    have k := ly_revb 3 (c' := (26, [(0, .ref (p 0)), (1, .int v1), (2, .int v2), (3, .int v3), (4, .int v4)], [.ref (p 0), .int (Int32.ofInt 1), .int v3], me_w M J)) rfl k
    have k := lz_get (a := (p 0)) (g := 1127) (M := me_w M J) (v := .ref (p 4)) rfl (nt_gfR rfl (hp.1 (0, 27, 4) (by decide))) k
    have k := ly_revb 1 (c' := (30, [(0, .ref (p 0)), (1, .int v1), (2, .int v2), (3, .int v3), (4, .int v4)], [.int (Int32.ofInt 1), .ref (p 4), .int (Int32.ofInt 1), .int v3], me_w M J)) rfl k
    have k := mx_iald (v := J (p 4) 1) rfl (hp.2.2.1 4 (by omega)) ((congrArg (J (p 4)) (show (Int32.ofInt 1).toNatClampNeg = 1 from rfl)).trans (rfl)) k
    have k := ly_revb 2 (c' := (if ((Int32.ofInt 1) <<< ((J (p 4) 1) &&& 31)) ≤ v3 then 100 else 35, [(0, .ref (p 0)), (1, .int v1), (2, .int v2), (3, .int v3), (4, .int v4)], [], me_w M J)) rfl k
    have h32 : ((Int32.ofInt 1) <<< ((J (p 4) 1) &&& 31)) ≤ v3 := lx_end hc
    rw [if_pos h32] at k
    have k := ly_revb 2 (c' := (if v1 = 0 then 104 else 112, [(0, .ref (p 0)), (1, .int v1), (2, .int v2), (3, .int v3), (4, .int v4)], [], me_w M J)) rfl k
    by_cases h101 : v1 = 0
    · rw [if_pos h101] at k
      have k := ly_revb 2 (c' := (106, [(0, .ref (p 0)), (1, .int v1), (2, .int v2), (3, .int v3), (4, .int v4)], [.int v2, .ref (p 0)], me_w M J)) rfl k
      obtain ⟨d1, o1, ed, kc, k⟩ := lz_c (g := 224) (q := 1) (vs := [.ref (p 0), .int v2]) (rest := []) rfl rfl (by decide) (Or.inr (Or.inl ⟨_, rfl, rfl⟩)) rfl k
      have e1 := xt224 hp kc
      subst e1
      have k : nt_rn X _ 223 (109, [(0, .ref (p 0)), (1, .int v1), (2, .int v2), (3, .int v3), (4, .int v4)], [.int (x224 p v2 J)], me_w M J) _ := k
      have k := ly_revb 1 (c' := (113, [(0, .ref (p 0)), (1, .int v1), (2, .int v2), (3, .int v3), (4, .int v4)], [.int (x224 p v2 J)], me_w M J)) rfl k
      have k := lz_ri rfl (by decide) k
      rw [k, x223_23, if_pos h101]
    · rw [if_neg h101] at k
      have k := ly_revb 1 (c' := (113, [(0, .ref (p 0)), (1, .int v1), (2, .int v2), (3, .int v3), (4, .int v4)], [.int v2], me_w M J)) rfl k
      have k := lz_ri rfl (by decide) k
      rw [k, x223_23, if_neg h101]
  | succ c ih =>
    intro v2 v3 v4 hc k
    have k := ly_revb 3 (c' := (26, [(0, .ref (p 0)), (1, .int v1), (2, .int v2), (3, .int v3), (4, .int v4)], [.ref (p 0), .int (Int32.ofInt 1), .int v3], me_w M J)) rfl k
    have k := lz_get (a := (p 0)) (g := 1127) (M := me_w M J) (v := .ref (p 4)) rfl (nt_gfR rfl (hp.1 (0, 27, 4) (by decide))) k
    have k := ly_revb 1 (c' := (30, [(0, .ref (p 0)), (1, .int v1), (2, .int v2), (3, .int v3), (4, .int v4)], [.int (Int32.ofInt 1), .ref (p 4), .int (Int32.ofInt 1), .int v3], me_w M J)) rfl k
    have k := mx_iald (v := J (p 4) 1) rfl (hp.2.2.1 4 (by omega)) ((congrArg (J (p 4)) (show (Int32.ofInt 1).toNatClampNeg = 1 from rfl)).trans (rfl)) k
    have k := ly_revb 2 (c' := (if ((Int32.ofInt 1) <<< ((J (p 4) 1) &&& 31)) ≤ v3 then 100 else 35, [(0, .ref (p 0)), (1, .int v1), (2, .int v2), (3, .int v3), (4, .int v4)], [], me_w M J)) rfl k
    by_cases h32 : ((Int32.ofInt 1) <<< ((J (p 4) 1) &&& 31)) ≤ v3
    · rw [if_pos h32] at k
      have k := ly_revb 2 (c' := (if v1 = 0 then 104 else 112, [(0, .ref (p 0)), (1, .int v1), (2, .int v2), (3, .int v3), (4, .int v4)], [], me_w M J)) rfl k
      by_cases h101 : v1 = 0
      · rw [if_pos h101] at k
        have k := ly_revb 2 (c' := (106, [(0, .ref (p 0)), (1, .int v1), (2, .int v2), (3, .int v3), (4, .int v4)], [.int v2, .ref (p 0)], me_w M J)) rfl k
        obtain ⟨d1, o1, ed, kc, k⟩ := lz_c (g := 224) (q := 1) (vs := [.ref (p 0), .int v2]) (rest := []) rfl rfl (by decide) (Or.inr (Or.inl ⟨_, rfl, rfl⟩)) rfl k
        have e1 := xt224 hp kc
        subst e1
        have k : nt_rn X _ 223 (109, [(0, .ref (p 0)), (1, .int v1), (2, .int v2), (3, .int v3), (4, .int v4)], [.int (x224 p v2 J)], me_w M J) _ := k
        have k := ly_revb 1 (c' := (113, [(0, .ref (p 0)), (1, .int v1), (2, .int v2), (3, .int v3), (4, .int v4)], [.int (x224 p v2 J)], me_w M J)) rfl k
        have k := lz_ri rfl (by decide) k
        rw [k, x223_23, if_pos h32, if_pos h101]
      · rw [if_neg h101] at k
        have k := ly_revb 1 (c' := (113, [(0, .ref (p 0)), (1, .int v1), (2, .int v2), (3, .int v3), (4, .int v4)], [.int v2], me_w M J)) rfl k
        have k := lz_ri rfl (by decide) k
        rw [k, x223_23, if_pos h32, if_neg h101]
    · rw [if_neg h32] at k
      have k := ly_revb 2 (c' := (37, [(0, .ref (p 0)), (1, .int v1), (2, .int v2), (3, .int v3), (4, .int v4)], [.int v3, .ref (p 0)], me_w M J)) rfl k
      obtain ⟨d1, o1, ed, kc, k⟩ := lz_c (g := 224) (q := 1) (vs := [.ref (p 0), .int v3]) (rest := []) rfl rfl (by decide) (Or.inr (Or.inl ⟨_, rfl, rfl⟩)) rfl k
      have e1 := xt224 hp kc
      subst e1
      have k : nt_rn X _ 223 (40, [(0, .ref (p 0)), (1, .int v1), (2, .int v2), (3, .int v3), (4, .int v4)], [.int (x224 p v3 J)], me_w M J) _ := k
      have k := ly_revb 2 (c' := (42, [(0, .ref (p 0)), (1, .int v1), (2, .int v2), (3, .int v3), (4, .int v4)], [.int v2, .ref (p 0), .int (x224 p v3 J)], me_w M J)) rfl k
      obtain ⟨d1, o1, ed, kc, k⟩ := lz_c (g := 224) (q := 1) (vs := [.ref (p 0), .int v2]) (rest := [.int (x224 p v3 J)]) rfl rfl (by decide) (Or.inr (Or.inl ⟨_, rfl, rfl⟩)) rfl k
      have e1 := xt224 hp kc
      subst e1
      have k : nt_rn X _ 223 (45, [(0, .ref (p 0)), (1, .int v1), (2, .int v2), (3, .int v3), (4, .int v4)], [.int (x224 p v2 J), .int (x224 p v3 J)], me_w M J) _ := k
      have k := ly_revb 1 (c' := (if (x224 p v2 J) < (x224 p v3 J) then 72 else 48, [(0, .ref (p 0)), (1, .int v1), (2, .int v2), (3, .int v3), (4, .int v4)], [], me_w M J)) rfl k
      by_cases h45 : (x224 p v2 J) < (x224 p v3 J)
      · rw [if_pos h45] at k
        have k := ly_revb 5 (c' := (if (Int32.ofInt 1) = 0 then 94 else 84, [(4, .int (Int32.ofInt 1)), (0, .ref (p 0)), (1, .int v1), (2, .int v2), (3, .int v3)], [], me_w M J)) rfl k
        rw [if_neg (show ¬ ((Int32.ofInt 1) = 0) from by decide)] at k
        have k := ly_revb 2 (c' := (86, [(4, .int (Int32.ofInt 1)), (0, .ref (p 0)), (1, .int v1), (2, .int v2), (3, .int v3)], [.int v3, .ref (p 0)], me_w M J)) rfl k
        obtain ⟨d1, o1, ed, kc, k⟩ := lz_c (g := 225) (q := 1) (vs := [.ref (p 0), .int v3]) (rest := []) rfl rfl (by decide) (Or.inr (Or.inl ⟨_, rfl, rfl⟩)) rfl k
        have e1 := xt225 hp kc
        subst e1
        have k : nt_rn X _ 223 (89, [(4, .int (Int32.ofInt 1)), (0, .ref (p 0)), (1, .int v1), (2, .int v2), (3, .int v3)], [.int (x225 p v3 J)], me_w M J) _ := k
        have k := ly_revb 1 (c' := (if (x225 p v3 J) = 0 then 94 else 92, [(4, .int (Int32.ofInt 1)), (0, .ref (p 0)), (1, .int v1), (2, .int v2), (3, .int v3)], [], me_w M J)) rfl k
        by_cases h89 : (x225 p v3 J) = 0
        · rw [if_pos h89] at k
          have k := ly_revb 2 (c' := (23, [(3, .int (v3 + (Int32.ofInt 1))), (4, .int (Int32.ofInt 1)), (0, .ref (p 0)), (1, .int v1), (2, .int v2)], [], me_w M J)) rfl k
          have k := nt_rn_w (a := [(3, .int (v3 + (Int32.ofInt 1))), (4, .int (Int32.ofInt 1)), (0, .ref (p 0)), (1, .int v1), (2, .int v2)]) (b := [(0, .ref (p 0)), (1, .int v1), (2, .int v2), (3, .int (v3 + (Int32.ofInt 1))), (4, .int (Int32.ofInt 1))]) ⟨rfl, rfl, rfl, rfl, rfl, trivial⟩ rfl k
          have k := ih v2 (v3 + (Int32.ofInt 1)) (Int32.ofInt 1) (lx_dec h32 hc) k
          rw [k, x223_23, if_neg h32, if_pos h45, if_pos h89]
        · rw [if_neg h89] at k
          have k := ly_revb 4 (c' := (23, [(3, .int (v3 + (Int32.ofInt 1))), (2, .int v3), (4, .int (Int32.ofInt 1)), (0, .ref (p 0)), (1, .int v1)], [], me_w M J)) rfl k
          have k := nt_rn_w (a := [(3, .int (v3 + (Int32.ofInt 1))), (2, .int v3), (4, .int (Int32.ofInt 1)), (0, .ref (p 0)), (1, .int v1)]) (b := [(0, .ref (p 0)), (1, .int v1), (2, .int v3), (3, .int (v3 + (Int32.ofInt 1))), (4, .int (Int32.ofInt 1))]) ⟨rfl, rfl, rfl, rfl, rfl, trivial⟩ rfl k
          have k := ih v3 (v3 + (Int32.ofInt 1)) (Int32.ofInt 1) (lx_dec h32 hc) k
          rw [k, x223_23, if_neg h32, if_pos h45, if_neg h89]
      · rw [if_neg h45] at k
        have k := ly_revb 2 (c' := (50, [(0, .ref (p 0)), (1, .int v1), (2, .int v2), (3, .int v3), (4, .int v4)], [.int v3, .ref (p 0)], me_w M J)) rfl k
        obtain ⟨d1, o1, ed, kc, k⟩ := lz_c (g := 224) (q := 1) (vs := [.ref (p 0), .int v3]) (rest := []) rfl rfl (by decide) (Or.inr (Or.inl ⟨_, rfl, rfl⟩)) rfl k
        have e1 := xt224 hp kc
        subst e1
        have k : nt_rn X _ 223 (53, [(0, .ref (p 0)), (1, .int v1), (2, .int v2), (3, .int v3), (4, .int v4)], [.int (x224 p v3 J)], me_w M J) _ := k
        have k := ly_revb 2 (c' := (55, [(0, .ref (p 0)), (1, .int v1), (2, .int v2), (3, .int v3), (4, .int v4)], [.int v2, .ref (p 0), .int (x224 p v3 J)], me_w M J)) rfl k
        obtain ⟨d1, o1, ed, kc, k⟩ := lz_c (g := 224) (q := 1) (vs := [.ref (p 0), .int v2]) (rest := [.int (x224 p v3 J)]) rfl rfl (by decide) (Or.inr (Or.inl ⟨_, rfl, rfl⟩)) rfl k
        have e1 := xt224 hp kc
        subst e1
        have k : nt_rn X _ 223 (58, [(0, .ref (p 0)), (1, .int v1), (2, .int v2), (3, .int v3), (4, .int v4)], [.int (x224 p v2 J), .int (x224 p v3 J)], me_w M J) _ := k
        have k := ly_revb 1 (c' := (if (x224 p v3 J) = (x224 p v2 J) then 61 else 76, [(0, .ref (p 0)), (1, .int v1), (2, .int v2), (3, .int v3), (4, .int v4)], [], me_w M J)) rfl k
        by_cases h58 : (x224 p v3 J) = (x224 p v2 J)
        · rw [if_pos h58] at k
          have k := ly_revb 1 (c' := (62, [(0, .ref (p 0)), (1, .int v1), (2, .int v2), (3, .int v3), (4, .int v4)], [.int v3], me_w M J)) rfl k
          obtain ⟨d1, o1, ed, kc, k⟩ := lz_c (g := 214) (q := 0) (vs := [.int v3]) (rest := []) rfl rfl (by decide) (Or.inl ⟨_, rfl, rfl⟩) rfl k
          have e1 := xt214  kc
          subst e1
          have k : nt_rn X _ 223 (65, [(0, .ref (p 0)), (1, .int v1), (2, .int v2), (3, .int v3), (4, .int v4)], [.int (x214 v3)], me_w M J) _ := k
          have k := ly_revb 1 (c' := (66, [(0, .ref (p 0)), (1, .int v1), (2, .int v2), (3, .int v3), (4, .int v4)], [.int v2, .int (x214 v3)], me_w M J)) rfl k
          obtain ⟨d1, o1, ed, kc, k⟩ := lz_c (g := 214) (q := 0) (vs := [.int v2]) (rest := [.int (x214 v3)]) rfl rfl (by decide) (Or.inl ⟨_, rfl, rfl⟩) rfl k
          have e1 := xt214  kc
          subst e1
          have k : nt_rn X _ 223 (69, [(0, .ref (p 0)), (1, .int v1), (2, .int v2), (3, .int v3), (4, .int v4)], [.int (x214 v2), .int (x214 v3)], me_w M J) _ := k
          have k := ly_revb 1 (c' := (if (x214 v2) ≤ (x214 v3) then 76 else 72, [(0, .ref (p 0)), (1, .int v1), (2, .int v2), (3, .int v3), (4, .int v4)], [], me_w M J)) rfl k
          by_cases h69 : (x214 v2) ≤ (x214 v3)
          · rw [if_pos h69] at k
            have k := ly_revb 4 (c' := (if (Int32.ofInt 0) = 0 then 94 else 84, [(4, .int (Int32.ofInt 0)), (0, .ref (p 0)), (1, .int v1), (2, .int v2), (3, .int v3)], [], me_w M J)) rfl k
            rw [if_pos (show (Int32.ofInt 0) = 0 from by decide)] at k
            have k := ly_revb 2 (c' := (23, [(3, .int (v3 + (Int32.ofInt 1))), (4, .int (Int32.ofInt 0)), (0, .ref (p 0)), (1, .int v1), (2, .int v2)], [], me_w M J)) rfl k
            have k := nt_rn_w (a := [(3, .int (v3 + (Int32.ofInt 1))), (4, .int (Int32.ofInt 0)), (0, .ref (p 0)), (1, .int v1), (2, .int v2)]) (b := [(0, .ref (p 0)), (1, .int v1), (2, .int v2), (3, .int (v3 + (Int32.ofInt 1))), (4, .int (Int32.ofInt 0))]) ⟨rfl, rfl, rfl, rfl, rfl, trivial⟩ rfl k
            have k := ih v2 (v3 + (Int32.ofInt 1)) (Int32.ofInt 0) (lx_dec h32 hc) k
            rw [k, x223_23, if_neg h32, if_neg h45, if_pos h58, if_pos h69]
          · rw [if_neg h69] at k
            have k := ly_revb 5 (c' := (if (Int32.ofInt 1) = 0 then 94 else 84, [(4, .int (Int32.ofInt 1)), (0, .ref (p 0)), (1, .int v1), (2, .int v2), (3, .int v3)], [], me_w M J)) rfl k
            rw [if_neg (show ¬ ((Int32.ofInt 1) = 0) from by decide)] at k
            have k := ly_revb 2 (c' := (86, [(4, .int (Int32.ofInt 1)), (0, .ref (p 0)), (1, .int v1), (2, .int v2), (3, .int v3)], [.int v3, .ref (p 0)], me_w M J)) rfl k
            obtain ⟨d1, o1, ed, kc, k⟩ := lz_c (g := 225) (q := 1) (vs := [.ref (p 0), .int v3]) (rest := []) rfl rfl (by decide) (Or.inr (Or.inl ⟨_, rfl, rfl⟩)) rfl k
            have e1 := xt225 hp kc
            subst e1
            have k : nt_rn X _ 223 (89, [(4, .int (Int32.ofInt 1)), (0, .ref (p 0)), (1, .int v1), (2, .int v2), (3, .int v3)], [.int (x225 p v3 J)], me_w M J) _ := k
            have k := ly_revb 1 (c' := (if (x225 p v3 J) = 0 then 94 else 92, [(4, .int (Int32.ofInt 1)), (0, .ref (p 0)), (1, .int v1), (2, .int v2), (3, .int v3)], [], me_w M J)) rfl k
            by_cases h89 : (x225 p v3 J) = 0
            · rw [if_pos h89] at k
              have k := ly_revb 2 (c' := (23, [(3, .int (v3 + (Int32.ofInt 1))), (4, .int (Int32.ofInt 1)), (0, .ref (p 0)), (1, .int v1), (2, .int v2)], [], me_w M J)) rfl k
              have k := nt_rn_w (a := [(3, .int (v3 + (Int32.ofInt 1))), (4, .int (Int32.ofInt 1)), (0, .ref (p 0)), (1, .int v1), (2, .int v2)]) (b := [(0, .ref (p 0)), (1, .int v1), (2, .int v2), (3, .int (v3 + (Int32.ofInt 1))), (4, .int (Int32.ofInt 1))]) ⟨rfl, rfl, rfl, rfl, rfl, trivial⟩ rfl k
              have k := ih v2 (v3 + (Int32.ofInt 1)) (Int32.ofInt 1) (lx_dec h32 hc) k
              rw [k, x223_23, if_neg h32, if_neg h45, if_pos h58, if_neg h69, if_pos h89]
            · rw [if_neg h89] at k
              have k := ly_revb 4 (c' := (23, [(3, .int (v3 + (Int32.ofInt 1))), (2, .int v3), (4, .int (Int32.ofInt 1)), (0, .ref (p 0)), (1, .int v1)], [], me_w M J)) rfl k
              have k := nt_rn_w (a := [(3, .int (v3 + (Int32.ofInt 1))), (2, .int v3), (4, .int (Int32.ofInt 1)), (0, .ref (p 0)), (1, .int v1)]) (b := [(0, .ref (p 0)), (1, .int v1), (2, .int v3), (3, .int (v3 + (Int32.ofInt 1))), (4, .int (Int32.ofInt 1))]) ⟨rfl, rfl, rfl, rfl, rfl, trivial⟩ rfl k
              have k := ih v3 (v3 + (Int32.ofInt 1)) (Int32.ofInt 1) (lx_dec h32 hc) k
              rw [k, x223_23, if_neg h32, if_neg h45, if_pos h58, if_neg h69, if_neg h89]
        · rw [if_neg h58] at k
          have k := ly_revb 4 (c' := (if (Int32.ofInt 0) = 0 then 94 else 84, [(4, .int (Int32.ofInt 0)), (0, .ref (p 0)), (1, .int v1), (2, .int v2), (3, .int v3)], [], me_w M J)) rfl k
          rw [if_pos (show (Int32.ofInt 0) = 0 from by decide)] at k
          have k := ly_revb 2 (c' := (23, [(3, .int (v3 + (Int32.ofInt 1))), (4, .int (Int32.ofInt 0)), (0, .ref (p 0)), (1, .int v1), (2, .int v2)], [], me_w M J)) rfl k
          have k := nt_rn_w (a := [(3, .int (v3 + (Int32.ofInt 1))), (4, .int (Int32.ofInt 0)), (0, .ref (p 0)), (1, .int v1), (2, .int v2)]) (b := [(0, .ref (p 0)), (1, .int v1), (2, .int v2), (3, .int (v3 + (Int32.ofInt 1))), (4, .int (Int32.ofInt 0))]) ⟨rfl, rfl, rfl, rfl, rfl, trivial⟩ rfl k
          have k := ih v2 (v3 + (Int32.ofInt 1)) (Int32.ofInt 0) (lx_dec h32 hc) k
          rw [k, x223_23, if_neg h32, if_neg h45, if_neg h58]
theorem x223_23_rule {p : Nat → Nat} {v1 : Int32} {J : Nat → Nat → Int32} {I : Nat → Int32 → Int32 → Prop} {Q : Int32 → Prop} (h0 : ∀ (v2 : Int32) (v3 : Int32), I 0 v2 v3 → Q (if v1 = 0 then (x224 p v2 J)
    else v2)) (h1 : ∀ (c : Nat) (v2 : Int32) (v3 : Int32), I (c + 1) v2 v3 →
    if ((Int32.ofInt 1) <<< ((J (p 4) 1) &&& 31)) ≤ v3 then if v1 = 0 then (Q (x224 p v2 J))
      else (Q v2)
    else if (x224 p v2 J) < (x224 p v3 J) then if (x225 p v3 J) = 0 then (I c v2 (v3 + (Int32.ofInt 1)))
        else (I c v3 (v3 + (Int32.ofInt 1)))
      else if (x224 p v3 J) = (x224 p v2 J) then if (x214 v2) ≤ (x214 v3) then (I c v2 (v3 + (Int32.ofInt 1)))
          else if (x225 p v3 J) = 0 then (I c v2 (v3 + (Int32.ofInt 1)))
            else (I c v3 (v3 + (Int32.ofInt 1)))
        else (I c v2 (v3 + (Int32.ofInt 1)))) : ∀ (c : Nat) (v2 : Int32) (v3 : Int32), I c v2 v3 → Q (x223_23 p v1 J c v2 v3) := by
  intro c
  induction c with
  | zero =>
    intro v2 v3 hi
    rw [x223_23]
    exact h0 v2 v3 hi
  | succ c ih =>
    intro v2 v3 hi
    have hi := h1 c v2 v3 hi
    rw [x223_23]
    by_cases h : ((Int32.ofInt 1) <<< ((J (p 4) 1) &&& 31)) ≤ v3
    · rw [if_pos h] at hi ⊢
      by_cases h : v1 = 0
      · rw [if_pos h] at hi ⊢
        exact hi
      · rw [if_neg h] at hi ⊢
        exact hi
    · rw [if_neg h] at hi ⊢
      by_cases h : (x224 p v2 J) < (x224 p v3 J)
      · rw [if_pos h] at hi ⊢
        by_cases h : (x225 p v3 J) = 0
        · rw [if_pos h] at hi ⊢
          exact ih _ _ hi
        · rw [if_neg h] at hi ⊢
          exact ih _ _ hi
      · rw [if_neg h] at hi ⊢
        by_cases h : (x224 p v3 J) = (x224 p v2 J)
        · rw [if_pos h] at hi ⊢
          by_cases h : (x214 v2) ≤ (x214 v3)
          · rw [if_pos h] at hi ⊢
            exact ih _ _ hi
          · rw [if_neg h] at hi ⊢
            by_cases h : (x225 p v3 J) = 0
            · rw [if_pos h] at hi ⊢
              exact ih _ _ hi
            · rw [if_neg h] at hi ⊢
              exact ih _ _ hi
        · rw [if_neg h] at hi ⊢
          exact ih _ _ hi
def x223 (p : Nat → Nat) (v1 : Int32) (J : Nat → Nat → Int32) : Int32 := if (x188 p J) = 0 then (Int32.ofInt (-1))
  else if (x145 v1.toInt64 (Int64.ofNat 0) (Int64.ofNat 1)) = 0 then (Int32.ofInt (-1))
    else (x223_23 p v1 J (((Int32.ofInt 1) <<< ((J (p 4) 1) &&& 31)).toNatClampNeg) (Int32.ofInt 0) (Int32.ofInt 1))
theorem xt223 {X : nt_X} {d : Nat} {M : nt_M} {o : Option Value × nt_M} {p : Nat → Nat} {v1 : Int32} {J : Nat → Nat → Int32} (hp : xs_P M p) (k : nt_ev X d 223 [.ref (p 0), .int v1] (me_w M J) o) : o = (some (.int (x223 p v1 J)), me_w M J) := by
  have k : nt_rn X d 223 (0, [(0, .ref (p 0)), (1, .int v1)], [], me_w M J) o := k
  have k := ly_revb 1 (c' := (1, [(0, .ref (p 0)), (1, .int v1)], [.ref (p 0)], me_w M J)) rfl k
  obtain ⟨d1, o1, ed, kc, k⟩ := lz_c (g := 188) (q := 1) (vs := [.ref (p 0)]) (rest := []) rfl rfl (by decide) (Or.inr (Or.inl ⟨_, rfl, rfl⟩)) rfl k
  have e1 := xt188 hp kc
  subst e1
  have k : nt_rn X _ 223 (4, [(0, .ref (p 0)), (1, .int v1)], [.int (x188 p J)], me_w M J) _ := k
  have k := ly_revb 1 (c' := (if (x188 p J) = 0 then 17 else 7, [(0, .ref (p 0)), (1, .int v1)], [], me_w M J)) rfl k
  by_cases h4 : (x188 p J) = 0
  · rw [if_pos h4] at k
    have k := ly_revb 1 (c' := (18, [(0, .ref (p 0)), (1, .int v1)], [.int (Int32.ofInt (-1))], me_w M J)) rfl k
    have k := lz_ri rfl (by decide) k
    rw [k, x223, if_pos h4]
  · rw [if_neg h4] at k
    have k := ly_revb 4 (c' := (11, [(0, .ref (p 0)), (1, .int v1)], [.long (Int64.ofNat 1), .long (Int64.ofNat 0), .long v1.toInt64], me_w M J)) rfl k
    obtain ⟨d1, o1, ed, kc, k⟩ := lz_c (g := 145) (q := 0) (vs := [.long v1.toInt64, .long (Int64.ofNat 0), .long (Int64.ofNat 1)]) (rest := []) rfl rfl (by decide) (Or.inl ⟨_, rfl, rfl⟩) rfl k
    have e1 := xt145  kc
    subst e1
    have k : nt_rn X _ 223 (14, [(0, .ref (p 0)), (1, .int v1)], [.int (x145 v1.toInt64 (Int64.ofNat 0) (Int64.ofNat 1))], me_w M J) _ := k
    have k := ly_revb 1 (c' := (if (x145 v1.toInt64 (Int64.ofNat 0) (Int64.ofNat 1)) = 0 then 17 else 19, [(0, .ref (p 0)), (1, .int v1)], [], me_w M J)) rfl k
    by_cases h14 : (x145 v1.toInt64 (Int64.ofNat 0) (Int64.ofNat 1)) = 0
    · rw [if_pos h14] at k
      have k := ly_revb 1 (c' := (18, [(0, .ref (p 0)), (1, .int v1)], [.int (Int32.ofInt (-1))], me_w M J)) rfl k
      have k := lz_ri rfl (by decide) k
      rw [k, x223, if_neg h4, if_pos h14]
    · rw [if_neg h14] at k
      have k := ly_revb 4 (c' := (23, [(3, .int (Int32.ofInt 1)), (2, .int (Int32.ofInt 0)), (0, .ref (p 0)), (1, .int v1)], [], me_w M J)) rfl k
      have k := nt_rn_w (a := [(3, .int (Int32.ofInt 1)), (2, .int (Int32.ofInt 0)), (0, .ref (p 0)), (1, .int v1)]) (b := [(0, .ref (p 0)), (1, .int v1), (2, .int (Int32.ofInt 0)), (3, .int (Int32.ofInt 1)), (4, .int (Int32.ofInt 0))]) ⟨rfl, rfl, rfl, rfl, trivial⟩ rfl k
      have k := xt223_23 hp  (((Int32.ofInt 1) <<< ((J (p 4) 1) &&& 31)).toNatClampNeg) (Int32.ofInt 0) (Int32.ofInt 1) (Int32.ofInt 0) (lx_beg (by decide)) k
      rw [k, x223, if_neg h4, if_neg h14]
/-! Model.leastRot -/
def x216_6 (p : Nat → Nat) (v1 : Int32) (v2 : Int32) (v3 : Int32) (J : Nat → Nat → Int32) : Nat → Int32 → Int32 → Int32
  | 0, v4, v5 => v4
  | c + 1, v4, v5 => if (J (p 4) 2) ≤ v5 then v4
    else if (x183 p v5 J) = 0 then (x216_6 p v1 v2 v3 J c v4 (v5 + (Int32.ofInt 1)))
      else if (x173 p v5 (Int32.ofInt 0) J) = v1 then if (x173 p v5 (Int32.ofInt 1) J) < v2 then (x216_6 p v1 v2 v3 J c v4 (v5 + (Int32.ofInt 1)))
          else if (x209 v3 v5) = 0 then if v4 < 0 then (x216_6 p v1 v2 v3 J c v5 (v5 + (Int32.ofInt 1)))
              else if (x173 p v4 (Int32.ofInt 1) J) ≤ (x173 p v5 (Int32.ofInt 1) J) then (x216_6 p v1 v2 v3 J c v4 (v5 + (Int32.ofInt 1)))
                else (x216_6 p v1 v2 v3 J c v5 (v5 + (Int32.ofInt 1)))
            else (x216_6 p v1 v2 v3 J c v4 (v5 + (Int32.ofInt 1)))
        else (x216_6 p v1 v2 v3 J c v4 (v5 + (Int32.ofInt 1)))
theorem xt216_6 {X : nt_X} {d : Nat} {M : nt_M} {o : Option Value × nt_M} {p : Nat → Nat} {v1 : Int32} {v2 : Int32} {v3 : Int32} {J : Nat → Nat → Int32} (hp : xs_P M p) : ∀ (c : Nat) (v4 : Int32) (v5 : Int32), (J (p 4) 2).toInt - v5.toInt ≤ c → nt_rn X d 216 (6, [(0, .ref (p 0)), (1, .int v1), (2, .int v2), (3, .int v3), (4, .int v4), (5, .int v5)], [], me_w M J) o → o = (some (.int (x216_6 p v1 v2 v3 J c v4 v5)), me_w M J) := by
  intro c
  induction c with
  | zero =>
    intro v4 v5 hc k
    have k := ly_revb 2 (c' := (9, [(0, .ref (p 0)), (1, .int v1), (2, .int v2), (3, .int v3), (4, .int v4), (5, .int v5)], [.ref (p 0), .int v5], me_w M J)) rfl k
    have k := lz_get (a := (p 0)) (g := 1127) (M := me_w M J) (v := .ref (p 4)) rfl (nt_gfR rfl (hp.1 (0, 27, 4) (by decide))) k
    have k := ly_revb 1 (c' := (13, [(0, .ref (p 0)), (1, .int v1), (2, .int v2), (3, .int v3), (4, .int v4), (5, .int v5)], [.int (Int32.ofInt 2), .ref (p 4), .int v5], me_w M J)) rfl k
    have k := mx_iald (v := J (p 4) 2) rfl (hp.2.2.1 4 (by omega)) ((congrArg (J (p 4)) (show (Int32.ofInt 2).toNatClampNeg = 2 from rfl)).trans (rfl)) k
    have k := ly_revb 1 (c' := (if (J (p 4) 2) ≤ v5 then 97 else 17, [(0, .ref (p 0)), (1, .int v1), (2, .int v2), (3, .int v3), (4, .int v4), (5, .int v5)], [], me_w M J)) rfl k
    have h14 : (J (p 4) 2) ≤ v5 := lx_end hc
    rw [if_pos h14] at k
    have k := ly_revb 1 (c' := (99, [(0, .ref (p 0)), (1, .int v1), (2, .int v2), (3, .int v3), (4, .int v4), (5, .int v5)], [.int v4], me_w M J)) rfl k
    have k := lz_ri rfl (by decide) k
    rw [k, x216_6]
  | succ c ih =>
    intro v4 v5 hc k
    have k := ly_revb 2 (c' := (9, [(0, .ref (p 0)), (1, .int v1), (2, .int v2), (3, .int v3), (4, .int v4), (5, .int v5)], [.ref (p 0), .int v5], me_w M J)) rfl k
    have k := lz_get (a := (p 0)) (g := 1127) (M := me_w M J) (v := .ref (p 4)) rfl (nt_gfR rfl (hp.1 (0, 27, 4) (by decide))) k
    have k := ly_revb 1 (c' := (13, [(0, .ref (p 0)), (1, .int v1), (2, .int v2), (3, .int v3), (4, .int v4), (5, .int v5)], [.int (Int32.ofInt 2), .ref (p 4), .int v5], me_w M J)) rfl k
    have k := mx_iald (v := J (p 4) 2) rfl (hp.2.2.1 4 (by omega)) ((congrArg (J (p 4)) (show (Int32.ofInt 2).toNatClampNeg = 2 from rfl)).trans (rfl)) k
    have k := ly_revb 1 (c' := (if (J (p 4) 2) ≤ v5 then 97 else 17, [(0, .ref (p 0)), (1, .int v1), (2, .int v2), (3, .int v3), (4, .int v4), (5, .int v5)], [], me_w M J)) rfl k
    by_cases h14 : (J (p 4) 2) ≤ v5
    · rw [if_pos h14] at k
      have k := ly_revb 1 (c' := (99, [(0, .ref (p 0)), (1, .int v1), (2, .int v2), (3, .int v3), (4, .int v4), (5, .int v5)], [.int v4], me_w M J)) rfl k
      have k := lz_ri rfl (by decide) k
      rw [k, x216_6, if_pos h14]
    · rw [if_neg h14] at k
      have k := ly_revb 2 (c' := (20, [(0, .ref (p 0)), (1, .int v1), (2, .int v2), (3, .int v3), (4, .int v4), (5, .int v5)], [.int v5, .ref (p 0)], me_w M J)) rfl k
      obtain ⟨d1, o1, ed, kc, k⟩ := lz_c (g := 183) (q := 1) (vs := [.ref (p 0), .int v5]) (rest := []) rfl rfl (by decide) (Or.inr (Or.inl ⟨_, rfl, rfl⟩)) rfl k
      have e1 := xt183 hp kc
      subst e1
      have k : nt_rn X _ 216 (23, [(0, .ref (p 0)), (1, .int v1), (2, .int v2), (3, .int v3), (4, .int v4), (5, .int v5)], [.int (x183 p v5 J)], me_w M J) _ := k
      have k := ly_revb 1 (c' := (if (x183 p v5 J) = 0 then 91 else 26, [(0, .ref (p 0)), (1, .int v1), (2, .int v2), (3, .int v3), (4, .int v4), (5, .int v5)], [], me_w M J)) rfl k
      by_cases h23 : (x183 p v5 J) = 0
      · rw [if_pos h23] at k
        have k := ly_revb 2 (c' := (6, [(5, .int (v5 + (Int32.ofInt 1))), (0, .ref (p 0)), (1, .int v1), (2, .int v2), (3, .int v3), (4, .int v4)], [], me_w M J)) rfl k
        have k := nt_rn_w (a := [(5, .int (v5 + (Int32.ofInt 1))), (0, .ref (p 0)), (1, .int v1), (2, .int v2), (3, .int v3), (4, .int v4)]) (b := [(0, .ref (p 0)), (1, .int v1), (2, .int v2), (3, .int v3), (4, .int v4), (5, .int (v5 + (Int32.ofInt 1)))]) ⟨rfl, rfl, rfl, rfl, rfl, rfl, trivial⟩ rfl k
        have k := ih v4 (v5 + (Int32.ofInt 1)) (lx_dec h14 hc) k
        rw [k, x216_6, if_neg h14, if_pos h23]
      · rw [if_neg h23] at k
        have k := ly_revb 3 (c' := (30, [(0, .ref (p 0)), (1, .int v1), (2, .int v2), (3, .int v3), (4, .int v4), (5, .int v5)], [.int (Int32.ofInt 0), .int v5, .ref (p 0)], me_w M J)) rfl k
        obtain ⟨d1, o1, ed, kc, k⟩ := lz_c (g := 173) (q := 1) (vs := [.ref (p 0), .int v5, .int (Int32.ofInt 0)]) (rest := []) rfl rfl (by decide) (Or.inr (Or.inl ⟨_, rfl, rfl⟩)) rfl k
        have e1 := xt173 hp kc
        subst e1
        have k : nt_rn X _ 216 (33, [(0, .ref (p 0)), (1, .int v1), (2, .int v2), (3, .int v3), (4, .int v4), (5, .int v5)], [.int (x173 p v5 (Int32.ofInt 0) J)], me_w M J) _ := k
        have k := ly_revb 2 (c' := (if (x173 p v5 (Int32.ofInt 0) J) = v1 then 37 else 91, [(0, .ref (p 0)), (1, .int v1), (2, .int v2), (3, .int v3), (4, .int v4), (5, .int v5)], [], me_w M J)) rfl k
        by_cases h34 : (x173 p v5 (Int32.ofInt 0) J) = v1
        · rw [if_pos h34] at k
          have k := ly_revb 3 (c' := (41, [(0, .ref (p 0)), (1, .int v1), (2, .int v2), (3, .int v3), (4, .int v4), (5, .int v5)], [.int (Int32.ofInt 1), .int v5, .ref (p 0)], me_w M J)) rfl k
          obtain ⟨d1, o1, ed, kc, k⟩ := lz_c (g := 173) (q := 1) (vs := [.ref (p 0), .int v5, .int (Int32.ofInt 1)]) (rest := []) rfl rfl (by decide) (Or.inr (Or.inl ⟨_, rfl, rfl⟩)) rfl k
          have e1 := xt173 hp kc
          subst e1
          have k : nt_rn X _ 216 (44, [(0, .ref (p 0)), (1, .int v1), (2, .int v2), (3, .int v3), (4, .int v4), (5, .int v5)], [.int (x173 p v5 (Int32.ofInt 1) J)], me_w M J) _ := k
          have k := ly_revb 2 (c' := (if (x173 p v5 (Int32.ofInt 1) J) < v2 then 91 else 48, [(0, .ref (p 0)), (1, .int v1), (2, .int v2), (3, .int v3), (4, .int v4), (5, .int v5)], [], me_w M J)) rfl k
          by_cases h45 : (x173 p v5 (Int32.ofInt 1) J) < v2
          · rw [if_pos h45] at k
            have k := ly_revb 2 (c' := (6, [(5, .int (v5 + (Int32.ofInt 1))), (0, .ref (p 0)), (1, .int v1), (2, .int v2), (3, .int v3), (4, .int v4)], [], me_w M J)) rfl k
            have k := nt_rn_w (a := [(5, .int (v5 + (Int32.ofInt 1))), (0, .ref (p 0)), (1, .int v1), (2, .int v2), (3, .int v3), (4, .int v4)]) (b := [(0, .ref (p 0)), (1, .int v1), (2, .int v2), (3, .int v3), (4, .int v4), (5, .int (v5 + (Int32.ofInt 1)))]) ⟨rfl, rfl, rfl, rfl, rfl, rfl, trivial⟩ rfl k
            have k := ih v4 (v5 + (Int32.ofInt 1)) (lx_dec h14 hc) k
            rw [k, x216_6, if_neg h14, if_neg h23, if_pos h34, if_pos h45]
          · rw [if_neg h45] at k
            have k := ly_revb 2 (c' := (51, [(0, .ref (p 0)), (1, .int v1), (2, .int v2), (3, .int v3), (4, .int v4), (5, .int v5)], [.int v5, .int v3], me_w M J)) rfl k
            obtain ⟨d1, o1, ed, kc, k⟩ := lz_c (g := 209) (q := 0) (vs := [.int v3, .int v5]) (rest := []) rfl rfl (by decide) (Or.inl ⟨_, rfl, rfl⟩) rfl k
            have e1 := xt209  kc
            subst e1
            have k : nt_rn X _ 216 (54, [(0, .ref (p 0)), (1, .int v1), (2, .int v2), (3, .int v3), (4, .int v4), (5, .int v5)], [.int (x209 v3 v5)], me_w M J) _ := k
            have k := ly_revb 1 (c' := (if (x209 v3 v5) = 0 then 60 else 57, [(0, .ref (p 0)), (1, .int v1), (2, .int v2), (3, .int v3), (4, .int v4), (5, .int v5)], [], me_w M J)) rfl k
            by_cases h54 : (x209 v3 v5) = 0
            · rw [if_pos h54] at k
              have k := ly_revb 2 (c' := (if v4 < 0 then 82 else 65, [(0, .ref (p 0)), (1, .int v1), (2, .int v2), (3, .int v3), (4, .int v4), (5, .int v5)], [], me_w M J)) rfl k
              by_cases h62 : v4 < 0
              · rw [if_pos h62] at k
                have k := ly_revb 5 (c' := (6, [(5, .int (v5 + (Int32.ofInt 1))), (4, .int v5), (0, .ref (p 0)), (1, .int v1), (2, .int v2), (3, .int v3)], [], me_w M J)) rfl k
                have k := nt_rn_w (a := [(5, .int (v5 + (Int32.ofInt 1))), (4, .int v5), (0, .ref (p 0)), (1, .int v1), (2, .int v2), (3, .int v3)]) (b := [(0, .ref (p 0)), (1, .int v1), (2, .int v2), (3, .int v3), (4, .int v5), (5, .int (v5 + (Int32.ofInt 1)))]) ⟨rfl, rfl, rfl, rfl, rfl, rfl, trivial⟩ rfl k
                have k := ih v5 (v5 + (Int32.ofInt 1)) (lx_dec h14 hc) k
                rw [k, x216_6, if_neg h14, if_neg h23, if_pos h34, if_neg h45, if_pos h54, if_pos h62]
              · rw [if_neg h62] at k
                have k := ly_revb 3 (c' := (69, [(0, .ref (p 0)), (1, .int v1), (2, .int v2), (3, .int v3), (4, .int v4), (5, .int v5)], [.int (Int32.ofInt 1), .int v5, .ref (p 0)], me_w M J)) rfl k
                obtain ⟨d1, o1, ed, kc, k⟩ := lz_c (g := 173) (q := 1) (vs := [.ref (p 0), .int v5, .int (Int32.ofInt 1)]) (rest := []) rfl rfl (by decide) (Or.inr (Or.inl ⟨_, rfl, rfl⟩)) rfl k
                have e1 := xt173 hp kc
                subst e1
                have k : nt_rn X _ 216 (72, [(0, .ref (p 0)), (1, .int v1), (2, .int v2), (3, .int v3), (4, .int v4), (5, .int v5)], [.int (x173 p v5 (Int32.ofInt 1) J)], me_w M J) _ := k
                have k := ly_revb 3 (c' := (76, [(0, .ref (p 0)), (1, .int v1), (2, .int v2), (3, .int v3), (4, .int v4), (5, .int v5)], [.int (Int32.ofInt 1), .int v4, .ref (p 0), .int (x173 p v5 (Int32.ofInt 1) J)], me_w M J)) rfl k
                obtain ⟨d1, o1, ed, kc, k⟩ := lz_c (g := 173) (q := 1) (vs := [.ref (p 0), .int v4, .int (Int32.ofInt 1)]) (rest := [.int (x173 p v5 (Int32.ofInt 1) J)]) rfl rfl (by decide) (Or.inr (Or.inl ⟨_, rfl, rfl⟩)) rfl k
                have e1 := xt173 hp kc
                subst e1
                have k : nt_rn X _ 216 (79, [(0, .ref (p 0)), (1, .int v1), (2, .int v2), (3, .int v3), (4, .int v4), (5, .int v5)], [.int (x173 p v4 (Int32.ofInt 1) J), .int (x173 p v5 (Int32.ofInt 1) J)], me_w M J) _ := k
                have k := ly_revb 1 (c' := (if (x173 p v4 (Int32.ofInt 1) J) ≤ (x173 p v5 (Int32.ofInt 1) J) then 87 else 82, [(0, .ref (p 0)), (1, .int v1), (2, .int v2), (3, .int v3), (4, .int v4), (5, .int v5)], [], me_w M J)) rfl k
                by_cases h79 : (x173 p v4 (Int32.ofInt 1) J) ≤ (x173 p v5 (Int32.ofInt 1) J)
                · rw [if_pos h79] at k
                  have k := ly_revb 4 (c' := (6, [(5, .int (v5 + (Int32.ofInt 1))), (4, .int v4), (0, .ref (p 0)), (1, .int v1), (2, .int v2), (3, .int v3)], [], me_w M J)) rfl k
                  have k := nt_rn_w (a := [(5, .int (v5 + (Int32.ofInt 1))), (4, .int v4), (0, .ref (p 0)), (1, .int v1), (2, .int v2), (3, .int v3)]) (b := [(0, .ref (p 0)), (1, .int v1), (2, .int v2), (3, .int v3), (4, .int v4), (5, .int (v5 + (Int32.ofInt 1)))]) ⟨rfl, rfl, rfl, rfl, rfl, rfl, trivial⟩ rfl k
                  have k := ih v4 (v5 + (Int32.ofInt 1)) (lx_dec h14 hc) k
                  rw [k, x216_6, if_neg h14, if_neg h23, if_pos h34, if_neg h45, if_pos h54, if_neg h62, if_pos h79]
                · rw [if_neg h79] at k
                  have k := ly_revb 5 (c' := (6, [(5, .int (v5 + (Int32.ofInt 1))), (4, .int v5), (0, .ref (p 0)), (1, .int v1), (2, .int v2), (3, .int v3)], [], me_w M J)) rfl k
                  have k := nt_rn_w (a := [(5, .int (v5 + (Int32.ofInt 1))), (4, .int v5), (0, .ref (p 0)), (1, .int v1), (2, .int v2), (3, .int v3)]) (b := [(0, .ref (p 0)), (1, .int v1), (2, .int v2), (3, .int v3), (4, .int v5), (5, .int (v5 + (Int32.ofInt 1)))]) ⟨rfl, rfl, rfl, rfl, rfl, rfl, trivial⟩ rfl k
                  have k := ih v5 (v5 + (Int32.ofInt 1)) (lx_dec h14 hc) k
                  rw [k, x216_6, if_neg h14, if_neg h23, if_pos h34, if_neg h45, if_pos h54, if_neg h62, if_neg h79]
            · rw [if_neg h54] at k
              have k := ly_revb 3 (c' := (6, [(5, .int (v5 + (Int32.ofInt 1))), (0, .ref (p 0)), (1, .int v1), (2, .int v2), (3, .int v3), (4, .int v4)], [], me_w M J)) rfl k
              have k := nt_rn_w (a := [(5, .int (v5 + (Int32.ofInt 1))), (0, .ref (p 0)), (1, .int v1), (2, .int v2), (3, .int v3), (4, .int v4)]) (b := [(0, .ref (p 0)), (1, .int v1), (2, .int v2), (3, .int v3), (4, .int v4), (5, .int (v5 + (Int32.ofInt 1)))]) ⟨rfl, rfl, rfl, rfl, rfl, rfl, trivial⟩ rfl k
              have k := ih v4 (v5 + (Int32.ofInt 1)) (lx_dec h14 hc) k
              rw [k, x216_6, if_neg h14, if_neg h23, if_pos h34, if_neg h45, if_neg h54]
        · rw [if_neg h34] at k
          have k := ly_revb 2 (c' := (6, [(5, .int (v5 + (Int32.ofInt 1))), (0, .ref (p 0)), (1, .int v1), (2, .int v2), (3, .int v3), (4, .int v4)], [], me_w M J)) rfl k
          have k := nt_rn_w (a := [(5, .int (v5 + (Int32.ofInt 1))), (0, .ref (p 0)), (1, .int v1), (2, .int v2), (3, .int v3), (4, .int v4)]) (b := [(0, .ref (p 0)), (1, .int v1), (2, .int v2), (3, .int v3), (4, .int v4), (5, .int (v5 + (Int32.ofInt 1)))]) ⟨rfl, rfl, rfl, rfl, rfl, rfl, trivial⟩ rfl k
          have k := ih v4 (v5 + (Int32.ofInt 1)) (lx_dec h14 hc) k
          rw [k, x216_6, if_neg h14, if_neg h23, if_neg h34]
theorem x216_6_rule {p : Nat → Nat} {v1 : Int32} {v2 : Int32} {v3 : Int32} {J : Nat → Nat → Int32} {I : Nat → Int32 → Int32 → Prop} {Q : Int32 → Prop} (h0 : ∀ (v4 : Int32) (v5 : Int32), I 0 v4 v5 → Q v4) (h1 : ∀ (c : Nat) (v4 : Int32) (v5 : Int32), I (c + 1) v4 v5 →
    if (J (p 4) 2) ≤ v5 then (Q v4)
    else if (x183 p v5 J) = 0 then (I c v4 (v5 + (Int32.ofInt 1)))
      else if (x173 p v5 (Int32.ofInt 0) J) = v1 then if (x173 p v5 (Int32.ofInt 1) J) < v2 then (I c v4 (v5 + (Int32.ofInt 1)))
          else if (x209 v3 v5) = 0 then if v4 < 0 then (I c v5 (v5 + (Int32.ofInt 1)))
              else if (x173 p v4 (Int32.ofInt 1) J) ≤ (x173 p v5 (Int32.ofInt 1) J) then (I c v4 (v5 + (Int32.ofInt 1)))
                else (I c v5 (v5 + (Int32.ofInt 1)))
            else (I c v4 (v5 + (Int32.ofInt 1)))
        else (I c v4 (v5 + (Int32.ofInt 1)))) : ∀ (c : Nat) (v4 : Int32) (v5 : Int32), I c v4 v5 → Q (x216_6 p v1 v2 v3 J c v4 v5) := by
  intro c
  induction c with
  | zero =>
    intro v4 v5 hi
    rw [x216_6]
    exact h0 v4 v5 hi
  | succ c ih =>
    intro v4 v5 hi
    have hi := h1 c v4 v5 hi
    rw [x216_6]
    by_cases h : (J (p 4) 2) ≤ v5
    · rw [if_pos h] at hi ⊢
      exact hi
    · rw [if_neg h] at hi ⊢
      by_cases h : (x183 p v5 J) = 0
      · rw [if_pos h] at hi ⊢
        exact ih _ _ hi
      · rw [if_neg h] at hi ⊢
        by_cases h : (x173 p v5 (Int32.ofInt 0) J) = v1
        · rw [if_pos h] at hi ⊢
          by_cases h : (x173 p v5 (Int32.ofInt 1) J) < v2
          · rw [if_pos h] at hi ⊢
            exact ih _ _ hi
          · rw [if_neg h] at hi ⊢
            by_cases h : (x209 v3 v5) = 0
            · rw [if_pos h] at hi ⊢
              by_cases h : v4 < 0
              · rw [if_pos h] at hi ⊢
                exact ih _ _ hi
              · rw [if_neg h] at hi ⊢
                by_cases h : (x173 p v4 (Int32.ofInt 1) J) ≤ (x173 p v5 (Int32.ofInt 1) J)
                · rw [if_pos h] at hi ⊢
                  exact ih _ _ hi
                · rw [if_neg h] at hi ⊢
                  exact ih _ _ hi
            · rw [if_neg h] at hi ⊢
              exact ih _ _ hi
        · rw [if_neg h] at hi ⊢
          exact ih _ _ hi
def x216 (p : Nat → Nat) (v1 : Int32) (v2 : Int32) (v3 : Int32) (J : Nat → Nat → Int32) : Int32 := (x216_6 p v1 v2 v3 J ((J (p 4) 2).toNatClampNeg) (Int32.ofInt (-1)) (Int32.ofInt 0))
theorem xt216 {X : nt_X} {d : Nat} {M : nt_M} {o : Option Value × nt_M} {p : Nat → Nat} {v1 : Int32} {v2 : Int32} {v3 : Int32} {J : Nat → Nat → Int32} (hp : xs_P M p) (k : nt_ev X d 216 [.ref (p 0), .int v1, .int v2, .int v3] (me_w M J) o) : o = (some (.int (x216 p v1 v2 v3 J)), me_w M J) := by
  have k : nt_rn X d 216 (0, [(0, .ref (p 0)), (1, .int v1), (2, .int v2), (3, .int v3)], [], me_w M J) o := k
  have k := ly_revb 4 (c' := (6, [(5, .int (Int32.ofInt 0)), (4, .int (Int32.ofInt (-1))), (0, .ref (p 0)), (1, .int v1), (2, .int v2), (3, .int v3)], [], me_w M J)) rfl k
  have k := nt_rn_w (a := [(5, .int (Int32.ofInt 0)), (4, .int (Int32.ofInt (-1))), (0, .ref (p 0)), (1, .int v1), (2, .int v2), (3, .int v3)]) (b := [(0, .ref (p 0)), (1, .int v1), (2, .int v2), (3, .int v3), (4, .int (Int32.ofInt (-1))), (5, .int (Int32.ofInt 0))]) ⟨rfl, rfl, rfl, rfl, rfl, rfl, trivial⟩ rfl k
  have k := xt216_6 hp  ((J (p 4) 2).toNatClampNeg) (Int32.ofInt (-1)) (Int32.ofInt 0) (lx_beg (by decide)) k
  rw [k, x216]
